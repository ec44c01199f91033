/-! the law from its entry -/
theorem xD_ok {T : Nat → ClassId} {ad : Nat → Nat} {L : List xD} {M : xM} {A : Nat → Prop} (h : va_D A (xW T ad L M)) (h2 : L.all (fun d => match d with | .inl _ => true | .inr q => decide (q.2 < 2147483648)) = true) : xOk ad L ∧ ∀ i, i < L.length → A (ad i) := by
  refine ⟨xOk_of (fun i j hi hj e => ?_) h2, fun i hi => ?_⟩
  · exact h.1 i j _ _ (xW_get (List.getElem?_eq_getElem hi)) (xW_get (List.getElem?_eq_getElem hj)) e
  · exact h.2 i _ (xW_get (List.getElem?_eq_getElem hi))
theorem nest_ok {w : Cond} {A : Array Value} {s : State} (hc : w.onTables = true) (h : w.before A s = true) : va_Nw w s := va_tabs hc rfl h
set_option maxRecDepth 100000 in
theorem nest_7 : ∀ q ∈ xNest, Cond.methodLinkNest q.1 q.2.1 q.2.2.1 q.2.2.2 ∈ lw_tbl := by decide +kernel
set_option maxRecDepth 100000 in
theorem nest_2 : ∀ q ∈ xNest5, Cond.methodLinkNest q.1 q.2.1 q.2.2.1 q.2.2.2 ∈ lw_tbl := by decide +kernel
set_option maxHeartbeats 4000000 in
set_option maxRecDepth 100000 in
/-- THE LAW, from its entry -/
theorem whole_start {p : Program} {e : Env} {s : State} {m : MethodId} {below : List Frame} {meth : Method} {c : Code} (l : Launch) {b L : Nat} {xs : Nat → Int32} (hL : L ≤ 2048) (C0 : lw_At p s m meth c b L xs) : W p l e room_1 s m #[Value.ref b] below meth c s.heap [] 0 0 (lw_Z below #[Value.ref b] s) (entryFrame m ([Value.ref b] : List Value).toArray 4) := by
  obtain ⟨hx, hb, hr, hml, hown, hts0, hX, hbl, hlocks, hgv⟩ := id C0
  have hts : ∀ w ∈ xtb, w.before #[Value.ref b] s = true := fun w hw => hts0 w (List.mem_filter.mp hw).1
  obtain ⟨c0, iS0, hKn0⟩ := u_known (C := RX0) (T := TX0) (N := 10) (n := 10) hts inX0 (hts _ (xm 112 (by decide +kernel) rfl))
  obtain ⟨c1, iS1, hKn1⟩ := u_known (C := RX1) (T := TX1) (N := 4) (n := 4) hts inX1 (hts _ (xm 93 (by decide +kernel) rfl))
  obtain ⟨c2, iS2, hKn2⟩ := u_known (C := RX2) (T := TX2) (N := 3) (n := 3) hts inX2 (hts _ (xm 60 (by decide +kernel) rfl))
  obtain ⟨c3, iS3, hKn3⟩ := u_known (C := RX3) (T := TX3) (N := 10) (n := 10) hts inX3 (hts _ (xm 149 (by decide +kernel) rfl))
  obtain ⟨c4, iS4, hKn4⟩ := u_known (C := RX4) (T := TX4) (N := 3) (n := 3) hts inX4 (hts _ (xm 77 (by decide +kernel) rfl))
  obtain ⟨c5, iS5, hKn5⟩ := u_known (C := RX5) (T := TX5) (N := 4) (n := 4) hts inX5 (hts _ (xm 52 (by decide +kernel) rfl))
  obtain ⟨c6, iS6, hKn6⟩ := u_known (C := RX6) (T := TX6) (N := 21) (n := 21) hts inX6 (hts _ (xm 569 (by decide +kernel) rfl))
  obtain ⟨D, hKc⟩ : ∃ D : va_G, ∀ (k : Nat) (q : vw_C), vwCl[k]? = some q → u_Kn s q.1 q.2.1 q.2.2 (D.1 k) (D.2 k) := by
    refine ⟨(fun k => if k = 0 then c0 else if k = 1 then c1 else if k = 2 then c2 else if k = 3 then c3 else if k = 4 then c4 else if k = 5 then c5 else c6, fun k => if k = 0 then iS0 else if k = 1 then iS1 else if k = 2 then iS2 else if k = 3 then iS3 else if k = 4 then iS4 else if k = 5 then iS5 else iS6), ?_⟩
    intro k q hq
    match k, hq with
    | 0, hq => cases hq; exact hKn0
    | 1, hq => cases hq; exact hKn1
    | 2, hq => cases hq; exact hKn2
    | 3, hq => cases hq; exact hKn3
    | 4, hq => cases hq; exact hKn4
    | 5, hq => cases hq; exact hKn5
    | 6, hq => cases hq; exact hKn6
    | k + 7, hq => simp [vwCl] at hq
  obtain ⟨cI, kI, pI, hI1, hI2, hI3⟩ := Cond.arrayClass_spec (hts (.arrayClass .int) (xm 75 (by decide +kernel) rfl))
  obtain ⟨cZ, kZ, pZ, hZ1, hZ2, hZ3⟩ := Cond.arrayClass_spec (hts (.arrayClass .boolean) (xm 639 (by decide +kernel) rfl))
  obtain ⟨T, hT0, hT1⟩ : ∃ T : Nat → ClassId, T 0 = cI ∧ T 1 = cZ := ⟨fun k => if k = 0 then cI else cZ, rfl, rfl⟩
  have hK : va_K D vwCl [(T 0, .int), (T 1, .boolean)] s := by
    refine ⟨hKc, fun k q h => ?_⟩
    match k, h with
    | 0, h =>
      cases h
      refine ⟨fun n z => ⟨fun k h => (by cases h), kI, ?_, pI, hI3⟩, ?_⟩
      · show s.vm.classes[T 0]? = some kI
        rw [hT0]; exact hI2
      · show s.vm.findClass _ = some (T 0)
        rw [hT0]; exact hI1
    | 1, h =>
      cases h
      refine ⟨fun n z => ⟨fun k h => (by cases h), kZ, ?_, pZ, hZ3⟩, ?_⟩
      · show s.vm.classes[T 1]? = some kZ
        rw [hT1]; exact hZ2
      · show s.vm.findClass _ = some (T 1)
        rw [hT1]; exact hZ1
    | k + 2, h => simp at h
  have hN : xN s := fun q hq => nest_ok rfl (hts0 _ (nest_7 q hq))
  have hN5 : xN5 s := fun q hq => nest_ok rfl (hts0 _ (nest_2 q hq))
  have hA : ∀ q : Nat, s.heap.size ≤ q → (fun q : Nat => s.heap.size ≤ q) q := fun _ h => h
  have hS : va_S (fun q : Nat => s.heap.size ≤ q) s.heap s.heap [] := va_S.rf
  have hP : va_P D vwCl [] s.heap := fun k q h => by simp at h
  have hD : va_D (fun q : Nat => s.heap.size ≤ q) [] := ⟨fun i j p q h => by simp at h, fun k q h => by simp at h⟩
  have hl := lv_entry ([.ref b]) (n := 4) (Nat.le_of_ble_eq_true rfl)
  rw [lg_entry_eq]
  generalize (lg_sl ([.ref b]) ++ List.replicate (4 - (lg_sl ([.ref b])).length) Slot.unset).toArray = ls at hl ⊢
  have hl : lv_has ls 4 [(0, .ref b)] := hl
  refine va_new (ci := 5) (fs := [.null, .null, .null, .null]) (C := RX5) (T := TX5) (N := 4) hx hb hts inX5 tyX5 tyX5_ok hown (hts _ (xm 51 (by decide +kernel) rfl)) (hts _ (xm 52 (by decide +kernel) rfl)) (hts _ (xm 41 (by decide +kernel) rfl)) hK hP hD hS hA rfl (fun j hj => by rcases (show j = 0 ∨ j = 1 ∨ j = 2 ∨ j = 3 by omega) with rfl | rfl | rfl | rfl <;> rfl) (Nat.le_of_ble_eq_true rfl) (Nat.le_of_ble_eq_true rfl) dL_0 (fun q0 H hP hD hS => ?_)
  have hP : va_P D vwCl [(q0, .inr (5, [.null, .null, .null, .null]))] H := hP
  have hD : va_D (fun q : Nat => s.heap.size ≤ q) [(q0, .inr (5, [.null, .null, .null, .null]))] := hD
  refine W.widen (k := 1) (n := 4) (by decide) (by decide) ?_
  refine lv_dup hx hb dL_3 rfl ?_
  have hFc := va_free (wc := [(q0, .inr (5, [.null, .null, .null, .null]))]) hD hS hA [0] rfl
  refine va_callv (va_runI (As := []) (rest := [.ref q0]) ⟨hx, hb, hml, hown, hts⟩ (c_X5_init l D T q0 H.size) (cwI 0 hts (gAll (xm 55 (by decide +kernel) rfl)) rfl rfl rfl (hts _ (xm 41 (by decide +kernel) rfl)) (hts _ (xm 53 (by decide +kernel) rfl)) (hts _ (xm 54 (by decide +kernel) rfl)) rfl (by decide +kernel) ⟨Nat.le_of_ble_eq_true rfl, Nat.le_of_ble_eq_true rfl⟩) ⟨fun a U g mk q => by obtain ⟨q0, q1, qP, qK, qD, qN⟩ := q; exact ⟨q0, q1, qP, va_K.moved (u := U) (U := U.calling g mk a) (Vm.Alike.refl U.vm) qK, qD, xN5.same (U := U.calling g mk a) rfl qN⟩, fun U hU hW => ⟨rfl, by rw [hU], by rw [hU]; exact hP, va_K.moved hW.alike hK, hD.weaken (fun _ _ _ _ => trivial), hN5.warm hW⟩⟩ rfl rfl hl.1 rfl (lv_room (Nat.le_of_ble_eq_true rfl)) dL_4 ⟨Nat.le_of_ble_eq_true rfl, Nat.le_of_ble_eq_true rfl⟩) hS (fun q _ h => hFc q h) hFc (fun ad1 t H1 locs ht hvm hw hB hz1 hk1 hS => ?_)
  obtain ⟨e0, hP1, hD1⟩ := hB
  rw [ht] at hP1
  have hP : va_P D vwCl (xW T ad1 LX M0) H1 := hP1
  have hD : va_D (fun q : Nat => s.heap.size ≤ q) (xW T ad1 LX M0) := hD1.weaken (fun k q hk h => hFc q.1 h)
  rw [← e0]
  refine W.widen (k := 16) (n := 1037) (by decide) (by decide) ?_
  refine lv_astore_n (lv' := [(1, .ref (ad1 0)), (0, .ref b)]) hx hb dL_7 rfl hl (by decide) rfl (fun ls hl => ?_)
  refine va_new (ci := 6) (fs := [.int 0, .null, .null, .int 0, .null, .null, .null, .int 0, .null, .null, .null, .null, .int 0, .int 0, .int 0, .int 0, .null, .null, .null, .int 0, .int 0]) (C := RX6) (T := TX6) (N := 21) hx hb hts inX6 tyX6 tyX6_ok hown (hts _ (xm 568 (by decide +kernel) rfl)) (hts _ (xm 569 (by decide +kernel) rfl)) (hts _ (xm 47 (by decide +kernel) rfl)) hK hP hD hS hA rfl (fun j hj => by rcases (show j = 0 ∨ j = 1 ∨ j = 2 ∨ j = 3 ∨ j = 4 ∨ j = 5 ∨ j = 6 ∨ j = 7 ∨ j = 8 ∨ j = 9 ∨ j = 10 ∨ j = 11 ∨ j = 12 ∨ j = 13 ∨ j = 14 ∨ j = 15 ∨ j = 16 ∨ j = 17 ∨ j = 18 ∨ j = 19 ∨ j = 20 by omega) with rfl | rfl | rfl | rfl | rfl | rfl | rfl | rfl | rfl | rfl | rfl | rfl | rfl | rfl | rfl | rfl | rfl | rfl | rfl | rfl | rfl <;> rfl) (Nat.le_of_ble_eq_true rfl) (Nat.le_of_ble_eq_true rfl) dL_8 (fun q1 H hP hD hS => ?_)
  refine W.widen (k := 17) (n := 1058) (by decide) (by decide) ?_
  refine lv_dup hx hb dL_11 rfl ?_
  have hlast : (xW T ad1 LX M0 ++ [(q1, .inr (6, [.int 0, .null, .null, .int 0, .null, .null, .null, .int 0, .null, .null, .null, .null, .int 0, .int 0, .int 0, .int 0, .null, .null, .null, .int 0, .int 0]))])[(xW T ad1 LX M0).length]? = some (q1, .inr (6, [.int 0, .null, .null, .int 0, .null, .null, .null, .int 0, .null, .null, .null, .null, .int 0, .int 0, .int 0, .int 0, .null, .null, .null, .int 0, .int 0])) := by
    rw [List.getElem?_append_right (Nat.le_refl _), Nat.sub_self]
    rfl
  have hone : ∀ (k : Nat) (q : Nat × va_E), ([(q1, .inr (6, [.int 0, .null, .null, .int 0, .null, .null, .null, .int 0, .null, .null, .null, .null, .int 0, .int 0, .int 0, .int 0, .null, .null, .null, .int 0, .int 0]))] : va_W)[k]? = some q → k = 0 ∧ q = (q1, .inr (6, [.int 0, .null, .null, .int 0, .null, .null, .null, .int 0, .null, .null, .null, .null, .int 0, .int 0, .int 0, .int 0, .null, .null, .null, .int 0, .int 0])) := by
    intro k q hk
    cases k with
    | zero => cases hk; exact ⟨rfl, rfl⟩
    | succ k => simp at hk
  have hPc : va_P D vwCl [(q1, .inr (6, [.int 0, .null, .null, .int 0, .null, .null, .null, .int 0, .null, .null, .null, .null, .int 0, .int 0, .int 0, .int 0, .null, .null, .null, .int 0, .int 0]))] H := fun k q hk => by
    obtain ⟨rfl, rfl⟩ := hone k q hk
    exact hP _ _ hlast
  have hDc : va_D (fun q : Nat => s.heap.size ≤ q) [(q1, .inr (6, [.int 0, .null, .null, .int 0, .null, .null, .null, .int 0, .null, .null, .null, .null, .int 0, .int 0, .int 0, .int 0, .null, .null, .null, .int 0, .int 0]))] := ⟨fun i j a d hi hj _ => by rw [(hone i a hi).1, (hone j d hj).1], fun k q hk => by
    obtain ⟨rfl, rfl⟩ := hone k q hk
    exact hD.2 _ _ hlast⟩
  have hFc := va_free (wc := [(q1, .inr (6, [.int 0, .null, .null, .int 0, .null, .null, .null, .int 0, .null, .null, .null, .null, .int 0, .int 0, .int 0, .int 0, .null, .null, .null, .int 0, .int 0]))]) hDc hS hA [0] rfl
  have hold : ∀ (k : Nat) (q : Nat × va_E), (xW T ad1 LX M0)[k]? = some q → q.1 < H.size ∧ q.1 ≠ q1 := by
    intro k q hk
    have hlt := (List.getElem?_eq_some_iff.mp hk).1
    have hk2 : (xW T ad1 LX M0 ++ [(q1, .inr (6, [.int 0, .null, .null, .int 0, .null, .null, .null, .int 0, .null, .null, .null, .null, .int 0, .int 0, .int 0, .int 0, .null, .null, .null, .int 0, .int 0]))])[k]? = some q := by rw [List.getElem?_append_left hlt]; exact hk
    refine ⟨va_lt (hP k q hk2), fun z => ?_⟩
    have := hD.1 k _ q _ hk2 hlast z
    omega
  refine va_callv (va_runI (As := []) (rest := [.ref q1]) ⟨hx, hb, hml, hown, hts⟩ (c_X6_init l D T q1 H.size) (cwI 0 hts (gAll (xm 572 (by decide +kernel) rfl)) rfl rfl rfl (hts _ (xm 47 (by decide +kernel) rfl)) (hts _ (xm 570 (by decide +kernel) rfl)) (hts _ (xm 571 (by decide +kernel) rfl)) rfl (by decide +kernel) ⟨Nat.le_of_ble_eq_true rfl, Nat.le_of_ble_eq_true rfl⟩) ⟨fun a U g mk q => by obtain ⟨q0, q1, qP, qK, qD⟩ := q; exact ⟨q0, q1, qP, va_K.moved (u := U) (U := U.calling g mk a) (Vm.Alike.refl U.vm) qK, qD⟩, fun U hU hW => ⟨rfl, by rw [hU], by rw [hU]; exact hPc, va_K.moved hW.alike hK, hDc.weaken (fun _ _ _ _ => trivial)⟩⟩ rfl rfl hl.1 rfl (lv_room (Nat.le_of_ble_eq_true rfl)) dL_12 ⟨Nat.le_of_ble_eq_true rfl, Nat.le_of_ble_eq_true rfl⟩) hS (fun q _ h => hFc q h) hFc (fun ad2 t2 H2 locs ht2 hvm2 hw2 hB2 hz2 hk2 hS => ?_)
  obtain ⟨e2, hP2, hD2⟩ := hB2
  rw [ht2] at hP2
  have hPX : va_P D vwCl (xW T ad1 LX M0) H := fun k q hk => hP k q (by rw [List.getElem?_append_left (List.getElem?_eq_some_iff.mp hk).1]; exact hk)
  have hP1 : va_P D vwCl (xW T ad1 LX M0) H2 := hPX.kept (fun k q hk => by
    obtain ⟨z1, z2⟩ := hold k q hk
    refine hk2 q.1 z1 (fun z => ?_)
    rcases z with ⟨j, e, hj⟩ | z
    · obtain ⟨-, z3⟩ := hone j _ hj
      exact z2 (congrArg Prod.fst z3)
    · omega)
  obtain ⟨hO1, hG1⟩ := xD_ok hD1 (by decide)
  obtain ⟨hO2, hG2⟩ := xD_ok hD2 (by decide)
  have hGX := (xD_ok (A := fun q : Nat => s.heap.size ≤ q) (T := T) (ad := ad1) (L := LX) (M := M0) (hD1.weaken (fun k q hk h => hD.2 k q (by rw [List.getElem?_append_left (List.getElem?_eq_some_iff.mp hk).1]; exact hk))) (by decide)).2
  rw [← e2]
  refine W.widen (k := 29) (n := 384428) (by decide) (by decide) ?_
  refine lv_astore_n (lv' := [(2, .ref (ad2 0)), (1, .ref (ad1 0)), (0, .ref b)]) hx hb dL_15 rfl hl (by decide) rfl (fun ls hl => ?_)
  refine lv_iconst (v := nI 0) hx hb dL_16 rfl ?_
  refine lv_istore_n (lv' := [(3, .int (nI 0)), (2, .ref (ad2 0)), (1, .ref (ad1 0)), (0, .ref b)]) hx hb dL_17 rfl hl (by decide) rfl (fun ls hl => ?_)
  refine law_loop (D := D) (T := T) (ad1 := ad1) (ad2 := ad2) ⟨C0, hL, hK, hN, hO1, hO2, fun i j hi hj z => ?_, hGX, fun j hj => hFc _ (hG2 j hj)⟩ 4001 0 ls M0 N0 (by omega) (by omega) (lv_sub hl [3, 2, 1, 0] rfl) cp_new H2 locs hP1 hP2 hS
  have hi' : LX[i]? = some LX[i] := List.getElem?_eq_getElem hi
  obtain ⟨z1, z2⟩ := hold i _ (xW_get hi')
  have z1 : ad1 i < H.size := z1
  have z2 : ad1 i ≠ q1 := z2
  rcases hG2 j hj with ⟨k, e, hk⟩ | y
  · obtain ⟨-, z3⟩ := hone k _ hk
    exact z2 (z.trans (congrArg Prod.fst z3))
  · omega
