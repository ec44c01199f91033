/-! the reference: goOn -/
theorem lkB {A : List Int} {n r : Nat} {c c0 : Int} (hn : n ≤ A.length) {j : Int} (hj : 0 ≤ j) (hr : j < (n : Int) + 1 + r) : lkA (A.take n ++ c :: List.replicate r c0) j = if j < n then lkA A j else if j = n then c else c0 := by
  unfold lkA
  rw [List.getD_eq_getElem?_getD]
  by_cases h : j < n
  · rw [if_pos h, List.getElem?_append_left (by rw [List.length_take]; omega), List.getElem?_take, if_pos (by omega), List.getD_eq_getElem?_getD]
  · rw [if_neg h, List.getElem?_append_right (by rw [List.length_take]; omega), List.length_take]
    by_cases h2 : j = n
    · rw [if_pos h2, show j.toNat - min n A.length = 0 by omega]
      rfl
    · rw [if_neg h2]
      obtain ⟨k, hk⟩ : ∃ k, j.toNat - min n A.length = k + 1 := ⟨j.toNat - min n A.length - 1, by omega⟩
      rw [hk, List.getElem?_cons_succ, List.getElem?_replicate, if_pos (by omega)]
      rfl
def gO (s : Int) (M : xM) (Post : xR) (m : Nat) (A : List Int) (done rest : List (List Int)) : Prop := wM M ∧ (0 ≤ s ∧ s < 64) ∧ M 0 12 = m ∧ m ≤ 4 ∧ enm (bxT M s) m 0 = done ++ A :: rest ∧ (∀ j, 0 ≤ j → j < (m : Int) → M 6 j = lkA A j) ∧ ∀ (r : Int) (M' : xM), (∀ c, c ≠ 6 → M' c = M c) → (r = 0 ∧ rest = [] ∨ r = 1 ∧ ∃ B rest', rest = B :: rest' ∧ ∀ j, 0 ≤ j → j < (m : Int) → M' 6 j = lkA B j) → Post r M'
def f_X6_goOn (s : Int) (M : xM) (Post : xR) : Prop := ∃ (m : Nat) (A : List Int) (done rest : List (List Int)), gO s M Post m A done rest
theorem enm_v {th : Int → Prop} {m : Nat} {A : List Int} (hA : A ∈ enm th m 0) (hm : m ≤ 4) {j : Int} (j0 : 0 ≤ j) (j1 : j < m) : 0 ≤ lkA A j ∧ lkA A j < 10 := by
  obtain ⟨k, rfl⟩ : ∃ k : Nat, j = k := ⟨j.toNat, by omega⟩
  have hlen := enm_len hA
  have := enm_val hA k _ (lkA_at (by omega))
  omega
abbrev sp_X6_goOn : xT := spV1 0 f_X6_goOn
set_option maxRecDepth 100000 in
set_option maxHeartbeats 4000000 in
theorem b_X6_goOn (as : List xV) (M : xM) (Post : xR) (h : sp_X6_goOn as M Post) : as.length ≤ 4 ∧ ∃ (Inv : xG) (μ : Nat → xL → List xV → xM → Nat) (f0 f1 : Nat), xw LM fldX6 (calX6_goOn sp_X6_raise) [] 2 Post iX6_goOn cutX6_goOn Inv f0 0 (xlv as 4) [] M ∧ ∀ pc lv st M', Inv pc lv st M' → xw LM fldX6 (calX6_goOn sp_X6_raise) [] 2 Post iX6_goOn cutX6_goOn (fun pc2 lv2 st2 M2 => Inv pc2 lv2 st2 M2 ∧ μ pc2 lv2 st2 M2 < μ pc lv st M') f1 pc lv st M' := by
  obtain ⟨v1, rfl, h⟩ := h
  refine ⟨by simp, (fun pc lv st N => ∃ (m : Nat) (A : List Int) (done rest : List (List Int)), gO v1 M Post m A done rest ∧ (∀ c, c ≠ 6 → N c = M c) ∧ ((∃ (i : Int) (o3 : Option xV), pc = 7 ∧ lv = [some (.inr 0), some (.inl v1), some (.inl i), o3] ∧ st = [] ∧ (-1 ≤ i ∧ i < (m : Int)) ∧ (∀ j, 0 ≤ j → j ≤ i → N 6 j = lkA A j) ∧ aft (bxT M v1) (A.drop (i + 1).toNat) (nwL (A.take (i + 1).toNat) 0) = []) ∨ (pc = 30 ∧ lv = [some (.inr 0), some (.inl v1), some (.inl (-1)), some (.inl 0)] ∧ st = [] ∧ rest = []) ∨ (∃ (i k c0 : Int) (B : List Int) (rest' : List (List Int)), pc = 30 ∧ lv = [some (.inr 0), some (.inl v1), some (.inl i), some (.inl k)] ∧ st = [] ∧ (0 ≤ i ∧ i < k ∧ k ≤ (m : Int)) ∧ rest = B :: rest' ∧ isLo (bxT M v1) 0 c0 ∧ (∀ j, 0 ≤ j → j < k → N 6 j = lkA B j) ∧ ∀ j, k ≤ j → j < (m : Int) → lkA B j = c0))), (fun pc lv st N => match pc, lv with | 7, [_, _, some (.inl i), _] => (100 + i).toNat | 30, [_, _, _, some (.inl k)] => (50 - k).toNat | _, _ => 0), 400, 400, Eq.mpr (vcX6_goOn_0 ..) ?_, ?_⟩
  · obtain ⟨m, A, done, rest, hg⟩ := h
    obtain ⟨hw, hs, hm, hm4, hE, hA, hp⟩ := id hg
    have hlen : A.length = m := enm_len (show A ∈ enm (bxT M v1) m 0 by rw [hE]; simp)
    refine ⟨m, A, done, rest, hg, fun _ _ => rfl, Or.inl ⟨M 0 12 - 1, none, rfl, rfl, rfl, by omega, fun j j0 j1 => hA j j0 (by omega), ?_⟩⟩
    rw [hm, show ((m : Int) - 1 + 1).toNat = m by omega, List.drop_eq_nil_of_le (by omega)]
    rfl
  · rintro pc lv st N ⟨m, A, done, rest, hg, hfr, hcase⟩
    obtain ⟨hw, hs, hm, hm4, hE, hA, hp⟩ := id hg
    have hAm : A ∈ enm (bxT M v1) m 0 := by rw [hE]; simp
    have hlen : A.length = m := enm_len hAm
    have hrest := split_aft m 0 done A rest hE
    have hv := fun j => enm_v (j := j) hAm hm4
    have hsm : sM M N := sM_5 (fun c hc => hfr c (by omega))
    have hwN : wM N := by rw [hsm.wM_e]; exact hw
    have e12 : N 0 12 = m := by rw [hfr 0 (by decide)]; exact hm
    rcases hcase with ⟨i, o3, rfl, rfl, rfl, a1, a2, a3⟩ | ⟨rfl, rfl, rfl, a1⟩ | ⟨i, k, c0, B, rest', rfl, rfl, rfl, a1, a2, a3, a4, a5⟩
    · refine Eq.mpr (vcX6_goOn_7 ..) ?_
      refine ⟨⟨by omega, by omega⟩, fun q => ⟨⟨m, A, done, rest, hg, hfr, Or.inr (Or.inl ⟨rfl, ?_, rfl, ?_⟩)⟩, by (change Int.toNat _ < Int.toNat _); omega⟩, fun q => ?_⟩
      · rw [show i = -1 by omega]
        rfl
      · rw [hrest]
        rw [show (i + 1).toNat = 0 by omega] at a3
        exact a3
      · obtain ⟨n, rfl⟩ : ∃ n : Nat, i = n := ⟨i.toNat, by omega⟩
        have hvn := hv n q a1.2
        have e6 := a2 n q (Int.le_refl _)
        refine ⟨_, _, rfl, hwN, hs, ⟨q, by omega⟩, fun j j0 j1 => ?_, fun r c hc hr => ?_⟩
        · rw [a2 j j0 j1]
          have := hv j j0 (by omega)
          omega
        · have hnw : nwsF (N 6) n = 6 + (nwL (A.take n) 0 : Nat) := nwsF_L hAm n (by omega) (fun j j0 j1 => a2 j j0 (by omega))
          rw [Int.toNat_natCast, hnw] at hr
          rw [hsm.bxT_e, e6] at hc
          rw [show ((n : Int) + 1).toNat = n + 1 by omega, take_1 (by omega), nwL_app] at a3
          have a3 : aft (bxT M v1) (A.drop (n + 1)) (if lkA A n = 6 + ((nwL (A.take n) 0 : Nat) : Int) then nwL (A.take n) 0 + 1 else nwL (A.take n) 0) = [] := a3
          have hcan := enm_can hAm n _ (lkA_at (by omega))
          obtain ⟨b, hb⟩ : ∃ b : Nat, lkA A n = b := ⟨(lkA A n).toNat, by omega⟩
          obtain ⟨cN, rfl⟩ : ∃ cN : Nat, c = cN := ⟨c.toNat, by have := hc.1; omega⟩
          have hc' : isLo (bxT M v1) ((b + 1 : Nat) : Int) (cN : Int) := by rw [hb] at hc; exact hc
          have hda : aft (bxT M v1) (A.drop n) (nwL (A.take n) 0) = frm (bxT M v1) (A.drop (n + 1)).length (nwL (A.take n) 0) (b + 1) := by
            rw [drop_1 (by omega)]
            simp only [aft]
            rw [a3, hb, Int.toNat_natCast]
            rfl
          refine ⟨⟨by omega, by omega⟩, fun q1 => ?_, fun q1 => ⟨⟨m, A, done, rest, hg, fun c hc => by rw [xup_ne hc]; exact hfr c hc, Or.inl ⟨(n : Int) + (-1), o3, rfl, rfl, rfl, by omega, fun j j0 j1 => by rw [xup_at, if_neg (by omega)]; exact a2 j j0 (by omega), ?_⟩⟩, by (change Int.toNat _ < Int.toNat _); omega⟩⟩
          · have hle : cN ≤ 6 + nwL (A.take n) 0 := by omega
            obtain ⟨c0, hc0⟩ := isLo_ex (th := bxT M v1) 6 0 (by omega)
            obtain ⟨cM, rfl⟩ : ∃ cM : Nat, c0 = cM := ⟨c0.toNat, by have := hc0.1; omega⟩
            obtain ⟨Y, hY⟩ := enm_fst hc0 (A.drop (n + 1)).length (nwS (nwL (A.take n) 0) cN)
            obtain ⟨Z, hZ⟩ := aft_app (th := bxT M v1) (A.drop n) (A.take n) 0
            rw [List.take_append_drop, hda, frm_hit hc' hle, hY, ← hrest] at hZ
            have hB := fun j => lkB (A := A) (n := n) (r := (A.drop (n + 1)).length) (c := (cN : Int)) (c0 := (cM : Int)) (by omega) (j := j)
            rw [List.length_drop, hlen] at hB hZ
            refine ⟨⟨m, A, done, rest, hg, fun c hc => by rw [xup_ne hc]; exact hfr c hc, Or.inr (Or.inr ⟨n, (n : Int) + 1, (cM : Int), _, _, rfl, rfl, rfl, by omega, hZ, hc0, fun j j0 j1 => ?_, fun j j0 j1 => ?_⟩)⟩, by (change Int.toNat _ < Int.toNat _); omega⟩
            · rw [hB j j0 (by omega), xup_at]
              by_cases hj : j = n
              · rw [if_pos hj, if_neg (by omega), if_pos hj]
              · rw [if_neg hj, if_pos (by omega)]
                exact a2 j j0 (by omega)
            · rw [hB j (by omega) (by omega), if_neg (by omega), if_neg (by omega)]
          · rw [show ((n : Int) + (-1) + 1).toNat = n by omega, hda]
            exact frm_none hc' (by omega) (by omega)
    · refine Eq.mpr (vcX6_goOn_30 ..) ?_
      rw [e12]
      have fin : ((0 : Int) = 0 ∨ (0 : Int) = 1) ∧ Post 0 N := ⟨by omega, hp 0 N hfr (Or.inl ⟨rfl, a1⟩)⟩
      exact ⟨⟨by omega, by omega⟩, ⟨by omega, by omega⟩, fun q => ⟨⟨by omega, by omega⟩, fun _ => fin, fun z => by omega⟩, fun q => ⟨⟨by omega, by omega⟩, fun _ => ⟨⟨by omega, by omega⟩, fun _ => fin, fun z => by omega⟩, fun z => by omega⟩⟩
    · refine Eq.mpr (vcX6_goOn_30 ..) ?_
      rw [e12]
      refine ⟨⟨by omega, by omega⟩, ⟨by omega, by omega⟩, fun q => ⟨⟨by omega, by omega⟩, fun z => by omega, fun _ => ⟨by omega, hp 1 N hfr (Or.inr ⟨rfl, B, rest', a2, fun j j0 j1 => a4 j j0 (by omega)⟩)⟩⟩, fun q => ⟨⟨by omega, by omega⟩, fun z => by omega, fun _ => ⟨⟨by omega, by omega⟩, ?_⟩⟩⟩
      have hBm : B ∈ enm (bxT M v1) m 0 := by rw [hE, a2]; simp
      have hvB := fun j => enm_v (j := j) hBm hm4
      have hsm2 : sM M (xup N 6 k (-1)) := sM_5 (fun c hc => by rw [xup_ne (by omega)]; exact hfr c (by omega))
      refine ⟨_, _, rfl, by rw [hsm2.wM_e]; exact hw, hs, ⟨by omega, by omega⟩, fun j j0 j1 => ?_, fun r c hc _ => ?_⟩
      · rw [xup_at]
        split
        · omega
        · rw [a4 j j0 (by omega)]
          have := hvB j j0 (by omega)
          omega
      · rw [hsm2.bxT_e, xup_at, if_pos rfl] at hc
        have ec := isLo_u hc a3
        refine ⟨⟨m, A, done, rest, hg, fun c hc => by rw [xup_ne hc, xup_ne hc]; exact hfr c hc, Or.inr (Or.inr ⟨i, k + 1, c0, B, rest', rfl, rfl, rfl, by omega, a2, a3, fun j j0 j1 => ?_, fun j j0 j1 => a5 j (by omega) j1⟩)⟩, by (change Int.toNat _ < Int.toNat _); omega⟩
        rw [xup_at]
        by_cases hj : j = k
        · rw [if_pos hj, ec, hj, a5 k (by omega) q]
        · rw [if_neg hj, xup_at, if_neg hj]
          exact a4 j j0 (by omega)
theorem k_X6_goOn {l : Launch} {D : va_G} {T : Nat → ClassId} {ad : Nat → Nat} (hO : xOk ad LM) : xMet l D T ad LM yX6_goOn cX6_goOn 4 (some .boolean) false 3 sp_X6_goOn :=
  xmet (rt := 2) (fld := fldX6) (cals := (calX6_goOn sp_X6_raise)) (cst := []) (I := iX6_goOn) (cut := cutX6_goOn) hO (by decide +kernel) ⟨by decide, by decide, by decide⟩ oX6_goOn foX6 (fun _ h => absurd h List.not_mem_nil) (List.forall_mem_cons.mpr ⟨⟨yX6_raise, cX6_raise, 5, (some .boolean), 2, 2, by decide, yoX6_raise, k_X6_raise hO, loX6_94, Or.inr ⟨rfl, rfl, 0, 6, [none, some 1, some 2, none, some 3, some 4, some 5, none, some 6, some 7, some 8, some 9, none, none, none, none, some 10, some 11, some 12, none, none], TX6, 21, rfl, rfl, spV2_r⟩⟩, fun _ h => absurd h List.not_mem_nil⟩) b_X6_goOn

