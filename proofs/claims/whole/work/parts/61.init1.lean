theorem dX2_init_0 : decode cX2_init 0 = .ok (.aload_n 0, 1) := by decide +kernel
theorem dX2_init_1 : decode cX2_init 1 = .ok (.invokespecial 3, 3) := by decide +kernel
theorem dX2_init_4 : decode cX2_init 4 = .ok (.aload_n 0, 1) := by decide +kernel
theorem dX2_init_5 : decode cX2_init 5 = .ok (.bipush 42, 2) := by decide +kernel
theorem dX2_init_7 : decode cX2_init 7 = .ok (.newarray .int, 2) := by decide +kernel
theorem dX2_init_9 : decode cX2_init 9 = .ok (.putfield 9, 3) := by decide +kernel
theorem dX2_init_12 : decode cX2_init 12 = .ok (.aload_n 0, 1) := by decide +kernel
theorem dX2_init_13 : decode cX2_init 13 = .ok (.bipush 7, 2) := by decide +kernel
theorem dX2_init_15 : decode cX2_init 15 = .ok (.newarray .int, 2) := by decide +kernel
theorem dX2_init_17 : decode cX2_init 17 = .ok (.putfield 15, 3) := by decide +kernel
theorem dX2_init_20 : decode cX2_init 20 = .ok (.return_, 1) := by decide +kernel
set_option maxHeartbeats 4000000 in
set_option maxRecDepth 100000 in
theorem c_X2_init (l : Launch) (D : va_G) (T : Nat → ClassId) (h0 sz : Nat) : Met l yX2_init (.code yX2_init cX2_init 1 none :: xtb) ({ frames := 1, cells := 2, slots := 49, locals := 12 }) (va_Pc [.ref h0] (fun U => U.heap.size = sz ∧ va_P D vwCl [(h0, .inr (2, [.null, .null, .int 0]))] U.heap ∧ va_K D vwCl [(T 0, .int), (T 1, .boolean)] U ∧ va_D (fun _ => True) [(h0, .inr (2, [.null, .null, .int 0]))])) (va_Qv (fun _ : Nat × Nat => True) (fun u t => va_P D vwCl [(h0, .inr (2, [.ref u.1, .ref u.2, .int 0])), (u.1, .inl (T 0, 42, .inl (fun _ => 0))), (u.2, .inl (T 0, 7, .inl (fun _ => 0)))] t.heap ∧ va_D (va_A [(h0, .inr (2, [.null, .null, .int 0]))] sz) [(h0, .inr (2, [.ref u.1, .ref u.2, .int 0])), (u.1, .inl (T 0, 42, .inl (fun _ => 0))), (u.2, .inl (T 0, 7, .inl (fun _ => 0)))]) (va_A [(h0, .inr (2, [.null, .null, .int 0]))] sz)) 2 49 (va_A [(h0, .inr (2, [.null, .null, .int 0]))] sz) := by
  refine Met.ofW (cc := cX2_init) (maxL := 1) (ret := none) (by decide) rfl ?_
  intro p e s m args below meth c s₁ B hml hv
  obtain ⟨rfl, hsz, hP, hK, hD0⟩ := hv
  have hx := B.exec
  have hb := B.bytes
  have hr := B.returns
  have hts : ∀ w ∈ xtb, w.before ([.ref h0] : List Value).toArray s = true := fun w hw => atoms_spec (ws := Cond.code yX2_init cX2_init 1 none :: xtb) B.pre w (List.mem_cons_of_mem _ hw)
  have hown : s.vm.findClass RX2 = some m.cls := findClass_of_methodNamed B.named
  have hlocks := B.notSynchronized
  have hin : meth.name = "<init>" := (name_of_methodNamed B.named B.method).1
  subst hsz
  have hD := hD0.self (sz := s.heap.size)
  generalize hAe : va_A [(h0, .inr (2, [.null, .null, .int 0]))] s.heap.size = A at hD ⊢
  have hA : ∀ q : Nat, s.heap.size ≤ q → A q := fun q h => by rw [← hAe]; exact Or.inr h
  have hS : va_S A s.heap s.heap [] := va_S.rf
  have hl := lv_entry ([.ref h0]) (n := 1) (Nat.le_of_ble_eq_true rfl)
  rw [lg_entry_eq]
  generalize (lg_sl ([.ref h0]) ++ List.replicate (1 - (lg_sl ([.ref h0])).length) Slot.unset).toArray = ls at hl ⊢
  have hl : lv_has ls 1 [(0, .ref h0)] := hl
  refine lv_aload_n hx hb dX2_init_0 rfl (lv_at hl 0 rfl) ?_
  refine W.objInit hx hb hown (hts _ (xm 64 (by decide +kernel) rfl)) (hts _ (xm 57 (by decide +kernel) rfl)) (hts _ (xm 58 (by decide +kernel) rfl)) rfl (by rw [hml]; exact hl.1) rfl dX2_init_1 (Nat.le_of_ble_eq_true rfl) (Nat.le_of_ble_eq_true rfl) ?_
  refine W.eq (g2 := F0 m 4 ls []) rfl ?_
  refine lv_aload_n hx hb dX2_init_4 rfl (lv_at hl 0 rfl) ?_
  refine lv_bipush (v := xi 42) hx hb dX2_init_5 (xi_bipush (by decide)) ?_
  refine xnewa (tc := 0) (n := 42) (N' := 42) hx hb (hts _ (xm 75 (by decide +kernel) rfl)) rfl (fun _ _ => rfl) hK rfl hP hD hS hA rfl rfl (by decide) (by decide) (Nat.le_of_ble_eq_true rfl) (Nat.le_of_ble_eq_true rfl) dX2_init_7 (fun q0 H hP hD hS => ?_)
  have hP : va_P D vwCl [(h0, .inr (2, [.null, .null, .int 0])), (q0, .inl (T 0, 42, .inl (fun _ => 0)))] H := hP
  have hD : va_D A [(h0, .inr (2, [.null, .null, .int 0])), (q0, .inl (T 0, 42, .inl (fun _ => 0)))] := hD
  refine W.widen (k := 1) (n := 42) (by decide) (by decide) ?_
  refine va_putF (D := D) (ci := 2) (v := .ref q0) (ty := (.array .int)) (C := RX2) (T := TX2) (N := 3) hx hb hts inX2 tyX2 tyX2_ok nmX2 hown hK hP hD hS 0 rfl rfl 0 (by decide) (hts _ (xm 65 (by decide +kernel) rfl)) (fun _ h9 => h9) rfl hin rfl (by decide +kernel) rfl rfl (Nat.le_of_ble_eq_true rfl) dX2_init_9 (fun H locs hP hD hS => ?_)
  have hP : va_P D vwCl [(h0, .inr (2, [.ref q0, .null, .int 0])), (q0, .inl (T 0, 42, .inl (fun _ => 0)))] H := hP
  have hD : va_D A [(h0, .inr (2, [.ref q0, .null, .int 0])), (q0, .inl (T 0, 42, .inl (fun _ => 0)))] := hD
  refine lv_aload_n hx hb dX2_init_12 rfl (lv_at hl 0 rfl) ?_
  refine lv_bipush (v := xi 7) hx hb dX2_init_13 (xi_bipush (by decide)) ?_
  refine xnewa (tc := 0) (n := 7) (N' := 7) hx hb (hts _ (xm 75 (by decide +kernel) rfl)) rfl (fun _ _ => rfl) hK rfl hP hD hS hA rfl rfl (by decide) (by decide) (Nat.le_of_ble_eq_true rfl) (Nat.le_of_ble_eq_true rfl) dX2_init_15 (fun q1 H hP hD hS => ?_)
  have hP : va_P D vwCl [(h0, .inr (2, [.ref q0, .null, .int 0])), (q0, .inl (T 0, 42, .inl (fun _ => 0))), (q1, .inl (T 0, 7, .inl (fun _ => 0)))] H := hP
  have hD : va_D A [(h0, .inr (2, [.ref q0, .null, .int 0])), (q0, .inl (T 0, 42, .inl (fun _ => 0))), (q1, .inl (T 0, 7, .inl (fun _ => 0)))] := hD
  refine W.widen (k := 2) (n := 49) (by decide) (by decide) ?_
  refine va_putF (D := D) (ci := 2) (v := .ref q1) (ty := (.array .int)) (C := RX2) (T := TX2) (N := 3) hx hb hts inX2 tyX2 tyX2_ok nmX2 hown hK hP hD hS 0 rfl rfl 1 (by decide) (hts _ (xm 66 (by decide +kernel) rfl)) (fun _ h9 => h9) rfl hin rfl (by decide +kernel) rfl rfl (Nat.le_of_ble_eq_true rfl) dX2_init_17 (fun H locs hP hD hS => ?_)
  have hP : va_P D vwCl [(h0, .inr (2, [.ref q0, .ref q1, .int 0])), (q0, .inl (T 0, 42, .inl (fun _ => 0))), (q1, .inl (T 0, 7, .inl (fun _ => 0)))] H := hP
  have hD : va_D A [(h0, .inr (2, [.ref q0, .ref q1, .int 0])), (q0, .inl (T 0, 42, .inl (fun _ => 0))), (q1, .inl (T 0, 7, .inl (fun _ => 0)))] := hD
  exact W.vret hx hb hr (fun t ht hW => ⟨⟨(q0, q1), rfl, trivial, by rw [ht]; exact hP, hD⟩, hS.F ht⟩) hS.2.2 dX2_init_20
theorem dX4_init_0 : decode cX4_init 0 = .ok (.aload_n 0, 1) := by decide +kernel
theorem dX4_init_1 : decode cX4_init 1 = .ok (.invokespecial 3, 3) := by decide +kernel
theorem dX4_init_4 : decode cX4_init 4 = .ok (.aload_n 0, 1) := by decide +kernel
theorem dX4_init_5 : decode cX4_init 5 = .ok (.bipush 6, 2) := by decide +kernel
theorem dX4_init_7 : decode cX4_init 7 = .ok (.newarray .int, 2) := by decide +kernel
theorem dX4_init_9 : decode cX4_init 9 = .ok (.dup, 1) := by decide +kernel
theorem dX4_init_10 : decode cX4_init 10 = .ok (.iconst 0, 1) := by decide +kernel
theorem dX4_init_11 : decode cX4_init 11 = .ok (.iconst 0, 1) := by decide +kernel
theorem dX4_init_12 : decode cX4_init 12 = .ok (.iastore, 1) := by decide +kernel
theorem dX4_init_13 : decode cX4_init 13 = .ok (.dup, 1) := by decide +kernel
theorem dX4_init_14 : decode cX4_init 14 = .ok (.iconst 1, 1) := by decide +kernel
theorem dX4_init_15 : decode cX4_init 15 = .ok (.iconst 1, 1) := by decide +kernel
theorem dX4_init_16 : decode cX4_init 16 = .ok (.iastore, 1) := by decide +kernel
theorem dX4_init_17 : decode cX4_init 17 = .ok (.dup, 1) := by decide +kernel
theorem dX4_init_18 : decode cX4_init 18 = .ok (.iconst 2, 1) := by decide +kernel
theorem dX4_init_19 : decode cX4_init 19 = .ok (.iconst 2, 1) := by decide +kernel
theorem dX4_init_20 : decode cX4_init 20 = .ok (.iastore, 1) := by decide +kernel
theorem dX4_init_21 : decode cX4_init 21 = .ok (.dup, 1) := by decide +kernel
theorem dX4_init_22 : decode cX4_init 22 = .ok (.iconst 3, 1) := by decide +kernel
theorem dX4_init_23 : decode cX4_init 23 = .ok (.iconst 3, 1) := by decide +kernel
theorem dX4_init_24 : decode cX4_init 24 = .ok (.iastore, 1) := by decide +kernel
theorem dX4_init_25 : decode cX4_init 25 = .ok (.dup, 1) := by decide +kernel
theorem dX4_init_26 : decode cX4_init 26 = .ok (.iconst 4, 1) := by decide +kernel
theorem dX4_init_27 : decode cX4_init 27 = .ok (.iconst 4, 1) := by decide +kernel
theorem dX4_init_28 : decode cX4_init 28 = .ok (.iastore, 1) := by decide +kernel
theorem dX4_init_29 : decode cX4_init 29 = .ok (.dup, 1) := by decide +kernel
theorem dX4_init_30 : decode cX4_init 30 = .ok (.iconst 5, 1) := by decide +kernel
theorem dX4_init_31 : decode cX4_init 31 = .ok (.iconst 5, 1) := by decide +kernel
theorem dX4_init_32 : decode cX4_init 32 = .ok (.iastore, 1) := by decide +kernel
theorem dX4_init_33 : decode cX4_init 33 = .ok (.putfield 9, 3) := by decide +kernel
theorem dX4_init_36 : decode cX4_init 36 = .ok (.aload_n 0, 1) := by decide +kernel
theorem dX4_init_37 : decode cX4_init 37 = .ok (.bipush 6, 2) := by decide +kernel
theorem dX4_init_39 : decode cX4_init 39 = .ok (.newarray .int, 2) := by decide +kernel
theorem dX4_init_41 : decode cX4_init 41 = .ok (.putfield 15, 3) := by decide +kernel
theorem dX4_init_44 : decode cX4_init 44 = .ok (.return_, 1) := by decide +kernel
set_option maxHeartbeats 4000000 in
set_option maxRecDepth 100000 in
theorem c_X4_init (l : Launch) (D : va_G) (T : Nat → ClassId) (h0 sz : Nat) : Met l yX4_init (.code yX4_init cX4_init 1 none :: xtb) ({ frames := 1, cells := 2, slots := 12, locals := 12 }) (va_Pc [.ref h0] (fun U => U.heap.size = sz ∧ va_P D vwCl [(h0, .inr (4, [.null, .null, .int 0]))] U.heap ∧ va_K D vwCl [(T 0, .int), (T 1, .boolean)] U ∧ va_D (fun _ => True) [(h0, .inr (4, [.null, .null, .int 0]))])) (va_Qv (fun _ : Nat × Nat => True) (fun u t => va_P D vwCl [(h0, .inr (4, [.ref u.1, .ref u.2, .int 0])), (u.1, .inl (T 0, 6, .inl (upd (upd (upd (upd (upd (upd (fun _ => 0) (xi 0).toNatClampNeg (xi 0)) (xi 1).toNatClampNeg (xi 1)) (xi 2).toNatClampNeg (xi 2)) (xi 3).toNatClampNeg (xi 3)) (xi 4).toNatClampNeg (xi 4)) (xi 5).toNatClampNeg (xi 5)))), (u.2, .inl (T 0, 6, .inl (fun _ => 0)))] t.heap ∧ va_D (va_A [(h0, .inr (4, [.null, .null, .int 0]))] sz) [(h0, .inr (4, [.ref u.1, .ref u.2, .int 0])), (u.1, .inl (T 0, 6, .inl (upd (upd (upd (upd (upd (upd (fun _ => 0) (xi 0).toNatClampNeg (xi 0)) (xi 1).toNatClampNeg (xi 1)) (xi 2).toNatClampNeg (xi 2)) (xi 3).toNatClampNeg (xi 3)) (xi 4).toNatClampNeg (xi 4)) (xi 5).toNatClampNeg (xi 5)))), (u.2, .inl (T 0, 6, .inl (fun _ => 0)))]) (va_A [(h0, .inr (4, [.null, .null, .int 0]))] sz)) 2 12 (va_A [(h0, .inr (4, [.null, .null, .int 0]))] sz) := by
  refine Met.ofW (cc := cX4_init) (maxL := 1) (ret := none) (by decide) rfl ?_
  intro p e s m args below meth c s₁ B hml hv
  obtain ⟨rfl, hsz, hP, hK, hD0⟩ := hv
  have hx := B.exec
  have hb := B.bytes
  have hr := B.returns
  have hts : ∀ w ∈ xtb, w.before ([.ref h0] : List Value).toArray s = true := fun w hw => atoms_spec (ws := Cond.code yX4_init cX4_init 1 none :: xtb) B.pre w (List.mem_cons_of_mem _ hw)
  have hown : s.vm.findClass RX4 = some m.cls := findClass_of_methodNamed B.named
  have hlocks := B.notSynchronized
  have hin : meth.name = "<init>" := (name_of_methodNamed B.named B.method).1
  subst hsz
  have hD := hD0.self (sz := s.heap.size)
  generalize hAe : va_A [(h0, .inr (4, [.null, .null, .int 0]))] s.heap.size = A at hD ⊢
  have hA : ∀ q : Nat, s.heap.size ≤ q → A q := fun q h => by rw [← hAe]; exact Or.inr h
  have hS : va_S A s.heap s.heap [] := va_S.rf
  have hl := lv_entry ([.ref h0]) (n := 1) (Nat.le_of_ble_eq_true rfl)
  rw [lg_entry_eq]
  generalize (lg_sl ([.ref h0]) ++ List.replicate (1 - (lg_sl ([.ref h0])).length) Slot.unset).toArray = ls at hl ⊢
  have hl : lv_has ls 1 [(0, .ref h0)] := hl
  refine lv_aload_n hx hb dX4_init_0 rfl (lv_at hl 0 rfl) ?_
  refine W.objInit hx hb hown (hts _ (xm 81 (by decide +kernel) rfl)) (hts _ (xm 57 (by decide +kernel) rfl)) (hts _ (xm 58 (by decide +kernel) rfl)) rfl (by rw [hml]; exact hl.1) rfl dX4_init_1 (Nat.le_of_ble_eq_true rfl) (Nat.le_of_ble_eq_true rfl) ?_
  refine W.eq (g2 := F0 m 4 ls []) rfl ?_
  refine lv_aload_n hx hb dX4_init_4 rfl (lv_at hl 0 rfl) ?_
  refine lv_bipush (v := xi 6) hx hb dX4_init_5 (xi_bipush (by decide)) ?_
  refine xnewa (tc := 0) (n := 6) (N' := 6) hx hb (hts _ (xm 75 (by decide +kernel) rfl)) rfl (fun _ _ => rfl) hK rfl hP hD hS hA rfl rfl (by decide) (by decide) (Nat.le_of_ble_eq_true rfl) (Nat.le_of_ble_eq_true rfl) dX4_init_7 (fun q0 H hP hD hS => ?_)
  have hP : va_P D vwCl [(h0, .inr (4, [.null, .null, .int 0])), (q0, .inl (T 0, 6, .inl (fun _ => 0)))] H := hP
  have hD : va_D A [(h0, .inr (4, [.null, .null, .int 0])), (q0, .inl (T 0, 6, .inl (fun _ => 0)))] := hD
  refine W.widen (k := 1) (n := 6) (by decide) (by decide) ?_
  refine lv_dup hx hb dX4_init_9 rfl ?_
  refine lv_iconst (v := xi 0) hx hb dX4_init_10 rfl ?_
  refine lv_iconst (v := xi 0) hx hb dX4_init_11 rfl ?_
  refine va_iast hx hb hK hP hD hS 1 0 rfl rfl (xi_in (i := 0) (n := 6) (by decide) (by decide)) dX4_init_12 (fun H locs hP hD hS => ?_)
  have hP : va_P D vwCl [(h0, .inr (4, [.null, .null, .int 0])), (q0, .inl (T 0, 6, .inl (upd (fun _ => 0) (xi 0).toNatClampNeg (xi 0))))] H := hP
  have hD : va_D A [(h0, .inr (4, [.null, .null, .int 0])), (q0, .inl (T 0, 6, .inl (upd (fun _ => 0) (xi 0).toNatClampNeg (xi 0))))] := hD
  refine lv_dup hx hb dX4_init_13 rfl ?_
  refine lv_iconst (v := xi 1) hx hb dX4_init_14 rfl ?_
  refine lv_iconst (v := xi 1) hx hb dX4_init_15 rfl ?_
  refine va_iast hx hb hK hP hD hS 1 0 rfl rfl (xi_in (i := 1) (n := 6) (by decide) (by decide)) dX4_init_16 (fun H locs hP hD hS => ?_)
  have hP : va_P D vwCl [(h0, .inr (4, [.null, .null, .int 0])), (q0, .inl (T 0, 6, .inl (upd (upd (fun _ => 0) (xi 0).toNatClampNeg (xi 0)) (xi 1).toNatClampNeg (xi 1))))] H := hP
  have hD : va_D A [(h0, .inr (4, [.null, .null, .int 0])), (q0, .inl (T 0, 6, .inl (upd (upd (fun _ => 0) (xi 0).toNatClampNeg (xi 0)) (xi 1).toNatClampNeg (xi 1))))] := hD
  refine lv_dup hx hb dX4_init_17 rfl ?_
  refine lv_iconst (v := xi 2) hx hb dX4_init_18 rfl ?_
  refine lv_iconst (v := xi 2) hx hb dX4_init_19 rfl ?_
  refine va_iast hx hb hK hP hD hS 1 0 rfl rfl (xi_in (i := 2) (n := 6) (by decide) (by decide)) dX4_init_20 (fun H locs hP hD hS => ?_)
  have hP : va_P D vwCl [(h0, .inr (4, [.null, .null, .int 0])), (q0, .inl (T 0, 6, .inl (upd (upd (upd (fun _ => 0) (xi 0).toNatClampNeg (xi 0)) (xi 1).toNatClampNeg (xi 1)) (xi 2).toNatClampNeg (xi 2))))] H := hP
  have hD : va_D A [(h0, .inr (4, [.null, .null, .int 0])), (q0, .inl (T 0, 6, .inl (upd (upd (upd (fun _ => 0) (xi 0).toNatClampNeg (xi 0)) (xi 1).toNatClampNeg (xi 1)) (xi 2).toNatClampNeg (xi 2))))] := hD
  refine lv_dup hx hb dX4_init_21 rfl ?_
  refine lv_iconst (v := xi 3) hx hb dX4_init_22 rfl ?_
  refine lv_iconst (v := xi 3) hx hb dX4_init_23 rfl ?_
  refine va_iast hx hb hK hP hD hS 1 0 rfl rfl (xi_in (i := 3) (n := 6) (by decide) (by decide)) dX4_init_24 (fun H locs hP hD hS => ?_)
  have hP : va_P D vwCl [(h0, .inr (4, [.null, .null, .int 0])), (q0, .inl (T 0, 6, .inl (upd (upd (upd (upd (fun _ => 0) (xi 0).toNatClampNeg (xi 0)) (xi 1).toNatClampNeg (xi 1)) (xi 2).toNatClampNeg (xi 2)) (xi 3).toNatClampNeg (xi 3))))] H := hP
  have hD : va_D A [(h0, .inr (4, [.null, .null, .int 0])), (q0, .inl (T 0, 6, .inl (upd (upd (upd (upd (fun _ => 0) (xi 0).toNatClampNeg (xi 0)) (xi 1).toNatClampNeg (xi 1)) (xi 2).toNatClampNeg (xi 2)) (xi 3).toNatClampNeg (xi 3))))] := hD
  refine lv_dup hx hb dX4_init_25 rfl ?_
  refine lv_iconst (v := xi 4) hx hb dX4_init_26 rfl ?_
  refine lv_iconst (v := xi 4) hx hb dX4_init_27 rfl ?_
  refine va_iast hx hb hK hP hD hS 1 0 rfl rfl (xi_in (i := 4) (n := 6) (by decide) (by decide)) dX4_init_28 (fun H locs hP hD hS => ?_)
  have hP : va_P D vwCl [(h0, .inr (4, [.null, .null, .int 0])), (q0, .inl (T 0, 6, .inl (upd (upd (upd (upd (upd (fun _ => 0) (xi 0).toNatClampNeg (xi 0)) (xi 1).toNatClampNeg (xi 1)) (xi 2).toNatClampNeg (xi 2)) (xi 3).toNatClampNeg (xi 3)) (xi 4).toNatClampNeg (xi 4))))] H := hP
  have hD : va_D A [(h0, .inr (4, [.null, .null, .int 0])), (q0, .inl (T 0, 6, .inl (upd (upd (upd (upd (upd (fun _ => 0) (xi 0).toNatClampNeg (xi 0)) (xi 1).toNatClampNeg (xi 1)) (xi 2).toNatClampNeg (xi 2)) (xi 3).toNatClampNeg (xi 3)) (xi 4).toNatClampNeg (xi 4))))] := hD
  refine lv_dup hx hb dX4_init_29 rfl ?_
  refine lv_iconst (v := xi 5) hx hb dX4_init_30 rfl ?_
  refine lv_iconst (v := xi 5) hx hb dX4_init_31 rfl ?_
  refine va_iast hx hb hK hP hD hS 1 0 rfl rfl (xi_in (i := 5) (n := 6) (by decide) (by decide)) dX4_init_32 (fun H locs hP hD hS => ?_)
  have hP : va_P D vwCl [(h0, .inr (4, [.null, .null, .int 0])), (q0, .inl (T 0, 6, .inl (upd (upd (upd (upd (upd (upd (fun _ => 0) (xi 0).toNatClampNeg (xi 0)) (xi 1).toNatClampNeg (xi 1)) (xi 2).toNatClampNeg (xi 2)) (xi 3).toNatClampNeg (xi 3)) (xi 4).toNatClampNeg (xi 4)) (xi 5).toNatClampNeg (xi 5))))] H := hP
  have hD : va_D A [(h0, .inr (4, [.null, .null, .int 0])), (q0, .inl (T 0, 6, .inl (upd (upd (upd (upd (upd (upd (fun _ => 0) (xi 0).toNatClampNeg (xi 0)) (xi 1).toNatClampNeg (xi 1)) (xi 2).toNatClampNeg (xi 2)) (xi 3).toNatClampNeg (xi 3)) (xi 4).toNatClampNeg (xi 4)) (xi 5).toNatClampNeg (xi 5))))] := hD
  refine va_putF (D := D) (ci := 4) (v := .ref q0) (ty := (.array .int)) (C := RX4) (T := TX4) (N := 3) hx hb hts inX4 tyX4 tyX4_ok nmX4 hown hK hP hD hS 0 rfl rfl 0 (by decide) (hts _ (xm 82 (by decide +kernel) rfl)) (fun _ h9 => h9) rfl hin rfl (by decide +kernel) rfl rfl (Nat.le_of_ble_eq_true rfl) dX4_init_33 (fun H locs hP hD hS => ?_)
  have hP : va_P D vwCl [(h0, .inr (4, [.ref q0, .null, .int 0])), (q0, .inl (T 0, 6, .inl (upd (upd (upd (upd (upd (upd (fun _ => 0) (xi 0).toNatClampNeg (xi 0)) (xi 1).toNatClampNeg (xi 1)) (xi 2).toNatClampNeg (xi 2)) (xi 3).toNatClampNeg (xi 3)) (xi 4).toNatClampNeg (xi 4)) (xi 5).toNatClampNeg (xi 5))))] H := hP
  have hD : va_D A [(h0, .inr (4, [.ref q0, .null, .int 0])), (q0, .inl (T 0, 6, .inl (upd (upd (upd (upd (upd (upd (fun _ => 0) (xi 0).toNatClampNeg (xi 0)) (xi 1).toNatClampNeg (xi 1)) (xi 2).toNatClampNeg (xi 2)) (xi 3).toNatClampNeg (xi 3)) (xi 4).toNatClampNeg (xi 4)) (xi 5).toNatClampNeg (xi 5))))] := hD
  refine lv_aload_n hx hb dX4_init_36 rfl (lv_at hl 0 rfl) ?_
  refine lv_bipush (v := xi 6) hx hb dX4_init_37 (xi_bipush (by decide)) ?_
  refine xnewa (tc := 0) (n := 6) (N' := 6) hx hb (hts _ (xm 75 (by decide +kernel) rfl)) rfl (fun _ _ => rfl) hK rfl hP hD hS hA rfl rfl (by decide) (by decide) (Nat.le_of_ble_eq_true rfl) (Nat.le_of_ble_eq_true rfl) dX4_init_39 (fun q1 H hP hD hS => ?_)
  have hP : va_P D vwCl [(h0, .inr (4, [.ref q0, .null, .int 0])), (q0, .inl (T 0, 6, .inl (upd (upd (upd (upd (upd (upd (fun _ => 0) (xi 0).toNatClampNeg (xi 0)) (xi 1).toNatClampNeg (xi 1)) (xi 2).toNatClampNeg (xi 2)) (xi 3).toNatClampNeg (xi 3)) (xi 4).toNatClampNeg (xi 4)) (xi 5).toNatClampNeg (xi 5)))), (q1, .inl (T 0, 6, .inl (fun _ => 0)))] H := hP
  have hD : va_D A [(h0, .inr (4, [.ref q0, .null, .int 0])), (q0, .inl (T 0, 6, .inl (upd (upd (upd (upd (upd (upd (fun _ => 0) (xi 0).toNatClampNeg (xi 0)) (xi 1).toNatClampNeg (xi 1)) (xi 2).toNatClampNeg (xi 2)) (xi 3).toNatClampNeg (xi 3)) (xi 4).toNatClampNeg (xi 4)) (xi 5).toNatClampNeg (xi 5)))), (q1, .inl (T 0, 6, .inl (fun _ => 0)))] := hD
  refine W.widen (k := 2) (n := 12) (by decide) (by decide) ?_
  refine va_putF (D := D) (ci := 4) (v := .ref q1) (ty := (.array .int)) (C := RX4) (T := TX4) (N := 3) hx hb hts inX4 tyX4 tyX4_ok nmX4 hown hK hP hD hS 0 rfl rfl 1 (by decide) (hts _ (xm 83 (by decide +kernel) rfl)) (fun _ h9 => h9) rfl hin rfl (by decide +kernel) rfl rfl (Nat.le_of_ble_eq_true rfl) dX4_init_41 (fun H locs hP hD hS => ?_)
  have hP : va_P D vwCl [(h0, .inr (4, [.ref q0, .ref q1, .int 0])), (q0, .inl (T 0, 6, .inl (upd (upd (upd (upd (upd (upd (fun _ => 0) (xi 0).toNatClampNeg (xi 0)) (xi 1).toNatClampNeg (xi 1)) (xi 2).toNatClampNeg (xi 2)) (xi 3).toNatClampNeg (xi 3)) (xi 4).toNatClampNeg (xi 4)) (xi 5).toNatClampNeg (xi 5)))), (q1, .inl (T 0, 6, .inl (fun _ => 0)))] H := hP
  have hD : va_D A [(h0, .inr (4, [.ref q0, .ref q1, .int 0])), (q0, .inl (T 0, 6, .inl (upd (upd (upd (upd (upd (upd (fun _ => 0) (xi 0).toNatClampNeg (xi 0)) (xi 1).toNatClampNeg (xi 1)) (xi 2).toNatClampNeg (xi 2)) (xi 3).toNatClampNeg (xi 3)) (xi 4).toNatClampNeg (xi 4)) (xi 5).toNatClampNeg (xi 5)))), (q1, .inl (T 0, 6, .inl (fun _ => 0)))] := hD
  exact W.vret hx hb hr (fun t ht hW => ⟨⟨(q0, q1), rfl, trivial, by rw [ht]; exact hP, hD⟩, hS.F ht⟩) hS.2.2 dX4_init_44
theorem dX1_init_0 : decode cX1_init 0 = .ok (.aload_n 0, 1) := by decide +kernel
theorem dX1_init_1 : decode cX1_init 1 = .ok (.invokespecial 3, 3) := by decide +kernel
theorem dX1_init_4 : decode cX1_init 4 = .ok (.aload_n 0, 1) := by decide +kernel
theorem dX1_init_5 : decode cX1_init 5 = .ok (.iconst 4, 1) := by decide +kernel
theorem dX1_init_6 : decode cX1_init 6 = .ok (.newarray .int, 2) := by decide +kernel
theorem dX1_init_8 : decode cX1_init 8 = .ok (.putfield 9, 3) := by decide +kernel
theorem dX1_init_11 : decode cX1_init 11 = .ok (.aload_n 0, 1) := by decide +kernel
theorem dX1_init_12 : decode cX1_init 12 = .ok (.bipush 10, 2) := by decide +kernel
theorem dX1_init_14 : decode cX1_init 14 = .ok (.newarray .int, 2) := by decide +kernel
theorem dX1_init_16 : decode cX1_init 16 = .ok (.putfield 15, 3) := by decide +kernel
theorem dX1_init_19 : decode cX1_init 19 = .ok (.aload_n 0, 1) := by decide +kernel
theorem dX1_init_20 : decode cX1_init 20 = .ok (.aload_n 1, 1) := by decide +kernel
theorem dX1_init_21 : decode cX1_init 21 = .ok (.putfield 18, 3) := by decide +kernel
theorem dX1_init_24 : decode cX1_init 24 = .ok (.aload_n 0, 1) := by decide +kernel
theorem dX1_init_25 : decode cX1_init 25 = .ok (.aload_n 2, 1) := by decide +kernel
theorem dX1_init_26 : decode cX1_init 26 = .ok (.putfield 22, 3) := by decide +kernel
theorem dX1_init_29 : decode cX1_init 29 = .ok (.return_, 1) := by decide +kernel
set_option maxHeartbeats 4000000 in
set_option maxRecDepth 100000 in
theorem c_X1_init (l : Launch) (D : va_G) (T : Nat → ClassId) (h0 sz : Nat) (a1 a2 : Nat) : Met l yX1_init (.code yX1_init cX1_init 3 none :: xtb) ({ frames := 1, cells := 2, slots := 14, locals := 12 }) (va_Pc [.ref h0, .ref a1, .ref a2] (fun U => U.heap.size = sz ∧ va_P D vwCl [(h0, .inr (1, [.null, .null, .null, .null]))] U.heap ∧ va_K D vwCl [(T 0, .int), (T 1, .boolean)] U ∧ va_D (fun _ => True) [(h0, .inr (1, [.null, .null, .null, .null]))])) (va_Qv (fun _ : Nat × Nat => True) (fun u t => va_P D vwCl [(h0, .inr (1, [.ref a1, .ref a2, .ref u.1, .ref u.2])), (u.1, .inl (T 0, 4, .inl (fun _ => 0))), (u.2, .inl (T 0, 10, .inl (fun _ => 0)))] t.heap ∧ va_D (va_A [(h0, .inr (1, [.null, .null, .null, .null]))] sz) [(h0, .inr (1, [.ref a1, .ref a2, .ref u.1, .ref u.2])), (u.1, .inl (T 0, 4, .inl (fun _ => 0))), (u.2, .inl (T 0, 10, .inl (fun _ => 0)))]) (va_A [(h0, .inr (1, [.null, .null, .null, .null]))] sz)) 2 14 (va_A [(h0, .inr (1, [.null, .null, .null, .null]))] sz) := by
  refine Met.ofW (cc := cX1_init) (maxL := 3) (ret := none) (by decide) rfl ?_
  intro p e s m args below meth c s₁ B hml hv
  obtain ⟨rfl, hsz, hP, hK, hD0⟩ := hv
  have hx := B.exec
  have hb := B.bytes
  have hr := B.returns
  have hts : ∀ w ∈ xtb, w.before ([.ref h0, .ref a1, .ref a2] : List Value).toArray s = true := fun w hw => atoms_spec (ws := Cond.code yX1_init cX1_init 3 none :: xtb) B.pre w (List.mem_cons_of_mem _ hw)
  have hown : s.vm.findClass RX1 = some m.cls := findClass_of_methodNamed B.named
  have hlocks := B.notSynchronized
  have hin : meth.name = "<init>" := (name_of_methodNamed B.named B.method).1
  subst hsz
  have hD := hD0.self (sz := s.heap.size)
  generalize hAe : va_A [(h0, .inr (1, [.null, .null, .null, .null]))] s.heap.size = A at hD ⊢
  have hA : ∀ q : Nat, s.heap.size ≤ q → A q := fun q h => by rw [← hAe]; exact Or.inr h
  have hS : va_S A s.heap s.heap [] := va_S.rf
  have hl := lv_entry ([.ref h0, .ref a1, .ref a2]) (n := 3) (Nat.le_of_ble_eq_true rfl)
  rw [lg_entry_eq]
  generalize (lg_sl ([.ref h0, .ref a1, .ref a2]) ++ List.replicate (3 - (lg_sl ([.ref h0, .ref a1, .ref a2])).length) Slot.unset).toArray = ls at hl ⊢
  have hl : lv_has ls 3 [(0, .ref h0), (1, .ref a1), (2, .ref a2)] := hl
  refine lv_aload_n hx hb dX1_init_0 rfl (lv_at hl 0 rfl) ?_
  refine W.objInit hx hb hown (hts _ (xm 97 (by decide +kernel) rfl)) (hts _ (xm 57 (by decide +kernel) rfl)) (hts _ (xm 58 (by decide +kernel) rfl)) rfl (by rw [hml]; exact hl.1) rfl dX1_init_1 (Nat.le_of_ble_eq_true rfl) (Nat.le_of_ble_eq_true rfl) ?_
  refine W.eq (g2 := F0 m 4 ls []) rfl ?_
  refine lv_aload_n hx hb dX1_init_4 rfl (lv_at hl 0 rfl) ?_
  refine lv_iconst (v := xi 4) hx hb dX1_init_5 rfl ?_
  refine xnewa (tc := 0) (n := 4) (N' := 4) hx hb (hts _ (xm 75 (by decide +kernel) rfl)) rfl (fun _ _ => rfl) hK rfl hP hD hS hA rfl rfl (by decide) (by decide) (Nat.le_of_ble_eq_true rfl) (Nat.le_of_ble_eq_true rfl) dX1_init_6 (fun q0 H hP hD hS => ?_)
  have hP : va_P D vwCl [(h0, .inr (1, [.null, .null, .null, .null])), (q0, .inl (T 0, 4, .inl (fun _ => 0)))] H := hP
  have hD : va_D A [(h0, .inr (1, [.null, .null, .null, .null])), (q0, .inl (T 0, 4, .inl (fun _ => 0)))] := hD
  refine W.widen (k := 1) (n := 4) (by decide) (by decide) ?_
  refine va_putF (D := D) (ci := 1) (v := .ref q0) (ty := (.array .int)) (C := RX1) (T := TX1) (N := 4) hx hb hts inX1 tyX1 tyX1_ok nmX1 hown hK hP hD hS 0 rfl rfl 2 (by decide) (hts _ (xm 100 (by decide +kernel) rfl)) (fun _ h9 => h9) rfl hin rfl (by decide +kernel) rfl rfl (Nat.le_of_ble_eq_true rfl) dX1_init_8 (fun H locs hP hD hS => ?_)
  have hP : va_P D vwCl [(h0, .inr (1, [.null, .null, .ref q0, .null])), (q0, .inl (T 0, 4, .inl (fun _ => 0)))] H := hP
  have hD : va_D A [(h0, .inr (1, [.null, .null, .ref q0, .null])), (q0, .inl (T 0, 4, .inl (fun _ => 0)))] := hD
  refine lv_aload_n hx hb dX1_init_11 rfl (lv_at hl 0 rfl) ?_
  refine lv_bipush (v := xi 10) hx hb dX1_init_12 (xi_bipush (by decide)) ?_
  refine xnewa (tc := 0) (n := 10) (N' := 10) hx hb (hts _ (xm 75 (by decide +kernel) rfl)) rfl (fun _ _ => rfl) hK rfl hP hD hS hA rfl rfl (by decide) (by decide) (Nat.le_of_ble_eq_true rfl) (Nat.le_of_ble_eq_true rfl) dX1_init_14 (fun q1 H hP hD hS => ?_)
  have hP : va_P D vwCl [(h0, .inr (1, [.null, .null, .ref q0, .null])), (q0, .inl (T 0, 4, .inl (fun _ => 0))), (q1, .inl (T 0, 10, .inl (fun _ => 0)))] H := hP
  have hD : va_D A [(h0, .inr (1, [.null, .null, .ref q0, .null])), (q0, .inl (T 0, 4, .inl (fun _ => 0))), (q1, .inl (T 0, 10, .inl (fun _ => 0)))] := hD
  refine W.widen (k := 2) (n := 14) (by decide) (by decide) ?_
  refine va_putF (D := D) (ci := 1) (v := .ref q1) (ty := (.array .int)) (C := RX1) (T := TX1) (N := 4) hx hb hts inX1 tyX1 tyX1_ok nmX1 hown hK hP hD hS 0 rfl rfl 3 (by decide) (hts _ (xm 101 (by decide +kernel) rfl)) (fun _ h9 => h9) rfl hin rfl (by decide +kernel) rfl rfl (Nat.le_of_ble_eq_true rfl) dX1_init_16 (fun H locs hP hD hS => ?_)
  have hP : va_P D vwCl [(h0, .inr (1, [.null, .null, .ref q0, .ref q1])), (q0, .inl (T 0, 4, .inl (fun _ => 0))), (q1, .inl (T 0, 10, .inl (fun _ => 0)))] H := hP
  have hD : va_D A [(h0, .inr (1, [.null, .null, .ref q0, .ref q1])), (q0, .inl (T 0, 4, .inl (fun _ => 0))), (q1, .inl (T 0, 10, .inl (fun _ => 0)))] := hD
  refine lv_aload_n hx hb dX1_init_19 rfl (lv_at hl 0 rfl) ?_
  refine lv_aload_n hx hb dX1_init_20 rfl (lv_at hl 1 rfl) ?_
  refine va_putF (D := D) (ci := 1) (v := .ref a1) (ty := (.object "NetShape$Rows")) (C := RX1) (T := TX1) (N := 4) hx hb hts inX1 tyX1 tyX1_ok nmX1 hown hK hP hD hS 0 rfl rfl 0 (by decide) (hts _ (xm 98 (by decide +kernel) rfl)) (fun _ h9 => h9) rfl hin rfl (by decide +kernel) rfl rfl (Nat.le_of_ble_eq_true rfl) dX1_init_21 (fun H locs hP hD hS => ?_)
  have hP : va_P D vwCl [(h0, .inr (1, [.ref a1, .null, .ref q0, .ref q1])), (q0, .inl (T 0, 4, .inl (fun _ => 0))), (q1, .inl (T 0, 10, .inl (fun _ => 0)))] H := hP
  have hD : va_D A [(h0, .inr (1, [.ref a1, .null, .ref q0, .ref q1])), (q0, .inl (T 0, 4, .inl (fun _ => 0))), (q1, .inl (T 0, 10, .inl (fun _ => 0)))] := hD
  refine lv_aload_n hx hb dX1_init_24 rfl (lv_at hl 0 rfl) ?_
  refine lv_aload_n hx hb dX1_init_25 rfl (lv_at hl 2 rfl) ?_
  refine va_putF (D := D) (ci := 1) (v := .ref a2) (ty := (.object "NetShape$Told")) (C := RX1) (T := TX1) (N := 4) hx hb hts inX1 tyX1 tyX1_ok nmX1 hown hK hP hD hS 0 rfl rfl 1 (by decide) (hts _ (xm 99 (by decide +kernel) rfl)) (fun _ h9 => h9) rfl hin rfl (by decide +kernel) rfl rfl (Nat.le_of_ble_eq_true rfl) dX1_init_26 (fun H locs hP hD hS => ?_)
  have hP : va_P D vwCl [(h0, .inr (1, [.ref a1, .ref a2, .ref q0, .ref q1])), (q0, .inl (T 0, 4, .inl (fun _ => 0))), (q1, .inl (T 0, 10, .inl (fun _ => 0)))] H := hP
  have hD : va_D A [(h0, .inr (1, [.ref a1, .ref a2, .ref q0, .ref q1])), (q0, .inl (T 0, 4, .inl (fun _ => 0))), (q1, .inl (T 0, 10, .inl (fun _ => 0)))] := hD
  exact W.vret hx hb hr (fun t ht hW => ⟨⟨(q0, q1), rfl, trivial, by rw [ht]; exact hP, hD⟩, hS.F ht⟩) hS.2.2 dX1_init_29
theorem dX0_init_0 : decode cX0_init 0 = .ok (.aload_n 0, 1) := by decide +kernel
theorem dX0_init_1 : decode cX0_init 1 = .ok (.invokespecial 3, 3) := by decide +kernel
theorem dX0_init_4 : decode cX0_init 4 = .ok (.aload_n 0, 1) := by decide +kernel
theorem dX0_init_5 : decode cX0_init 5 = .ok (.sipush 512, 3) := by decide +kernel
theorem dX0_init_8 : decode cX0_init 8 = .ok (.newarray .int, 2) := by decide +kernel
theorem dX0_init_10 : decode cX0_init 10 = .ok (.putfield 9, 3) := by decide +kernel
theorem dX0_init_13 : decode cX0_init 13 = .ok (.aload_n 0, 1) := by decide +kernel
theorem dX0_init_14 : decode cX0_init 14 = .ok (.aload_n 1, 1) := by decide +kernel
theorem dX0_init_15 : decode cX0_init 15 = .ok (.putfield 15, 3) := by decide +kernel
theorem dX0_init_18 : decode cX0_init 18 = .ok (.aload_n 0, 1) := by decide +kernel
theorem dX0_init_19 : decode cX0_init 19 = .ok (.aload_n 2, 1) := by decide +kernel
theorem dX0_init_20 : decode cX0_init 20 = .ok (.putfield 19, 3) := by decide +kernel
theorem dX0_init_23 : decode cX0_init 23 = .ok (.aload_n 0, 1) := by decide +kernel
theorem dX0_init_24 : decode cX0_init 24 = .ok (.aload_n 3, 1) := by decide +kernel
theorem dX0_init_25 : decode cX0_init 25 = .ok (.putfield 23, 3) := by decide +kernel
theorem dX0_init_28 : decode cX0_init 28 = .ok (.return_, 1) := by decide +kernel
set_option maxHeartbeats 4000000 in
set_option maxRecDepth 100000 in
theorem c_X0_init (l : Launch) (D : va_G) (T : Nat → ClassId) (h0 sz : Nat) (a1 a2 a3 : Nat) : Met l yX0_init (.code yX0_init cX0_init 4 none :: xtb) ({ frames := 1, cells := 1, slots := 512, locals := 12 }) (va_Pc [.ref h0, .ref a1, .ref a2, .ref a3] (fun U => U.heap.size = sz ∧ va_P D vwCl [(h0, .inr (0, [.null, .null, .null, .null, .int 0, .int 0, .int 0, .int 0, .int 0, .int 0]))] U.heap ∧ va_K D vwCl [(T 0, .int), (T 1, .boolean)] U ∧ va_D (fun _ => True) [(h0, .inr (0, [.null, .null, .null, .null, .int 0, .int 0, .int 0, .int 0, .int 0, .int 0]))])) (va_Qv (fun _ : Nat => True) (fun u t => va_P D vwCl [(h0, .inr (0, [.ref a1, .ref a2, .ref a3, .ref u, .int 0, .int 0, .int 0, .int 0, .int 0, .int 0])), (u, .inl (T 0, 512, .inl (fun _ => 0)))] t.heap ∧ va_D (va_A [(h0, .inr (0, [.null, .null, .null, .null, .int 0, .int 0, .int 0, .int 0, .int 0, .int 0]))] sz) [(h0, .inr (0, [.ref a1, .ref a2, .ref a3, .ref u, .int 0, .int 0, .int 0, .int 0, .int 0, .int 0])), (u, .inl (T 0, 512, .inl (fun _ => 0)))]) (va_A [(h0, .inr (0, [.null, .null, .null, .null, .int 0, .int 0, .int 0, .int 0, .int 0, .int 0]))] sz)) 1 512 (va_A [(h0, .inr (0, [.null, .null, .null, .null, .int 0, .int 0, .int 0, .int 0, .int 0, .int 0]))] sz) := by
  refine Met.ofW (cc := cX0_init) (maxL := 4) (ret := none) (by decide) rfl ?_
  intro p e s m args below meth c s₁ B hml hv
  obtain ⟨rfl, hsz, hP, hK, hD0⟩ := hv
  have hx := B.exec
  have hb := B.bytes
  have hr := B.returns
  have hts : ∀ w ∈ xtb, w.before ([.ref h0, .ref a1, .ref a2, .ref a3] : List Value).toArray s = true := fun w hw => atoms_spec (ws := Cond.code yX0_init cX0_init 4 none :: xtb) B.pre w (List.mem_cons_of_mem _ hw)
  have hown : s.vm.findClass RX0 = some m.cls := findClass_of_methodNamed B.named
  have hlocks := B.notSynchronized
  have hin : meth.name = "<init>" := (name_of_methodNamed B.named B.method).1
  subst hsz
  have hD := hD0.self (sz := s.heap.size)
  generalize hAe : va_A [(h0, .inr (0, [.null, .null, .null, .null, .int 0, .int 0, .int 0, .int 0, .int 0, .int 0]))] s.heap.size = A at hD ⊢
  have hA : ∀ q : Nat, s.heap.size ≤ q → A q := fun q h => by rw [← hAe]; exact Or.inr h
  have hS : va_S A s.heap s.heap [] := va_S.rf
  have hl := lv_entry ([.ref h0, .ref a1, .ref a2, .ref a3]) (n := 4) (Nat.le_of_ble_eq_true rfl)
  rw [lg_entry_eq]
  generalize (lg_sl ([.ref h0, .ref a1, .ref a2, .ref a3]) ++ List.replicate (4 - (lg_sl ([.ref h0, .ref a1, .ref a2, .ref a3])).length) Slot.unset).toArray = ls at hl ⊢
  have hl : lv_has ls 4 [(0, .ref h0), (1, .ref a1), (2, .ref a2), (3, .ref a3)] := hl
  refine lv_aload_n hx hb dX0_init_0 rfl (lv_at hl 0 rfl) ?_
  refine W.objInit hx hb hown (hts _ (xm 116 (by decide +kernel) rfl)) (hts _ (xm 57 (by decide +kernel) rfl)) (hts _ (xm 58 (by decide +kernel) rfl)) rfl (by rw [hml]; exact hl.1) rfl dX0_init_1 (Nat.le_of_ble_eq_true rfl) (Nat.le_of_ble_eq_true rfl) ?_
  refine W.eq (g2 := F0 m 4 ls []) rfl ?_
  refine lv_aload_n hx hb dX0_init_4 rfl (lv_at hl 0 rfl) ?_
  refine lv_sipush (v := xi 512) hx hb dX0_init_5 (xi_sipush (by decide)) ?_
  refine xnewa (tc := 0) (n := 512) (N' := 512) hx hb (hts _ (xm 75 (by decide +kernel) rfl)) rfl (fun _ _ => rfl) hK rfl hP hD hS hA rfl rfl (by decide) (by decide) (Nat.le_of_ble_eq_true rfl) (Nat.le_of_ble_eq_true rfl) dX0_init_8 (fun q0 H hP hD hS => ?_)
  have hP : va_P D vwCl [(h0, .inr (0, [.null, .null, .null, .null, .int 0, .int 0, .int 0, .int 0, .int 0, .int 0])), (q0, .inl (T 0, 512, .inl (fun _ => 0)))] H := hP
  have hD : va_D A [(h0, .inr (0, [.null, .null, .null, .null, .int 0, .int 0, .int 0, .int 0, .int 0, .int 0])), (q0, .inl (T 0, 512, .inl (fun _ => 0)))] := hD
  refine W.widen (k := 1) (n := 512) (by decide) (by decide) ?_
  refine va_putF (D := D) (ci := 0) (v := .ref q0) (ty := (.array .int)) (C := RX0) (T := TX0) (N := 10) hx hb hts inX0 tyX0 tyX0_ok nmX0 hown hK hP hD hS 0 rfl rfl 3 (by decide) (hts _ (xm 120 (by decide +kernel) rfl)) (fun _ h9 => h9) rfl hin rfl (by decide +kernel) rfl rfl (Nat.le_of_ble_eq_true rfl) dX0_init_10 (fun H locs hP hD hS => ?_)
  have hP : va_P D vwCl [(h0, .inr (0, [.null, .null, .null, .ref q0, .int 0, .int 0, .int 0, .int 0, .int 0, .int 0])), (q0, .inl (T 0, 512, .inl (fun _ => 0)))] H := hP
  have hD : va_D A [(h0, .inr (0, [.null, .null, .null, .ref q0, .int 0, .int 0, .int 0, .int 0, .int 0, .int 0])), (q0, .inl (T 0, 512, .inl (fun _ => 0)))] := hD
  refine lv_aload_n hx hb dX0_init_13 rfl (lv_at hl 0 rfl) ?_
  refine lv_aload_n hx hb dX0_init_14 rfl (lv_at hl 1 rfl) ?_
  refine va_putF (D := D) (ci := 0) (v := .ref a1) (ty := (.object "NetShape$Rows")) (C := RX0) (T := TX0) (N := 10) hx hb hts inX0 tyX0 tyX0_ok nmX0 hown hK hP hD hS 0 rfl rfl 0 (by decide) (hts _ (xm 117 (by decide +kernel) rfl)) (fun _ h9 => h9) rfl hin rfl (by decide +kernel) rfl rfl (Nat.le_of_ble_eq_true rfl) dX0_init_15 (fun H locs hP hD hS => ?_)
  have hP : va_P D vwCl [(h0, .inr (0, [.ref a1, .null, .null, .ref q0, .int 0, .int 0, .int 0, .int 0, .int 0, .int 0])), (q0, .inl (T 0, 512, .inl (fun _ => 0)))] H := hP
  have hD : va_D A [(h0, .inr (0, [.ref a1, .null, .null, .ref q0, .int 0, .int 0, .int 0, .int 0, .int 0, .int 0])), (q0, .inl (T 0, 512, .inl (fun _ => 0)))] := hD
  refine lv_aload_n hx hb dX0_init_18 rfl (lv_at hl 0 rfl) ?_
  refine lv_aload_n hx hb dX0_init_19 rfl (lv_at hl 2 rfl) ?_
  refine va_putF (D := D) (ci := 0) (v := .ref a2) (ty := (.object "NetShape$Told")) (C := RX0) (T := TX0) (N := 10) hx hb hts inX0 tyX0 tyX0_ok nmX0 hown hK hP hD hS 0 rfl rfl 1 (by decide) (hts _ (xm 118 (by decide +kernel) rfl)) (fun _ h9 => h9) rfl hin rfl (by decide +kernel) rfl rfl (Nat.le_of_ble_eq_true rfl) dX0_init_20 (fun H locs hP hD hS => ?_)
  have hP : va_P D vwCl [(h0, .inr (0, [.ref a1, .ref a2, .null, .ref q0, .int 0, .int 0, .int 0, .int 0, .int 0, .int 0])), (q0, .inl (T 0, 512, .inl (fun _ => 0)))] H := hP
  have hD : va_D A [(h0, .inr (0, [.ref a1, .ref a2, .null, .ref q0, .int 0, .int 0, .int 0, .int 0, .int 0, .int 0])), (q0, .inl (T 0, 512, .inl (fun _ => 0)))] := hD
  refine lv_aload_n hx hb dX0_init_23 rfl (lv_at hl 0 rfl) ?_
  refine lv_aload_n hx hb dX0_init_24 rfl (lv_at hl 3 rfl) ?_
  refine va_putF (D := D) (ci := 0) (v := .ref a3) (ty := (.object "NetShape$Net")) (C := RX0) (T := TX0) (N := 10) hx hb hts inX0 tyX0 tyX0_ok nmX0 hown hK hP hD hS 0 rfl rfl 2 (by decide) (hts _ (xm 119 (by decide +kernel) rfl)) (fun _ h9 => h9) rfl hin rfl (by decide +kernel) rfl rfl (Nat.le_of_ble_eq_true rfl) dX0_init_25 (fun H locs hP hD hS => ?_)
  have hP : va_P D vwCl [(h0, .inr (0, [.ref a1, .ref a2, .ref a3, .ref q0, .int 0, .int 0, .int 0, .int 0, .int 0, .int 0])), (q0, .inl (T 0, 512, .inl (fun _ => 0)))] H := hP
  have hD : va_D A [(h0, .inr (0, [.ref a1, .ref a2, .ref a3, .ref q0, .int 0, .int 0, .int 0, .int 0, .int 0, .int 0])), (q0, .inl (T 0, 512, .inl (fun _ => 0)))] := hD
  exact W.vret hx hb hr (fun t ht hW => ⟨⟨q0, rfl, trivial, by rw [ht]; exact hP, hD⟩, hS.F ht⟩) hS.2.2 dX0_init_28
theorem dX3_init_0 : decode cX3_init 0 = .ok (.aload_n 0, 1) := by decide +kernel
theorem dX3_init_1 : decode cX3_init 1 = .ok (.invokespecial 3, 3) := by decide +kernel
theorem dX3_init_4 : decode cX3_init 4 = .ok (.aload_n 0, 1) := by decide +kernel
theorem dX3_init_5 : decode cX3_init 5 = .ok (.bipush 10, 2) := by decide +kernel
theorem dX3_init_7 : decode cX3_init 7 = .ok (.newarray .int, 2) := by decide +kernel
theorem dX3_init_9 : decode cX3_init 9 = .ok (.putfield 9, 3) := by decide +kernel
theorem dX3_init_12 : decode cX3_init 12 = .ok (.aload_n 0, 1) := by decide +kernel
theorem dX3_init_13 : decode cX3_init 13 = .ok (.bipush 10, 2) := by decide +kernel
theorem dX3_init_15 : decode cX3_init 15 = .ok (.newarray .int, 2) := by decide +kernel
theorem dX3_init_17 : decode cX3_init 17 = .ok (.putfield 15, 3) := by decide +kernel
theorem dX3_init_20 : decode cX3_init 20 = .ok (.aload_n 0, 1) := by decide +kernel
theorem dX3_init_21 : decode cX3_init 21 = .ok (.sipush 396, 3) := by decide +kernel
theorem dX3_init_24 : decode cX3_init 24 = .ok (.newarray .int, 2) := by decide +kernel
theorem dX3_init_26 : decode cX3_init 26 = .ok (.putfield 18, 3) := by decide +kernel
theorem dX3_init_29 : decode cX3_init 29 = .ok (.aload_n 0, 1) := by decide +kernel
theorem dX3_init_30 : decode cX3_init 30 = .ok (.aload_n 1, 1) := by decide +kernel
theorem dX3_init_31 : decode cX3_init 31 = .ok (.putfield 21, 3) := by decide +kernel
theorem dX3_init_34 : decode cX3_init 34 = .ok (.aload_n 0, 1) := by decide +kernel
theorem dX3_init_35 : decode cX3_init 35 = .ok (.aload_n 2, 1) := by decide +kernel
theorem dX3_init_36 : decode cX3_init 36 = .ok (.putfield 25, 3) := by decide +kernel
theorem dX3_init_39 : decode cX3_init 39 = .ok (.aload_n 0, 1) := by decide +kernel
theorem dX3_init_40 : decode cX3_init 40 = .ok (.aload_n 3, 1) := by decide +kernel
theorem dX3_init_41 : decode cX3_init 41 = .ok (.putfield 29, 3) := by decide +kernel
theorem dX3_init_44 : decode cX3_init 44 = .ok (.aload_n 0, 1) := by decide +kernel
theorem dX3_init_45 : decode cX3_init 45 = .ok (.aload 4, 2) := by decide +kernel
theorem dX3_init_47 : decode cX3_init 47 = .ok (.putfield 33, 3) := by decide +kernel
theorem dX3_init_50 : decode cX3_init 50 = .ok (.return_, 1) := by decide +kernel
set_option maxHeartbeats 4000000 in
set_option maxRecDepth 100000 in
theorem c_X3_init (l : Launch) (D : va_G) (T : Nat → ClassId) (h0 sz : Nat) (a1 a2 a3 a4 : Nat) : Met l yX3_init (.code yX3_init cX3_init 5 none :: xtb) ({ frames := 1, cells := 3, slots := 416, locals := 12 }) (va_Pc [.ref h0, .ref a1, .ref a2, .ref a3, .ref a4] (fun U => U.heap.size = sz ∧ va_P D vwCl [(h0, .inr (3, [.null, .null, .null, .null, .null, .null, .null, .int 0, .int 0, .int 0]))] U.heap ∧ va_K D vwCl [(T 0, .int), (T 1, .boolean)] U ∧ va_D (fun _ => True) [(h0, .inr (3, [.null, .null, .null, .null, .null, .null, .null, .int 0, .int 0, .int 0]))])) (va_Qv (fun _ : Nat × Nat × Nat => True) (fun u t => va_P D vwCl [(h0, .inr (3, [.ref a1, .ref a2, .ref a3, .ref a4, .ref u.1, .ref u.2.1, .ref u.2.2, .int 0, .int 0, .int 0])), (u.1, .inl (T 0, 10, .inl (fun _ => 0))), (u.2.1, .inl (T 0, 10, .inl (fun _ => 0))), (u.2.2, .inl (T 0, 396, .inl (fun _ => 0)))] t.heap ∧ va_D (va_A [(h0, .inr (3, [.null, .null, .null, .null, .null, .null, .null, .int 0, .int 0, .int 0]))] sz) [(h0, .inr (3, [.ref a1, .ref a2, .ref a3, .ref a4, .ref u.1, .ref u.2.1, .ref u.2.2, .int 0, .int 0, .int 0])), (u.1, .inl (T 0, 10, .inl (fun _ => 0))), (u.2.1, .inl (T 0, 10, .inl (fun _ => 0))), (u.2.2, .inl (T 0, 396, .inl (fun _ => 0)))]) (va_A [(h0, .inr (3, [.null, .null, .null, .null, .null, .null, .null, .int 0, .int 0, .int 0]))] sz)) 3 416 (va_A [(h0, .inr (3, [.null, .null, .null, .null, .null, .null, .null, .int 0, .int 0, .int 0]))] sz) := by
  refine Met.ofW (cc := cX3_init) (maxL := 5) (ret := none) (by decide) rfl ?_
  intro p e s m args below meth c s₁ B hml hv
  obtain ⟨rfl, hsz, hP, hK, hD0⟩ := hv
  have hx := B.exec
  have hb := B.bytes
  have hr := B.returns
  have hts : ∀ w ∈ xtb, w.before ([.ref h0, .ref a1, .ref a2, .ref a3, .ref a4] : List Value).toArray s = true := fun w hw => atoms_spec (ws := Cond.code yX3_init cX3_init 5 none :: xtb) B.pre w (List.mem_cons_of_mem _ hw)
  have hown : s.vm.findClass RX3 = some m.cls := findClass_of_methodNamed B.named
  have hlocks := B.notSynchronized
  have hin : meth.name = "<init>" := (name_of_methodNamed B.named B.method).1
  subst hsz
  have hD := hD0.self (sz := s.heap.size)
  generalize hAe : va_A [(h0, .inr (3, [.null, .null, .null, .null, .null, .null, .null, .int 0, .int 0, .int 0]))] s.heap.size = A at hD ⊢
  have hA : ∀ q : Nat, s.heap.size ≤ q → A q := fun q h => by rw [← hAe]; exact Or.inr h
  have hS : va_S A s.heap s.heap [] := va_S.rf
  have hl := lv_entry ([.ref h0, .ref a1, .ref a2, .ref a3, .ref a4]) (n := 5) (Nat.le_of_ble_eq_true rfl)
  rw [lg_entry_eq]
  generalize (lg_sl ([.ref h0, .ref a1, .ref a2, .ref a3, .ref a4]) ++ List.replicate (5 - (lg_sl ([.ref h0, .ref a1, .ref a2, .ref a3, .ref a4])).length) Slot.unset).toArray = ls at hl ⊢
  have hl : lv_has ls 5 [(0, .ref h0), (1, .ref a1), (2, .ref a2), (3, .ref a3), (4, .ref a4)] := hl
  refine lv_aload_n hx hb dX3_init_0 rfl (lv_at hl 0 rfl) ?_
  refine W.objInit hx hb hown (hts _ (xm 153 (by decide +kernel) rfl)) (hts _ (xm 57 (by decide +kernel) rfl)) (hts _ (xm 58 (by decide +kernel) rfl)) rfl (by rw [hml]; exact hl.1) rfl dX3_init_1 (Nat.le_of_ble_eq_true rfl) (Nat.le_of_ble_eq_true rfl) ?_
  refine W.eq (g2 := F0 m 4 ls []) rfl ?_
  refine lv_aload_n hx hb dX3_init_4 rfl (lv_at hl 0 rfl) ?_
  refine lv_bipush (v := xi 10) hx hb dX3_init_5 (xi_bipush (by decide)) ?_
  refine xnewa (tc := 0) (n := 10) (N' := 10) hx hb (hts _ (xm 75 (by decide +kernel) rfl)) rfl (fun _ _ => rfl) hK rfl hP hD hS hA rfl rfl (by decide) (by decide) (Nat.le_of_ble_eq_true rfl) (Nat.le_of_ble_eq_true rfl) dX3_init_7 (fun q0 H hP hD hS => ?_)
  have hP : va_P D vwCl [(h0, .inr (3, [.null, .null, .null, .null, .null, .null, .null, .int 0, .int 0, .int 0])), (q0, .inl (T 0, 10, .inl (fun _ => 0)))] H := hP
  have hD : va_D A [(h0, .inr (3, [.null, .null, .null, .null, .null, .null, .null, .int 0, .int 0, .int 0])), (q0, .inl (T 0, 10, .inl (fun _ => 0)))] := hD
  refine W.widen (k := 1) (n := 10) (by decide) (by decide) ?_
  refine va_putF (D := D) (ci := 3) (v := .ref q0) (ty := (.array .int)) (C := RX3) (T := TX3) (N := 10) hx hb hts inX3 tyX3 tyX3_ok nmX3 hown hK hP hD hS 0 rfl rfl 4 (by decide) (hts _ (xm 158 (by decide +kernel) rfl)) (fun _ h9 => h9) rfl hin rfl (by decide +kernel) rfl rfl (Nat.le_of_ble_eq_true rfl) dX3_init_9 (fun H locs hP hD hS => ?_)
  have hP : va_P D vwCl [(h0, .inr (3, [.null, .null, .null, .null, .ref q0, .null, .null, .int 0, .int 0, .int 0])), (q0, .inl (T 0, 10, .inl (fun _ => 0)))] H := hP
  have hD : va_D A [(h0, .inr (3, [.null, .null, .null, .null, .ref q0, .null, .null, .int 0, .int 0, .int 0])), (q0, .inl (T 0, 10, .inl (fun _ => 0)))] := hD
  refine lv_aload_n hx hb dX3_init_12 rfl (lv_at hl 0 rfl) ?_
  refine lv_bipush (v := xi 10) hx hb dX3_init_13 (xi_bipush (by decide)) ?_
  refine xnewa (tc := 0) (n := 10) (N' := 10) hx hb (hts _ (xm 75 (by decide +kernel) rfl)) rfl (fun _ _ => rfl) hK rfl hP hD hS hA rfl rfl (by decide) (by decide) (Nat.le_of_ble_eq_true rfl) (Nat.le_of_ble_eq_true rfl) dX3_init_15 (fun q1 H hP hD hS => ?_)
  have hP : va_P D vwCl [(h0, .inr (3, [.null, .null, .null, .null, .ref q0, .null, .null, .int 0, .int 0, .int 0])), (q0, .inl (T 0, 10, .inl (fun _ => 0))), (q1, .inl (T 0, 10, .inl (fun _ => 0)))] H := hP
  have hD : va_D A [(h0, .inr (3, [.null, .null, .null, .null, .ref q0, .null, .null, .int 0, .int 0, .int 0])), (q0, .inl (T 0, 10, .inl (fun _ => 0))), (q1, .inl (T 0, 10, .inl (fun _ => 0)))] := hD
  refine W.widen (k := 2) (n := 20) (by decide) (by decide) ?_
  refine va_putF (D := D) (ci := 3) (v := .ref q1) (ty := (.array .int)) (C := RX3) (T := TX3) (N := 10) hx hb hts inX3 tyX3 tyX3_ok nmX3 hown hK hP hD hS 0 rfl rfl 5 (by decide) (hts _ (xm 159 (by decide +kernel) rfl)) (fun _ h9 => h9) rfl hin rfl (by decide +kernel) rfl rfl (Nat.le_of_ble_eq_true rfl) dX3_init_17 (fun H locs hP hD hS => ?_)
  have hP : va_P D vwCl [(h0, .inr (3, [.null, .null, .null, .null, .ref q0, .ref q1, .null, .int 0, .int 0, .int 0])), (q0, .inl (T 0, 10, .inl (fun _ => 0))), (q1, .inl (T 0, 10, .inl (fun _ => 0)))] H := hP
  have hD : va_D A [(h0, .inr (3, [.null, .null, .null, .null, .ref q0, .ref q1, .null, .int 0, .int 0, .int 0])), (q0, .inl (T 0, 10, .inl (fun _ => 0))), (q1, .inl (T 0, 10, .inl (fun _ => 0)))] := hD
  refine lv_aload_n hx hb dX3_init_20 rfl (lv_at hl 0 rfl) ?_
  refine lv_sipush (v := xi 396) hx hb dX3_init_21 (xi_sipush (by decide)) ?_
  refine xnewa (tc := 0) (n := 396) (N' := 396) hx hb (hts _ (xm 75 (by decide +kernel) rfl)) rfl (fun _ _ => rfl) hK rfl hP hD hS hA rfl rfl (by decide) (by decide) (Nat.le_of_ble_eq_true rfl) (Nat.le_of_ble_eq_true rfl) dX3_init_24 (fun q2 H hP hD hS => ?_)
  have hP : va_P D vwCl [(h0, .inr (3, [.null, .null, .null, .null, .ref q0, .ref q1, .null, .int 0, .int 0, .int 0])), (q0, .inl (T 0, 10, .inl (fun _ => 0))), (q1, .inl (T 0, 10, .inl (fun _ => 0))), (q2, .inl (T 0, 396, .inl (fun _ => 0)))] H := hP
  have hD : va_D A [(h0, .inr (3, [.null, .null, .null, .null, .ref q0, .ref q1, .null, .int 0, .int 0, .int 0])), (q0, .inl (T 0, 10, .inl (fun _ => 0))), (q1, .inl (T 0, 10, .inl (fun _ => 0))), (q2, .inl (T 0, 396, .inl (fun _ => 0)))] := hD
  refine W.widen (k := 3) (n := 416) (by decide) (by decide) ?_
  refine va_putF (D := D) (ci := 3) (v := .ref q2) (ty := (.array .int)) (C := RX3) (T := TX3) (N := 10) hx hb hts inX3 tyX3 tyX3_ok nmX3 hown hK hP hD hS 0 rfl rfl 6 (by decide) (hts _ (xm 160 (by decide +kernel) rfl)) (fun _ h9 => h9) rfl hin rfl (by decide +kernel) rfl rfl (Nat.le_of_ble_eq_true rfl) dX3_init_26 (fun H locs hP hD hS => ?_)
  have hP : va_P D vwCl [(h0, .inr (3, [.null, .null, .null, .null, .ref q0, .ref q1, .ref q2, .int 0, .int 0, .int 0])), (q0, .inl (T 0, 10, .inl (fun _ => 0))), (q1, .inl (T 0, 10, .inl (fun _ => 0))), (q2, .inl (T 0, 396, .inl (fun _ => 0)))] H := hP
  have hD : va_D A [(h0, .inr (3, [.null, .null, .null, .null, .ref q0, .ref q1, .ref q2, .int 0, .int 0, .int 0])), (q0, .inl (T 0, 10, .inl (fun _ => 0))), (q1, .inl (T 0, 10, .inl (fun _ => 0))), (q2, .inl (T 0, 396, .inl (fun _ => 0)))] := hD
  refine lv_aload_n hx hb dX3_init_29 rfl (lv_at hl 0 rfl) ?_
  refine lv_aload_n hx hb dX3_init_30 rfl (lv_at hl 1 rfl) ?_
  refine va_putF (D := D) (ci := 3) (v := .ref a1) (ty := (.object "NetShape$Rows")) (C := RX3) (T := TX3) (N := 10) hx hb hts inX3 tyX3 tyX3_ok nmX3 hown hK hP hD hS 0 rfl rfl 0 (by decide) (hts _ (xm 154 (by decide +kernel) rfl)) (fun _ h9 => h9) rfl hin rfl (by decide +kernel) rfl rfl (Nat.le_of_ble_eq_true rfl) dX3_init_31 (fun H locs hP hD hS => ?_)
  have hP : va_P D vwCl [(h0, .inr (3, [.ref a1, .null, .null, .null, .ref q0, .ref q1, .ref q2, .int 0, .int 0, .int 0])), (q0, .inl (T 0, 10, .inl (fun _ => 0))), (q1, .inl (T 0, 10, .inl (fun _ => 0))), (q2, .inl (T 0, 396, .inl (fun _ => 0)))] H := hP
  have hD : va_D A [(h0, .inr (3, [.ref a1, .null, .null, .null, .ref q0, .ref q1, .ref q2, .int 0, .int 0, .int 0])), (q0, .inl (T 0, 10, .inl (fun _ => 0))), (q1, .inl (T 0, 10, .inl (fun _ => 0))), (q2, .inl (T 0, 396, .inl (fun _ => 0)))] := hD
  refine lv_aload_n hx hb dX3_init_34 rfl (lv_at hl 0 rfl) ?_
  refine lv_aload_n hx hb dX3_init_35 rfl (lv_at hl 2 rfl) ?_
  refine va_putF (D := D) (ci := 3) (v := .ref a2) (ty := (.object "NetShape$Told")) (C := RX3) (T := TX3) (N := 10) hx hb hts inX3 tyX3 tyX3_ok nmX3 hown hK hP hD hS 0 rfl rfl 1 (by decide) (hts _ (xm 155 (by decide +kernel) rfl)) (fun _ h9 => h9) rfl hin rfl (by decide +kernel) rfl rfl (Nat.le_of_ble_eq_true rfl) dX3_init_36 (fun H locs hP hD hS => ?_)
  have hP : va_P D vwCl [(h0, .inr (3, [.ref a1, .ref a2, .null, .null, .ref q0, .ref q1, .ref q2, .int 0, .int 0, .int 0])), (q0, .inl (T 0, 10, .inl (fun _ => 0))), (q1, .inl (T 0, 10, .inl (fun _ => 0))), (q2, .inl (T 0, 396, .inl (fun _ => 0)))] H := hP
  have hD : va_D A [(h0, .inr (3, [.ref a1, .ref a2, .null, .null, .ref q0, .ref q1, .ref q2, .int 0, .int 0, .int 0])), (q0, .inl (T 0, 10, .inl (fun _ => 0))), (q1, .inl (T 0, 10, .inl (fun _ => 0))), (q2, .inl (T 0, 396, .inl (fun _ => 0)))] := hD
  refine lv_aload_n hx hb dX3_init_39 rfl (lv_at hl 0 rfl) ?_
  refine lv_aload_n hx hb dX3_init_40 rfl (lv_at hl 3 rfl) ?_
  refine va_putF (D := D) (ci := 3) (v := .ref a3) (ty := (.object "NetShape$Net")) (C := RX3) (T := TX3) (N := 10) hx hb hts inX3 tyX3 tyX3_ok nmX3 hown hK hP hD hS 0 rfl rfl 2 (by decide) (hts _ (xm 156 (by decide +kernel) rfl)) (fun _ h9 => h9) rfl hin rfl (by decide +kernel) rfl rfl (Nat.le_of_ble_eq_true rfl) dX3_init_41 (fun H locs hP hD hS => ?_)
  have hP : va_P D vwCl [(h0, .inr (3, [.ref a1, .ref a2, .ref a3, .null, .ref q0, .ref q1, .ref q2, .int 0, .int 0, .int 0])), (q0, .inl (T 0, 10, .inl (fun _ => 0))), (q1, .inl (T 0, 10, .inl (fun _ => 0))), (q2, .inl (T 0, 396, .inl (fun _ => 0)))] H := hP
  have hD : va_D A [(h0, .inr (3, [.ref a1, .ref a2, .ref a3, .null, .ref q0, .ref q1, .ref q2, .int 0, .int 0, .int 0])), (q0, .inl (T 0, 10, .inl (fun _ => 0))), (q1, .inl (T 0, 10, .inl (fun _ => 0))), (q2, .inl (T 0, 396, .inl (fun _ => 0)))] := hD
  refine lv_aload_n hx hb dX3_init_44 rfl (lv_at hl 0 rfl) ?_
  refine lv_aload hx hb dX3_init_45 (lv_at hl 4 rfl) ?_
  refine va_putF (D := D) (ci := 3) (v := .ref a4) (ty := (.object "NetShape$LeastNets")) (C := RX3) (T := TX3) (N := 10) hx hb hts inX3 tyX3 tyX3_ok nmX3 hown hK hP hD hS 0 rfl rfl 3 (by decide) (hts _ (xm 157 (by decide +kernel) rfl)) (fun _ h9 => h9) rfl hin rfl (by decide +kernel) rfl rfl (Nat.le_of_ble_eq_true rfl) dX3_init_47 (fun H locs hP hD hS => ?_)
  have hP : va_P D vwCl [(h0, .inr (3, [.ref a1, .ref a2, .ref a3, .ref a4, .ref q0, .ref q1, .ref q2, .int 0, .int 0, .int 0])), (q0, .inl (T 0, 10, .inl (fun _ => 0))), (q1, .inl (T 0, 10, .inl (fun _ => 0))), (q2, .inl (T 0, 396, .inl (fun _ => 0)))] H := hP
  have hD : va_D A [(h0, .inr (3, [.ref a1, .ref a2, .ref a3, .ref a4, .ref q0, .ref q1, .ref q2, .int 0, .int 0, .int 0])), (q0, .inl (T 0, 10, .inl (fun _ => 0))), (q1, .inl (T 0, 10, .inl (fun _ => 0))), (q2, .inl (T 0, 396, .inl (fun _ => 0)))] := hD
  exact W.vret hx hb hr (fun t ht hW => ⟨⟨(q0, q1, q2), rfl, trivial, by rw [ht]; exact hP, hD⟩, hS.F ht⟩) hS.2.2 dX3_init_50
