theorem dX6_init_0 : decode cX6_init 0 = .ok (.aload_n 0, 1) := by decide +kernel
theorem dX6_init_1 : decode cX6_init 1 = .ok (.invokespecial 1, 3) := by decide +kernel
theorem dX6_init_4 : decode cX6_init 4 = .ok (.aload_n 0, 1) := by decide +kernel
theorem dX6_init_5 : decode cX6_init 5 = .ok (.bipush 6, 2) := by decide +kernel
theorem dX6_init_7 : decode cX6_init 7 = .ok (.newarray .int, 2) := by decide +kernel
theorem dX6_init_9 : decode cX6_init 9 = .ok (.putfield 7, 3) := by decide +kernel
theorem dX6_init_12 : decode cX6_init 12 = .ok (.aload_n 0, 1) := by decide +kernel
theorem dX6_init_13 : decode cX6_init 13 = .ok (.bipush 36, 2) := by decide +kernel
theorem dX6_init_15 : decode cX6_init 15 = .ok (.newarray .int, 2) := by decide +kernel
theorem dX6_init_17 : decode cX6_init 17 = .ok (.putfield 13, 3) := by decide +kernel
theorem dX6_init_20 : decode cX6_init 20 = .ok (.aload_n 0, 1) := by decide +kernel
theorem dX6_init_21 : decode cX6_init 21 = .ok (.bipush 6, 2) := by decide +kernel
theorem dX6_init_23 : decode cX6_init 23 = .ok (.newarray .int, 2) := by decide +kernel
theorem dX6_init_25 : decode cX6_init 25 = .ok (.putfield 16, 3) := by decide +kernel
theorem dX6_init_28 : decode cX6_init 28 = .ok (.aload_n 0, 1) := by decide +kernel
theorem dX6_init_29 : decode cX6_init 29 = .ok (.bipush 6, 2) := by decide +kernel
theorem dX6_init_31 : decode cX6_init 31 = .ok (.newarray .int, 2) := by decide +kernel
theorem dX6_init_33 : decode cX6_init 33 = .ok (.putfield 19, 3) := by decide +kernel
theorem dX6_init_36 : decode cX6_init 36 = .ok (.aload_n 0, 1) := by decide +kernel
theorem dX6_init_37 : decode cX6_init 37 = .ok (.bipush 36, 2) := by decide +kernel
theorem dX6_init_39 : decode cX6_init 39 = .ok (.newarray .boolean, 2) := by decide +kernel
theorem dX6_init_41 : decode cX6_init 41 = .ok (.putfield 22, 3) := by decide +kernel
theorem dX6_init_44 : decode cX6_init 44 = .ok (.aload_n 0, 1) := by decide +kernel
theorem dX6_init_45 : decode cX6_init 45 = .ok (.iconst 4, 1) := by decide +kernel
theorem dX6_init_46 : decode cX6_init 46 = .ok (.newarray .int, 2) := by decide +kernel
theorem dX6_init_48 : decode cX6_init 48 = .ok (.putfield 26, 3) := by decide +kernel
theorem dX6_init_51 : decode cX6_init 51 = .ok (.aload_n 0, 1) := by decide +kernel
theorem dX6_init_52 : decode cX6_init 52 = .ok (.bipush 36, 2) := by decide +kernel
theorem dX6_init_54 : decode cX6_init 54 = .ok (.newarray .int, 2) := by decide +kernel
theorem dX6_init_56 : decode cX6_init 56 = .ok (.putfield 29, 3) := by decide +kernel
theorem dX6_init_59 : decode cX6_init 59 = .ok (.aload_n 0, 1) := by decide +kernel
theorem dX6_init_60 : decode cX6_init 60 = .ok (.bipush 100, 2) := by decide +kernel
theorem dX6_init_62 : decode cX6_init 62 = .ok (.newarray .boolean, 2) := by decide +kernel
theorem dX6_init_64 : decode cX6_init 64 = .ok (.putfield 32, 3) := by decide +kernel
theorem dX6_init_67 : decode cX6_init 67 = .ok (.aload_n 0, 1) := by decide +kernel
theorem dX6_init_68 : decode cX6_init 68 = .ok (.bipush 100, 2) := by decide +kernel
theorem dX6_init_70 : decode cX6_init 70 = .ok (.newarray .int, 2) := by decide +kernel
theorem dX6_init_72 : decode cX6_init 72 = .ok (.putfield 35, 3) := by decide +kernel
theorem dX6_init_75 : decode cX6_init 75 = .ok (.aload_n 0, 1) := by decide +kernel
theorem dX6_init_76 : decode cX6_init 76 = .ok (.sipush 20160, 3) := by decide +kernel
theorem dX6_init_79 : decode cX6_init 79 = .ok (.newarray .int, 2) := by decide +kernel
theorem dX6_init_81 : decode cX6_init 81 = .ok (.putfield 38, 3) := by decide +kernel
theorem dX6_init_84 : decode cX6_init 84 = .ok (.aload_n 0, 1) := by decide +kernel
theorem dX6_init_85 : decode cX6_init 85 = .ok (.ldc 41, 2) := by decide +kernel
theorem dX6_init_87 : decode cX6_init 87 = .ok (.newarray .int, 2) := by decide +kernel
theorem dX6_init_89 : decode cX6_init 89 = .ok (.putfield 42, 3) := by decide +kernel
theorem dX6_init_92 : decode cX6_init 92 = .ok (.aload_n 0, 1) := by decide +kernel
theorem dX6_init_93 : decode cX6_init 93 = .ok (.ldc 41, 2) := by decide +kernel
theorem dX6_init_95 : decode cX6_init 95 = .ok (.newarray .boolean, 2) := by decide +kernel
theorem dX6_init_97 : decode cX6_init 97 = .ok (.putfield 45, 3) := by decide +kernel
theorem dX6_init_100 : decode cX6_init 100 = .ok (.iconst 0, 1) := by decide +kernel
theorem dX6_init_101 : decode cX6_init 101 = .ok (.istore_n 1, 1) := by decide +kernel
theorem dX6_init_102 : decode cX6_init 102 = .ok (.iload_n 1, 1) := by decide +kernel
theorem dX6_init_103 : decode cX6_init 103 = .ok (.bipush 6, 2) := by decide +kernel
theorem dX6_init_105 : decode cX6_init 105 = .ok (.if_icmp .ge 16, 3) := by decide +kernel
theorem dX6_init_108 : decode cX6_init 108 = .ok (.aload_n 0, 1) := by decide +kernel
theorem dX6_init_109 : decode cX6_init 109 = .ok (.getfield 19, 3) := by decide +kernel
theorem dX6_init_112 : decode cX6_init 112 = .ok (.iload_n 1, 1) := by decide +kernel
theorem dX6_init_113 : decode cX6_init 113 = .ok (.iload_n 1, 1) := by decide +kernel
theorem dX6_init_114 : decode cX6_init 114 = .ok (.iastore, 1) := by decide +kernel
theorem dX6_init_115 : decode cX6_init 115 = .ok (.iinc 1 1, 3) := by decide +kernel
theorem dX6_init_118 : decode cX6_init 118 = .ok (.goto (-16), 3) := by decide +kernel
theorem dX6_init_121 : decode cX6_init 121 = .ok (.return_, 1) := by decide +kernel
theorem fk_0 : (fun _ : Nat => (0 : Int32)) = (fun j : Nat => if j < 0 then nI j else 0) := by
  funext j
  rw [if_neg (by omega)]
theorem fk_1 {k : Nat} (hk : k < 6) : upd (fun j : Nat => if j < k then nI j else 0) (nI k).toNatClampNeg (nI k) = (fun j : Nat => if j < k + 1 then nI j else 0) := by
  funext j
  rw [nI_clamp (by omega)]
  simp only [upd]
  by_cases h : j = k
  · rw [if_pos h, if_pos (by omega), h]
  · rw [if_neg h]
    by_cases h2 : j < k
    · rw [if_pos h2, if_pos (by omega)]
    · rw [if_neg h2, if_neg (by omega)]
theorem N0_4 : (fun j : Nat => xi (N0 4 (j : Int))) = (fun j : Nat => if j < 6 then nI j else 0) := by
  funext j
  by_cases h : j < 6
  · have e : N0 4 (j : Int) = j := if_pos (by omega)
    rw [if_pos h, e, xi_nI]
  · have e : N0 4 (j : Int) = 0 := if_neg (by omega)
    rw [if_neg h, e]
    rfl
set_option maxHeartbeats 4000000 in
set_option maxRecDepth 100000 in
theorem c_X6_init (l : Launch) (D : va_G) (T : Nat → ClassId) (h0 sz : Nat) : Met l yX6_init (.code yX6_init cX6_init 2 none :: xtb) ({ frames := 1, cells := 12, slots := 383370, locals := 12 }) (va_Pc [.ref h0] (fun U => U.heap.size = sz ∧ va_P D vwCl [(h0, .inr (6, [.int 0, .null, .null, .int 0, .null, .null, .null, .int 0, .null, .null, .null, .null, .int 0, .int 0, .int 0, .int 0, .null, .null, .null, .int 0, .int 0]))] U.heap ∧ va_K D vwCl [(T 0, .int), (T 1, .boolean)] U ∧ va_D (fun _ => True) [(h0, .inr (6, [.int 0, .null, .null, .int 0, .null, .null, .null, .int 0, .null, .null, .null, .null, .int 0, .int 0, .int 0, .int 0, .null, .null, .null, .int 0, .int 0]))])) (va_Qv (fun _ : (Nat → Nat) => True) (fun u t => u 0 = h0 ∧ va_P D vwCl (xW T u LM N0) t.heap ∧ va_D (va_A [(h0, .inr (6, [.int 0, .null, .null, .int 0, .null, .null, .null, .int 0, .null, .null, .null, .null, .int 0, .int 0, .int 0, .int 0, .null, .null, .null, .int 0, .int 0]))] sz) (xW T u LM N0)) (va_A [(h0, .inr (6, [.int 0, .null, .null, .int 0, .null, .null, .null, .int 0, .null, .null, .null, .null, .int 0, .int 0, .int 0, .int 0, .null, .null, .null, .int 0, .int 0]))] sz)) 12 383370 (va_A [(h0, .inr (6, [.int 0, .null, .null, .int 0, .null, .null, .null, .int 0, .null, .null, .null, .null, .int 0, .int 0, .int 0, .int 0, .null, .null, .null, .int 0, .int 0]))] sz) := by
  refine Met.ofW (cc := cX6_init) (maxL := 2) (ret := none) (by decide) rfl ?_
  intro p e s m args below meth c s₁ B hml hv
  obtain ⟨rfl, hsz, hP, hK, hD0⟩ := hv
  have hx := B.exec
  have hb := B.bytes
  have hr := B.returns
  have hts : ∀ w ∈ xtb, w.before ([.ref h0] : List Value).toArray s = true := fun w hw => atoms_spec (ws := Cond.code yX6_init cX6_init 2 none :: xtb) B.pre w (List.mem_cons_of_mem _ hw)
  have hown : s.vm.findClass RX6 = some m.cls := findClass_of_methodNamed B.named
  have hlocks := B.notSynchronized
  have hin : meth.name = "<init>" := (name_of_methodNamed B.named B.method).1
  subst hsz
  have hD := hD0.self (sz := s.heap.size)
  generalize hAe : va_A [(h0, .inr (6, [.int 0, .null, .null, .int 0, .null, .null, .null, .int 0, .null, .null, .null, .null, .int 0, .int 0, .int 0, .int 0, .null, .null, .null, .int 0, .int 0]))] s.heap.size = A at hD ⊢
  have hA : ∀ q : Nat, s.heap.size ≤ q → A q := fun q h => by rw [← hAe]; exact Or.inr h
  have hS : va_S A s.heap s.heap [] := va_S.rf
  have hl := lv_entry ([.ref h0]) (n := 2) (Nat.le_of_ble_eq_true rfl)
  rw [lg_entry_eq]
  generalize (lg_sl ([.ref h0]) ++ List.replicate (2 - (lg_sl ([.ref h0])).length) Slot.unset).toArray = ls at hl ⊢
  have hl : lv_has ls 2 [(0, .ref h0)] := hl
  refine lv_aload_n hx hb dX6_init_0 rfl (lv_at hl 0 rfl) ?_
  refine W.objInit hx hb hown (hts _ (xm 573 (by decide +kernel) rfl)) (hts _ (xm 57 (by decide +kernel) rfl)) (hts _ (xm 58 (by decide +kernel) rfl)) rfl (by rw [hml]; exact hl.1) rfl dX6_init_1 (Nat.le_of_ble_eq_true rfl) (Nat.le_of_ble_eq_true rfl) ?_
  refine W.eq (g2 := F0 m 4 ls []) rfl ?_
  refine lv_aload_n hx hb dX6_init_4 rfl (lv_at hl 0 rfl) ?_
  refine lv_bipush (v := xi 6) hx hb dX6_init_5 (xi_bipush (by decide)) ?_
  refine xnewa (tc := 0) (n := 6) (N' := 6) hx hb (hts _ (xm 75 (by decide +kernel) rfl)) rfl (fun _ _ => rfl) hK rfl hP hD hS hA rfl rfl (by decide) (by decide) (Nat.le_of_ble_eq_true rfl) (Nat.le_of_ble_eq_true rfl) dX6_init_7 (fun q0 H hP hD hS => ?_)
  have hP : va_P D vwCl [(h0, .inr (6, [.int 0, .null, .null, .int 0, .null, .null, .null, .int 0, .null, .null, .null, .null, .int 0, .int 0, .int 0, .int 0, .null, .null, .null, .int 0, .int 0])), (q0, .inl (T 0, 6, .inl (fun _ => 0)))] H := hP
  have hD : va_D A [(h0, .inr (6, [.int 0, .null, .null, .int 0, .null, .null, .null, .int 0, .null, .null, .null, .null, .int 0, .int 0, .int 0, .int 0, .null, .null, .null, .int 0, .int 0])), (q0, .inl (T 0, 6, .inl (fun _ => 0)))] := hD
  refine W.widen (k := 1) (n := 6) (by decide) (by decide) ?_
  refine va_putF (D := D) (ci := 6) (v := .ref q0) (ty := (.array .int)) (C := RX6) (T := TX6) (N := 21) hx hb hts inX6 tyX6 tyX6_ok nmX6 hown hK hP hD hS 0 rfl rfl 1 (by decide) (hts _ (xm 576 (by decide +kernel) rfl)) (fun _ h9 => h9) rfl hin rfl (by decide +kernel) rfl rfl (Nat.le_of_ble_eq_true rfl) dX6_init_9 (fun H locs hP hD hS => ?_)
  have hP : va_P D vwCl [(h0, .inr (6, [.int 0, .ref q0, .null, .int 0, .null, .null, .null, .int 0, .null, .null, .null, .null, .int 0, .int 0, .int 0, .int 0, .null, .null, .null, .int 0, .int 0])), (q0, .inl (T 0, 6, .inl (fun _ => 0)))] H := hP
  have hD : va_D A [(h0, .inr (6, [.int 0, .ref q0, .null, .int 0, .null, .null, .null, .int 0, .null, .null, .null, .null, .int 0, .int 0, .int 0, .int 0, .null, .null, .null, .int 0, .int 0])), (q0, .inl (T 0, 6, .inl (fun _ => 0)))] := hD
  refine lv_aload_n hx hb dX6_init_12 rfl (lv_at hl 0 rfl) ?_
  refine lv_bipush (v := xi 36) hx hb dX6_init_13 (xi_bipush (by decide)) ?_
  refine xnewa (tc := 0) (n := 36) (N' := 36) hx hb (hts _ (xm 75 (by decide +kernel) rfl)) rfl (fun _ _ => rfl) hK rfl hP hD hS hA rfl rfl (by decide) (by decide) (Nat.le_of_ble_eq_true rfl) (Nat.le_of_ble_eq_true rfl) dX6_init_15 (fun q1 H hP hD hS => ?_)
  have hP : va_P D vwCl [(h0, .inr (6, [.int 0, .ref q0, .null, .int 0, .null, .null, .null, .int 0, .null, .null, .null, .null, .int 0, .int 0, .int 0, .int 0, .null, .null, .null, .int 0, .int 0])), (q0, .inl (T 0, 6, .inl (fun _ => 0))), (q1, .inl (T 0, 36, .inl (fun _ => 0)))] H := hP
  have hD : va_D A [(h0, .inr (6, [.int 0, .ref q0, .null, .int 0, .null, .null, .null, .int 0, .null, .null, .null, .null, .int 0, .int 0, .int 0, .int 0, .null, .null, .null, .int 0, .int 0])), (q0, .inl (T 0, 6, .inl (fun _ => 0))), (q1, .inl (T 0, 36, .inl (fun _ => 0)))] := hD
  refine W.widen (k := 2) (n := 42) (by decide) (by decide) ?_
  refine va_putF (D := D) (ci := 6) (v := .ref q1) (ty := (.array .int)) (C := RX6) (T := TX6) (N := 21) hx hb hts inX6 tyX6 tyX6_ok nmX6 hown hK hP hD hS 0 rfl rfl 2 (by decide) (hts _ (xm 577 (by decide +kernel) rfl)) (fun _ h9 => h9) rfl hin rfl (by decide +kernel) rfl rfl (Nat.le_of_ble_eq_true rfl) dX6_init_17 (fun H locs hP hD hS => ?_)
  have hP : va_P D vwCl [(h0, .inr (6, [.int 0, .ref q0, .ref q1, .int 0, .null, .null, .null, .int 0, .null, .null, .null, .null, .int 0, .int 0, .int 0, .int 0, .null, .null, .null, .int 0, .int 0])), (q0, .inl (T 0, 6, .inl (fun _ => 0))), (q1, .inl (T 0, 36, .inl (fun _ => 0)))] H := hP
  have hD : va_D A [(h0, .inr (6, [.int 0, .ref q0, .ref q1, .int 0, .null, .null, .null, .int 0, .null, .null, .null, .null, .int 0, .int 0, .int 0, .int 0, .null, .null, .null, .int 0, .int 0])), (q0, .inl (T 0, 6, .inl (fun _ => 0))), (q1, .inl (T 0, 36, .inl (fun _ => 0)))] := hD
  refine lv_aload_n hx hb dX6_init_20 rfl (lv_at hl 0 rfl) ?_
  refine lv_bipush (v := xi 6) hx hb dX6_init_21 (xi_bipush (by decide)) ?_
  refine xnewa (tc := 0) (n := 6) (N' := 6) hx hb (hts _ (xm 75 (by decide +kernel) rfl)) rfl (fun _ _ => rfl) hK rfl hP hD hS hA rfl rfl (by decide) (by decide) (Nat.le_of_ble_eq_true rfl) (Nat.le_of_ble_eq_true rfl) dX6_init_23 (fun q2 H hP hD hS => ?_)
  have hP : va_P D vwCl [(h0, .inr (6, [.int 0, .ref q0, .ref q1, .int 0, .null, .null, .null, .int 0, .null, .null, .null, .null, .int 0, .int 0, .int 0, .int 0, .null, .null, .null, .int 0, .int 0])), (q0, .inl (T 0, 6, .inl (fun _ => 0))), (q1, .inl (T 0, 36, .inl (fun _ => 0))), (q2, .inl (T 0, 6, .inl (fun _ => 0)))] H := hP
  have hD : va_D A [(h0, .inr (6, [.int 0, .ref q0, .ref q1, .int 0, .null, .null, .null, .int 0, .null, .null, .null, .null, .int 0, .int 0, .int 0, .int 0, .null, .null, .null, .int 0, .int 0])), (q0, .inl (T 0, 6, .inl (fun _ => 0))), (q1, .inl (T 0, 36, .inl (fun _ => 0))), (q2, .inl (T 0, 6, .inl (fun _ => 0)))] := hD
  refine W.widen (k := 3) (n := 48) (by decide) (by decide) ?_
  refine va_putF (D := D) (ci := 6) (v := .ref q2) (ty := (.array .int)) (C := RX6) (T := TX6) (N := 21) hx hb hts inX6 tyX6 tyX6_ok nmX6 hown hK hP hD hS 0 rfl rfl 4 (by decide) (hts _ (xm 579 (by decide +kernel) rfl)) (fun _ h9 => h9) rfl hin rfl (by decide +kernel) rfl rfl (Nat.le_of_ble_eq_true rfl) dX6_init_25 (fun H locs hP hD hS => ?_)
  have hP : va_P D vwCl [(h0, .inr (6, [.int 0, .ref q0, .ref q1, .int 0, .ref q2, .null, .null, .int 0, .null, .null, .null, .null, .int 0, .int 0, .int 0, .int 0, .null, .null, .null, .int 0, .int 0])), (q0, .inl (T 0, 6, .inl (fun _ => 0))), (q1, .inl (T 0, 36, .inl (fun _ => 0))), (q2, .inl (T 0, 6, .inl (fun _ => 0)))] H := hP
  have hD : va_D A [(h0, .inr (6, [.int 0, .ref q0, .ref q1, .int 0, .ref q2, .null, .null, .int 0, .null, .null, .null, .null, .int 0, .int 0, .int 0, .int 0, .null, .null, .null, .int 0, .int 0])), (q0, .inl (T 0, 6, .inl (fun _ => 0))), (q1, .inl (T 0, 36, .inl (fun _ => 0))), (q2, .inl (T 0, 6, .inl (fun _ => 0)))] := hD
  refine lv_aload_n hx hb dX6_init_28 rfl (lv_at hl 0 rfl) ?_
  refine lv_bipush (v := xi 6) hx hb dX6_init_29 (xi_bipush (by decide)) ?_
  refine xnewa (tc := 0) (n := 6) (N' := 6) hx hb (hts _ (xm 75 (by decide +kernel) rfl)) rfl (fun _ _ => rfl) hK rfl hP hD hS hA rfl rfl (by decide) (by decide) (Nat.le_of_ble_eq_true rfl) (Nat.le_of_ble_eq_true rfl) dX6_init_31 (fun q3 H hP hD hS => ?_)
  have hP : va_P D vwCl [(h0, .inr (6, [.int 0, .ref q0, .ref q1, .int 0, .ref q2, .null, .null, .int 0, .null, .null, .null, .null, .int 0, .int 0, .int 0, .int 0, .null, .null, .null, .int 0, .int 0])), (q0, .inl (T 0, 6, .inl (fun _ => 0))), (q1, .inl (T 0, 36, .inl (fun _ => 0))), (q2, .inl (T 0, 6, .inl (fun _ => 0))), (q3, .inl (T 0, 6, .inl (fun _ => 0)))] H := hP
  have hD : va_D A [(h0, .inr (6, [.int 0, .ref q0, .ref q1, .int 0, .ref q2, .null, .null, .int 0, .null, .null, .null, .null, .int 0, .int 0, .int 0, .int 0, .null, .null, .null, .int 0, .int 0])), (q0, .inl (T 0, 6, .inl (fun _ => 0))), (q1, .inl (T 0, 36, .inl (fun _ => 0))), (q2, .inl (T 0, 6, .inl (fun _ => 0))), (q3, .inl (T 0, 6, .inl (fun _ => 0)))] := hD
  refine W.widen (k := 4) (n := 54) (by decide) (by decide) ?_
  refine va_putF (D := D) (ci := 6) (v := .ref q3) (ty := (.array .int)) (C := RX6) (T := TX6) (N := 21) hx hb hts inX6 tyX6 tyX6_ok nmX6 hown hK hP hD hS 0 rfl rfl 5 (by decide) (hts _ (xm 580 (by decide +kernel) rfl)) (fun _ h9 => h9) rfl hin rfl (by decide +kernel) rfl rfl (Nat.le_of_ble_eq_true rfl) dX6_init_33 (fun H locs hP hD hS => ?_)
  have hP : va_P D vwCl [(h0, .inr (6, [.int 0, .ref q0, .ref q1, .int 0, .ref q2, .ref q3, .null, .int 0, .null, .null, .null, .null, .int 0, .int 0, .int 0, .int 0, .null, .null, .null, .int 0, .int 0])), (q0, .inl (T 0, 6, .inl (fun _ => 0))), (q1, .inl (T 0, 36, .inl (fun _ => 0))), (q2, .inl (T 0, 6, .inl (fun _ => 0))), (q3, .inl (T 0, 6, .inl (fun _ => 0)))] H := hP
  have hD : va_D A [(h0, .inr (6, [.int 0, .ref q0, .ref q1, .int 0, .ref q2, .ref q3, .null, .int 0, .null, .null, .null, .null, .int 0, .int 0, .int 0, .int 0, .null, .null, .null, .int 0, .int 0])), (q0, .inl (T 0, 6, .inl (fun _ => 0))), (q1, .inl (T 0, 36, .inl (fun _ => 0))), (q2, .inl (T 0, 6, .inl (fun _ => 0))), (q3, .inl (T 0, 6, .inl (fun _ => 0)))] := hD
  refine lv_aload_n hx hb dX6_init_36 rfl (lv_at hl 0 rfl) ?_
  refine lv_bipush (v := xi 36) hx hb dX6_init_37 (xi_bipush (by decide)) ?_
  refine xnewa (tc := 1) (n := 36) (N' := 36) hx hb (hts _ (xm 639 (by decide +kernel) rfl)) rfl (fun _ _ => rfl) hK rfl hP hD hS hA rfl rfl (by decide) (by decide) (Nat.le_of_ble_eq_true rfl) (Nat.le_of_ble_eq_true rfl) dX6_init_39 (fun q4 H hP hD hS => ?_)
  have hP : va_P D vwCl [(h0, .inr (6, [.int 0, .ref q0, .ref q1, .int 0, .ref q2, .ref q3, .null, .int 0, .null, .null, .null, .null, .int 0, .int 0, .int 0, .int 0, .null, .null, .null, .int 0, .int 0])), (q0, .inl (T 0, 6, .inl (fun _ => 0))), (q1, .inl (T 0, 36, .inl (fun _ => 0))), (q2, .inl (T 0, 6, .inl (fun _ => 0))), (q3, .inl (T 0, 6, .inl (fun _ => 0))), (q4, .inl (T 1, 36, .inl (fun _ => 0)))] H := hP
  have hD : va_D A [(h0, .inr (6, [.int 0, .ref q0, .ref q1, .int 0, .ref q2, .ref q3, .null, .int 0, .null, .null, .null, .null, .int 0, .int 0, .int 0, .int 0, .null, .null, .null, .int 0, .int 0])), (q0, .inl (T 0, 6, .inl (fun _ => 0))), (q1, .inl (T 0, 36, .inl (fun _ => 0))), (q2, .inl (T 0, 6, .inl (fun _ => 0))), (q3, .inl (T 0, 6, .inl (fun _ => 0))), (q4, .inl (T 1, 36, .inl (fun _ => 0)))] := hD
  refine W.widen (k := 5) (n := 90) (by decide) (by decide) ?_
  refine va_putF (D := D) (ci := 6) (v := .ref q4) (ty := (.array .boolean)) (C := RX6) (T := TX6) (N := 21) hx hb hts inX6 tyX6 tyX6_ok nmX6 hown hK hP hD hS 0 rfl rfl 6 (by decide) (hts _ (xm 581 (by decide +kernel) rfl)) (fun _ h9 => h9) rfl hin rfl (by decide +kernel) rfl rfl (Nat.le_of_ble_eq_true rfl) dX6_init_41 (fun H locs hP hD hS => ?_)
  have hP : va_P D vwCl [(h0, .inr (6, [.int 0, .ref q0, .ref q1, .int 0, .ref q2, .ref q3, .ref q4, .int 0, .null, .null, .null, .null, .int 0, .int 0, .int 0, .int 0, .null, .null, .null, .int 0, .int 0])), (q0, .inl (T 0, 6, .inl (fun _ => 0))), (q1, .inl (T 0, 36, .inl (fun _ => 0))), (q2, .inl (T 0, 6, .inl (fun _ => 0))), (q3, .inl (T 0, 6, .inl (fun _ => 0))), (q4, .inl (T 1, 36, .inl (fun _ => 0)))] H := hP
  have hD : va_D A [(h0, .inr (6, [.int 0, .ref q0, .ref q1, .int 0, .ref q2, .ref q3, .ref q4, .int 0, .null, .null, .null, .null, .int 0, .int 0, .int 0, .int 0, .null, .null, .null, .int 0, .int 0])), (q0, .inl (T 0, 6, .inl (fun _ => 0))), (q1, .inl (T 0, 36, .inl (fun _ => 0))), (q2, .inl (T 0, 6, .inl (fun _ => 0))), (q3, .inl (T 0, 6, .inl (fun _ => 0))), (q4, .inl (T 1, 36, .inl (fun _ => 0)))] := hD
  refine lv_aload_n hx hb dX6_init_44 rfl (lv_at hl 0 rfl) ?_
  refine lv_iconst (v := xi 4) hx hb dX6_init_45 rfl ?_
  refine xnewa (tc := 0) (n := 4) (N' := 4) hx hb (hts _ (xm 75 (by decide +kernel) rfl)) rfl (fun _ _ => rfl) hK rfl hP hD hS hA rfl rfl (by decide) (by decide) (Nat.le_of_ble_eq_true rfl) (Nat.le_of_ble_eq_true rfl) dX6_init_46 (fun q5 H hP hD hS => ?_)
  have hP : va_P D vwCl [(h0, .inr (6, [.int 0, .ref q0, .ref q1, .int 0, .ref q2, .ref q3, .ref q4, .int 0, .null, .null, .null, .null, .int 0, .int 0, .int 0, .int 0, .null, .null, .null, .int 0, .int 0])), (q0, .inl (T 0, 6, .inl (fun _ => 0))), (q1, .inl (T 0, 36, .inl (fun _ => 0))), (q2, .inl (T 0, 6, .inl (fun _ => 0))), (q3, .inl (T 0, 6, .inl (fun _ => 0))), (q4, .inl (T 1, 36, .inl (fun _ => 0))), (q5, .inl (T 0, 4, .inl (fun _ => 0)))] H := hP
  have hD : va_D A [(h0, .inr (6, [.int 0, .ref q0, .ref q1, .int 0, .ref q2, .ref q3, .ref q4, .int 0, .null, .null, .null, .null, .int 0, .int 0, .int 0, .int 0, .null, .null, .null, .int 0, .int 0])), (q0, .inl (T 0, 6, .inl (fun _ => 0))), (q1, .inl (T 0, 36, .inl (fun _ => 0))), (q2, .inl (T 0, 6, .inl (fun _ => 0))), (q3, .inl (T 0, 6, .inl (fun _ => 0))), (q4, .inl (T 1, 36, .inl (fun _ => 0))), (q5, .inl (T 0, 4, .inl (fun _ => 0)))] := hD
  refine W.widen (k := 6) (n := 94) (by decide) (by decide) ?_
  refine va_putF (D := D) (ci := 6) (v := .ref q5) (ty := (.array .int)) (C := RX6) (T := TX6) (N := 21) hx hb hts inX6 tyX6 tyX6_ok nmX6 hown hK hP hD hS 0 rfl rfl 8 (by decide) (hts _ (xm 583 (by decide +kernel) rfl)) (fun _ h9 => h9) rfl hin rfl (by decide +kernel) rfl rfl (Nat.le_of_ble_eq_true rfl) dX6_init_48 (fun H locs hP hD hS => ?_)
  have hP : va_P D vwCl [(h0, .inr (6, [.int 0, .ref q0, .ref q1, .int 0, .ref q2, .ref q3, .ref q4, .int 0, .ref q5, .null, .null, .null, .int 0, .int 0, .int 0, .int 0, .null, .null, .null, .int 0, .int 0])), (q0, .inl (T 0, 6, .inl (fun _ => 0))), (q1, .inl (T 0, 36, .inl (fun _ => 0))), (q2, .inl (T 0, 6, .inl (fun _ => 0))), (q3, .inl (T 0, 6, .inl (fun _ => 0))), (q4, .inl (T 1, 36, .inl (fun _ => 0))), (q5, .inl (T 0, 4, .inl (fun _ => 0)))] H := hP
  have hD : va_D A [(h0, .inr (6, [.int 0, .ref q0, .ref q1, .int 0, .ref q2, .ref q3, .ref q4, .int 0, .ref q5, .null, .null, .null, .int 0, .int 0, .int 0, .int 0, .null, .null, .null, .int 0, .int 0])), (q0, .inl (T 0, 6, .inl (fun _ => 0))), (q1, .inl (T 0, 36, .inl (fun _ => 0))), (q2, .inl (T 0, 6, .inl (fun _ => 0))), (q3, .inl (T 0, 6, .inl (fun _ => 0))), (q4, .inl (T 1, 36, .inl (fun _ => 0))), (q5, .inl (T 0, 4, .inl (fun _ => 0)))] := hD
  refine lv_aload_n hx hb dX6_init_51 rfl (lv_at hl 0 rfl) ?_
  refine lv_bipush (v := xi 36) hx hb dX6_init_52 (xi_bipush (by decide)) ?_
  refine xnewa (tc := 0) (n := 36) (N' := 36) hx hb (hts _ (xm 75 (by decide +kernel) rfl)) rfl (fun _ _ => rfl) hK rfl hP hD hS hA rfl rfl (by decide) (by decide) (Nat.le_of_ble_eq_true rfl) (Nat.le_of_ble_eq_true rfl) dX6_init_54 (fun q6 H hP hD hS => ?_)
  have hP : va_P D vwCl [(h0, .inr (6, [.int 0, .ref q0, .ref q1, .int 0, .ref q2, .ref q3, .ref q4, .int 0, .ref q5, .null, .null, .null, .int 0, .int 0, .int 0, .int 0, .null, .null, .null, .int 0, .int 0])), (q0, .inl (T 0, 6, .inl (fun _ => 0))), (q1, .inl (T 0, 36, .inl (fun _ => 0))), (q2, .inl (T 0, 6, .inl (fun _ => 0))), (q3, .inl (T 0, 6, .inl (fun _ => 0))), (q4, .inl (T 1, 36, .inl (fun _ => 0))), (q5, .inl (T 0, 4, .inl (fun _ => 0))), (q6, .inl (T 0, 36, .inl (fun _ => 0)))] H := hP
  have hD : va_D A [(h0, .inr (6, [.int 0, .ref q0, .ref q1, .int 0, .ref q2, .ref q3, .ref q4, .int 0, .ref q5, .null, .null, .null, .int 0, .int 0, .int 0, .int 0, .null, .null, .null, .int 0, .int 0])), (q0, .inl (T 0, 6, .inl (fun _ => 0))), (q1, .inl (T 0, 36, .inl (fun _ => 0))), (q2, .inl (T 0, 6, .inl (fun _ => 0))), (q3, .inl (T 0, 6, .inl (fun _ => 0))), (q4, .inl (T 1, 36, .inl (fun _ => 0))), (q5, .inl (T 0, 4, .inl (fun _ => 0))), (q6, .inl (T 0, 36, .inl (fun _ => 0)))] := hD
  refine W.widen (k := 7) (n := 130) (by decide) (by decide) ?_
  refine va_putF (D := D) (ci := 6) (v := .ref q6) (ty := (.array .int)) (C := RX6) (T := TX6) (N := 21) hx hb hts inX6 tyX6 tyX6_ok nmX6 hown hK hP hD hS 0 rfl rfl 9 (by decide) (hts _ (xm 584 (by decide +kernel) rfl)) (fun _ h9 => h9) rfl hin rfl (by decide +kernel) rfl rfl (Nat.le_of_ble_eq_true rfl) dX6_init_56 (fun H locs hP hD hS => ?_)
  have hP : va_P D vwCl [(h0, .inr (6, [.int 0, .ref q0, .ref q1, .int 0, .ref q2, .ref q3, .ref q4, .int 0, .ref q5, .ref q6, .null, .null, .int 0, .int 0, .int 0, .int 0, .null, .null, .null, .int 0, .int 0])), (q0, .inl (T 0, 6, .inl (fun _ => 0))), (q1, .inl (T 0, 36, .inl (fun _ => 0))), (q2, .inl (T 0, 6, .inl (fun _ => 0))), (q3, .inl (T 0, 6, .inl (fun _ => 0))), (q4, .inl (T 1, 36, .inl (fun _ => 0))), (q5, .inl (T 0, 4, .inl (fun _ => 0))), (q6, .inl (T 0, 36, .inl (fun _ => 0)))] H := hP
  have hD : va_D A [(h0, .inr (6, [.int 0, .ref q0, .ref q1, .int 0, .ref q2, .ref q3, .ref q4, .int 0, .ref q5, .ref q6, .null, .null, .int 0, .int 0, .int 0, .int 0, .null, .null, .null, .int 0, .int 0])), (q0, .inl (T 0, 6, .inl (fun _ => 0))), (q1, .inl (T 0, 36, .inl (fun _ => 0))), (q2, .inl (T 0, 6, .inl (fun _ => 0))), (q3, .inl (T 0, 6, .inl (fun _ => 0))), (q4, .inl (T 1, 36, .inl (fun _ => 0))), (q5, .inl (T 0, 4, .inl (fun _ => 0))), (q6, .inl (T 0, 36, .inl (fun _ => 0)))] := hD
  refine lv_aload_n hx hb dX6_init_59 rfl (lv_at hl 0 rfl) ?_
  refine lv_bipush (v := xi 100) hx hb dX6_init_60 (xi_bipush (by decide)) ?_
  refine xnewa (tc := 1) (n := 100) (N' := 100) hx hb (hts _ (xm 639 (by decide +kernel) rfl)) rfl (fun _ _ => rfl) hK rfl hP hD hS hA rfl rfl (by decide) (by decide) (Nat.le_of_ble_eq_true rfl) (Nat.le_of_ble_eq_true rfl) dX6_init_62 (fun q7 H hP hD hS => ?_)
  have hP : va_P D vwCl [(h0, .inr (6, [.int 0, .ref q0, .ref q1, .int 0, .ref q2, .ref q3, .ref q4, .int 0, .ref q5, .ref q6, .null, .null, .int 0, .int 0, .int 0, .int 0, .null, .null, .null, .int 0, .int 0])), (q0, .inl (T 0, 6, .inl (fun _ => 0))), (q1, .inl (T 0, 36, .inl (fun _ => 0))), (q2, .inl (T 0, 6, .inl (fun _ => 0))), (q3, .inl (T 0, 6, .inl (fun _ => 0))), (q4, .inl (T 1, 36, .inl (fun _ => 0))), (q5, .inl (T 0, 4, .inl (fun _ => 0))), (q6, .inl (T 0, 36, .inl (fun _ => 0))), (q7, .inl (T 1, 100, .inl (fun _ => 0)))] H := hP
  have hD : va_D A [(h0, .inr (6, [.int 0, .ref q0, .ref q1, .int 0, .ref q2, .ref q3, .ref q4, .int 0, .ref q5, .ref q6, .null, .null, .int 0, .int 0, .int 0, .int 0, .null, .null, .null, .int 0, .int 0])), (q0, .inl (T 0, 6, .inl (fun _ => 0))), (q1, .inl (T 0, 36, .inl (fun _ => 0))), (q2, .inl (T 0, 6, .inl (fun _ => 0))), (q3, .inl (T 0, 6, .inl (fun _ => 0))), (q4, .inl (T 1, 36, .inl (fun _ => 0))), (q5, .inl (T 0, 4, .inl (fun _ => 0))), (q6, .inl (T 0, 36, .inl (fun _ => 0))), (q7, .inl (T 1, 100, .inl (fun _ => 0)))] := hD
  refine W.widen (k := 8) (n := 230) (by decide) (by decide) ?_
  refine va_putF (D := D) (ci := 6) (v := .ref q7) (ty := (.array .boolean)) (C := RX6) (T := TX6) (N := 21) hx hb hts inX6 tyX6 tyX6_ok nmX6 hown hK hP hD hS 0 rfl rfl 10 (by decide) (hts _ (xm 585 (by decide +kernel) rfl)) (fun _ h9 => h9) rfl hin rfl (by decide +kernel) rfl rfl (Nat.le_of_ble_eq_true rfl) dX6_init_64 (fun H locs hP hD hS => ?_)
  have hP : va_P D vwCl [(h0, .inr (6, [.int 0, .ref q0, .ref q1, .int 0, .ref q2, .ref q3, .ref q4, .int 0, .ref q5, .ref q6, .ref q7, .null, .int 0, .int 0, .int 0, .int 0, .null, .null, .null, .int 0, .int 0])), (q0, .inl (T 0, 6, .inl (fun _ => 0))), (q1, .inl (T 0, 36, .inl (fun _ => 0))), (q2, .inl (T 0, 6, .inl (fun _ => 0))), (q3, .inl (T 0, 6, .inl (fun _ => 0))), (q4, .inl (T 1, 36, .inl (fun _ => 0))), (q5, .inl (T 0, 4, .inl (fun _ => 0))), (q6, .inl (T 0, 36, .inl (fun _ => 0))), (q7, .inl (T 1, 100, .inl (fun _ => 0)))] H := hP
  have hD : va_D A [(h0, .inr (6, [.int 0, .ref q0, .ref q1, .int 0, .ref q2, .ref q3, .ref q4, .int 0, .ref q5, .ref q6, .ref q7, .null, .int 0, .int 0, .int 0, .int 0, .null, .null, .null, .int 0, .int 0])), (q0, .inl (T 0, 6, .inl (fun _ => 0))), (q1, .inl (T 0, 36, .inl (fun _ => 0))), (q2, .inl (T 0, 6, .inl (fun _ => 0))), (q3, .inl (T 0, 6, .inl (fun _ => 0))), (q4, .inl (T 1, 36, .inl (fun _ => 0))), (q5, .inl (T 0, 4, .inl (fun _ => 0))), (q6, .inl (T 0, 36, .inl (fun _ => 0))), (q7, .inl (T 1, 100, .inl (fun _ => 0)))] := hD
  refine lv_aload_n hx hb dX6_init_67 rfl (lv_at hl 0 rfl) ?_
  refine lv_bipush (v := xi 100) hx hb dX6_init_68 (xi_bipush (by decide)) ?_
  refine xnewa (tc := 0) (n := 100) (N' := 100) hx hb (hts _ (xm 75 (by decide +kernel) rfl)) rfl (fun _ _ => rfl) hK rfl hP hD hS hA rfl rfl (by decide) (by decide) (Nat.le_of_ble_eq_true rfl) (Nat.le_of_ble_eq_true rfl) dX6_init_70 (fun q8 H hP hD hS => ?_)
  have hP : va_P D vwCl [(h0, .inr (6, [.int 0, .ref q0, .ref q1, .int 0, .ref q2, .ref q3, .ref q4, .int 0, .ref q5, .ref q6, .ref q7, .null, .int 0, .int 0, .int 0, .int 0, .null, .null, .null, .int 0, .int 0])), (q0, .inl (T 0, 6, .inl (fun _ => 0))), (q1, .inl (T 0, 36, .inl (fun _ => 0))), (q2, .inl (T 0, 6, .inl (fun _ => 0))), (q3, .inl (T 0, 6, .inl (fun _ => 0))), (q4, .inl (T 1, 36, .inl (fun _ => 0))), (q5, .inl (T 0, 4, .inl (fun _ => 0))), (q6, .inl (T 0, 36, .inl (fun _ => 0))), (q7, .inl (T 1, 100, .inl (fun _ => 0))), (q8, .inl (T 0, 100, .inl (fun _ => 0)))] H := hP
  have hD : va_D A [(h0, .inr (6, [.int 0, .ref q0, .ref q1, .int 0, .ref q2, .ref q3, .ref q4, .int 0, .ref q5, .ref q6, .ref q7, .null, .int 0, .int 0, .int 0, .int 0, .null, .null, .null, .int 0, .int 0])), (q0, .inl (T 0, 6, .inl (fun _ => 0))), (q1, .inl (T 0, 36, .inl (fun _ => 0))), (q2, .inl (T 0, 6, .inl (fun _ => 0))), (q3, .inl (T 0, 6, .inl (fun _ => 0))), (q4, .inl (T 1, 36, .inl (fun _ => 0))), (q5, .inl (T 0, 4, .inl (fun _ => 0))), (q6, .inl (T 0, 36, .inl (fun _ => 0))), (q7, .inl (T 1, 100, .inl (fun _ => 0))), (q8, .inl (T 0, 100, .inl (fun _ => 0)))] := hD
  refine W.widen (k := 9) (n := 330) (by decide) (by decide) ?_
  refine va_putF (D := D) (ci := 6) (v := .ref q8) (ty := (.array .int)) (C := RX6) (T := TX6) (N := 21) hx hb hts inX6 tyX6 tyX6_ok nmX6 hown hK hP hD hS 0 rfl rfl 11 (by decide) (hts _ (xm 586 (by decide +kernel) rfl)) (fun _ h9 => h9) rfl hin rfl (by decide +kernel) rfl rfl (Nat.le_of_ble_eq_true rfl) dX6_init_72 (fun H locs hP hD hS => ?_)
  have hP : va_P D vwCl [(h0, .inr (6, [.int 0, .ref q0, .ref q1, .int 0, .ref q2, .ref q3, .ref q4, .int 0, .ref q5, .ref q6, .ref q7, .ref q8, .int 0, .int 0, .int 0, .int 0, .null, .null, .null, .int 0, .int 0])), (q0, .inl (T 0, 6, .inl (fun _ => 0))), (q1, .inl (T 0, 36, .inl (fun _ => 0))), (q2, .inl (T 0, 6, .inl (fun _ => 0))), (q3, .inl (T 0, 6, .inl (fun _ => 0))), (q4, .inl (T 1, 36, .inl (fun _ => 0))), (q5, .inl (T 0, 4, .inl (fun _ => 0))), (q6, .inl (T 0, 36, .inl (fun _ => 0))), (q7, .inl (T 1, 100, .inl (fun _ => 0))), (q8, .inl (T 0, 100, .inl (fun _ => 0)))] H := hP
  have hD : va_D A [(h0, .inr (6, [.int 0, .ref q0, .ref q1, .int 0, .ref q2, .ref q3, .ref q4, .int 0, .ref q5, .ref q6, .ref q7, .ref q8, .int 0, .int 0, .int 0, .int 0, .null, .null, .null, .int 0, .int 0])), (q0, .inl (T 0, 6, .inl (fun _ => 0))), (q1, .inl (T 0, 36, .inl (fun _ => 0))), (q2, .inl (T 0, 6, .inl (fun _ => 0))), (q3, .inl (T 0, 6, .inl (fun _ => 0))), (q4, .inl (T 1, 36, .inl (fun _ => 0))), (q5, .inl (T 0, 4, .inl (fun _ => 0))), (q6, .inl (T 0, 36, .inl (fun _ => 0))), (q7, .inl (T 1, 100, .inl (fun _ => 0))), (q8, .inl (T 0, 100, .inl (fun _ => 0)))] := hD
  refine lv_aload_n hx hb dX6_init_75 rfl (lv_at hl 0 rfl) ?_
  refine lv_sipush (v := xi 20160) hx hb dX6_init_76 (xi_sipush (by decide)) ?_
  refine xnewa (tc := 0) (n := 20160) (N' := 20160) hx hb (hts _ (xm 75 (by decide +kernel) rfl)) rfl (fun _ _ => rfl) hK rfl hP hD hS hA rfl rfl (by decide) (by decide) (Nat.le_of_ble_eq_true rfl) (Nat.le_of_ble_eq_true rfl) dX6_init_79 (fun q9 H hP hD hS => ?_)
  have hP : va_P D vwCl [(h0, .inr (6, [.int 0, .ref q0, .ref q1, .int 0, .ref q2, .ref q3, .ref q4, .int 0, .ref q5, .ref q6, .ref q7, .ref q8, .int 0, .int 0, .int 0, .int 0, .null, .null, .null, .int 0, .int 0])), (q0, .inl (T 0, 6, .inl (fun _ => 0))), (q1, .inl (T 0, 36, .inl (fun _ => 0))), (q2, .inl (T 0, 6, .inl (fun _ => 0))), (q3, .inl (T 0, 6, .inl (fun _ => 0))), (q4, .inl (T 1, 36, .inl (fun _ => 0))), (q5, .inl (T 0, 4, .inl (fun _ => 0))), (q6, .inl (T 0, 36, .inl (fun _ => 0))), (q7, .inl (T 1, 100, .inl (fun _ => 0))), (q8, .inl (T 0, 100, .inl (fun _ => 0))), (q9, .inl (T 0, 20160, .inl (fun _ => 0)))] H := hP
  have hD : va_D A [(h0, .inr (6, [.int 0, .ref q0, .ref q1, .int 0, .ref q2, .ref q3, .ref q4, .int 0, .ref q5, .ref q6, .ref q7, .ref q8, .int 0, .int 0, .int 0, .int 0, .null, .null, .null, .int 0, .int 0])), (q0, .inl (T 0, 6, .inl (fun _ => 0))), (q1, .inl (T 0, 36, .inl (fun _ => 0))), (q2, .inl (T 0, 6, .inl (fun _ => 0))), (q3, .inl (T 0, 6, .inl (fun _ => 0))), (q4, .inl (T 1, 36, .inl (fun _ => 0))), (q5, .inl (T 0, 4, .inl (fun _ => 0))), (q6, .inl (T 0, 36, .inl (fun _ => 0))), (q7, .inl (T 1, 100, .inl (fun _ => 0))), (q8, .inl (T 0, 100, .inl (fun _ => 0))), (q9, .inl (T 0, 20160, .inl (fun _ => 0)))] := hD
  refine W.widen (k := 10) (n := 20490) (by decide) (by decide) ?_
  refine va_putF (D := D) (ci := 6) (v := .ref q9) (ty := (.array .int)) (C := RX6) (T := TX6) (N := 21) hx hb hts inX6 tyX6 tyX6_ok nmX6 hown hK hP hD hS 0 rfl rfl 16 (by decide) (hts _ (xm 591 (by decide +kernel) rfl)) (fun _ h9 => h9) rfl hin rfl (by decide +kernel) rfl rfl (Nat.le_of_ble_eq_true rfl) dX6_init_81 (fun H locs hP hD hS => ?_)
  have hP : va_P D vwCl [(h0, .inr (6, [.int 0, .ref q0, .ref q1, .int 0, .ref q2, .ref q3, .ref q4, .int 0, .ref q5, .ref q6, .ref q7, .ref q8, .int 0, .int 0, .int 0, .int 0, .ref q9, .null, .null, .int 0, .int 0])), (q0, .inl (T 0, 6, .inl (fun _ => 0))), (q1, .inl (T 0, 36, .inl (fun _ => 0))), (q2, .inl (T 0, 6, .inl (fun _ => 0))), (q3, .inl (T 0, 6, .inl (fun _ => 0))), (q4, .inl (T 1, 36, .inl (fun _ => 0))), (q5, .inl (T 0, 4, .inl (fun _ => 0))), (q6, .inl (T 0, 36, .inl (fun _ => 0))), (q7, .inl (T 1, 100, .inl (fun _ => 0))), (q8, .inl (T 0, 100, .inl (fun _ => 0))), (q9, .inl (T 0, 20160, .inl (fun _ => 0)))] H := hP
  have hD : va_D A [(h0, .inr (6, [.int 0, .ref q0, .ref q1, .int 0, .ref q2, .ref q3, .ref q4, .int 0, .ref q5, .ref q6, .ref q7, .ref q8, .int 0, .int 0, .int 0, .int 0, .ref q9, .null, .null, .int 0, .int 0])), (q0, .inl (T 0, 6, .inl (fun _ => 0))), (q1, .inl (T 0, 36, .inl (fun _ => 0))), (q2, .inl (T 0, 6, .inl (fun _ => 0))), (q3, .inl (T 0, 6, .inl (fun _ => 0))), (q4, .inl (T 1, 36, .inl (fun _ => 0))), (q5, .inl (T 0, 4, .inl (fun _ => 0))), (q6, .inl (T 0, 36, .inl (fun _ => 0))), (q7, .inl (T 1, 100, .inl (fun _ => 0))), (q8, .inl (T 0, 100, .inl (fun _ => 0))), (q9, .inl (T 0, 20160, .inl (fun _ => 0)))] := hD
  refine lv_aload_n hx hb dX6_init_84 rfl (lv_at hl 0 rfl) ?_
  refine lv_ldc (v := xi 181440) hx hb hown (hts _ (xm 574 (by decide +kernel) rfl)) dX6_init_85 ?_
  refine xnewa (tc := 0) (n := 181440) (N' := 181440) hx hb (hts _ (xm 75 (by decide +kernel) rfl)) rfl (fun _ _ => rfl) hK rfl hP hD hS hA rfl rfl (by decide) (by decide) (Nat.le_of_ble_eq_true rfl) (Nat.le_of_ble_eq_true rfl) dX6_init_87 (fun q10 H hP hD hS => ?_)
  have hP : va_P D vwCl [(h0, .inr (6, [.int 0, .ref q0, .ref q1, .int 0, .ref q2, .ref q3, .ref q4, .int 0, .ref q5, .ref q6, .ref q7, .ref q8, .int 0, .int 0, .int 0, .int 0, .ref q9, .null, .null, .int 0, .int 0])), (q0, .inl (T 0, 6, .inl (fun _ => 0))), (q1, .inl (T 0, 36, .inl (fun _ => 0))), (q2, .inl (T 0, 6, .inl (fun _ => 0))), (q3, .inl (T 0, 6, .inl (fun _ => 0))), (q4, .inl (T 1, 36, .inl (fun _ => 0))), (q5, .inl (T 0, 4, .inl (fun _ => 0))), (q6, .inl (T 0, 36, .inl (fun _ => 0))), (q7, .inl (T 1, 100, .inl (fun _ => 0))), (q8, .inl (T 0, 100, .inl (fun _ => 0))), (q9, .inl (T 0, 20160, .inl (fun _ => 0))), (q10, .inl (T 0, 181440, .inl (fun _ => 0)))] H := hP
  have hD : va_D A [(h0, .inr (6, [.int 0, .ref q0, .ref q1, .int 0, .ref q2, .ref q3, .ref q4, .int 0, .ref q5, .ref q6, .ref q7, .ref q8, .int 0, .int 0, .int 0, .int 0, .ref q9, .null, .null, .int 0, .int 0])), (q0, .inl (T 0, 6, .inl (fun _ => 0))), (q1, .inl (T 0, 36, .inl (fun _ => 0))), (q2, .inl (T 0, 6, .inl (fun _ => 0))), (q3, .inl (T 0, 6, .inl (fun _ => 0))), (q4, .inl (T 1, 36, .inl (fun _ => 0))), (q5, .inl (T 0, 4, .inl (fun _ => 0))), (q6, .inl (T 0, 36, .inl (fun _ => 0))), (q7, .inl (T 1, 100, .inl (fun _ => 0))), (q8, .inl (T 0, 100, .inl (fun _ => 0))), (q9, .inl (T 0, 20160, .inl (fun _ => 0))), (q10, .inl (T 0, 181440, .inl (fun _ => 0)))] := hD
  refine W.widen (k := 11) (n := 201930) (by decide) (by decide) ?_
  refine va_putF (D := D) (ci := 6) (v := .ref q10) (ty := (.array .int)) (C := RX6) (T := TX6) (N := 21) hx hb hts inX6 tyX6 tyX6_ok nmX6 hown hK hP hD hS 0 rfl rfl 17 (by decide) (hts _ (xm 592 (by decide +kernel) rfl)) (fun _ h9 => h9) rfl hin rfl (by decide +kernel) rfl rfl (Nat.le_of_ble_eq_true rfl) dX6_init_89 (fun H locs hP hD hS => ?_)
  have hP : va_P D vwCl [(h0, .inr (6, [.int 0, .ref q0, .ref q1, .int 0, .ref q2, .ref q3, .ref q4, .int 0, .ref q5, .ref q6, .ref q7, .ref q8, .int 0, .int 0, .int 0, .int 0, .ref q9, .ref q10, .null, .int 0, .int 0])), (q0, .inl (T 0, 6, .inl (fun _ => 0))), (q1, .inl (T 0, 36, .inl (fun _ => 0))), (q2, .inl (T 0, 6, .inl (fun _ => 0))), (q3, .inl (T 0, 6, .inl (fun _ => 0))), (q4, .inl (T 1, 36, .inl (fun _ => 0))), (q5, .inl (T 0, 4, .inl (fun _ => 0))), (q6, .inl (T 0, 36, .inl (fun _ => 0))), (q7, .inl (T 1, 100, .inl (fun _ => 0))), (q8, .inl (T 0, 100, .inl (fun _ => 0))), (q9, .inl (T 0, 20160, .inl (fun _ => 0))), (q10, .inl (T 0, 181440, .inl (fun _ => 0)))] H := hP
  have hD : va_D A [(h0, .inr (6, [.int 0, .ref q0, .ref q1, .int 0, .ref q2, .ref q3, .ref q4, .int 0, .ref q5, .ref q6, .ref q7, .ref q8, .int 0, .int 0, .int 0, .int 0, .ref q9, .ref q10, .null, .int 0, .int 0])), (q0, .inl (T 0, 6, .inl (fun _ => 0))), (q1, .inl (T 0, 36, .inl (fun _ => 0))), (q2, .inl (T 0, 6, .inl (fun _ => 0))), (q3, .inl (T 0, 6, .inl (fun _ => 0))), (q4, .inl (T 1, 36, .inl (fun _ => 0))), (q5, .inl (T 0, 4, .inl (fun _ => 0))), (q6, .inl (T 0, 36, .inl (fun _ => 0))), (q7, .inl (T 1, 100, .inl (fun _ => 0))), (q8, .inl (T 0, 100, .inl (fun _ => 0))), (q9, .inl (T 0, 20160, .inl (fun _ => 0))), (q10, .inl (T 0, 181440, .inl (fun _ => 0)))] := hD
  refine lv_aload_n hx hb dX6_init_92 rfl (lv_at hl 0 rfl) ?_
  refine lv_ldc (v := xi 181440) hx hb hown (hts _ (xm 574 (by decide +kernel) rfl)) dX6_init_93 ?_
  refine xnewa (tc := 1) (n := 181440) (N' := 181440) hx hb (hts _ (xm 639 (by decide +kernel) rfl)) rfl (fun _ _ => rfl) hK rfl hP hD hS hA rfl rfl (by decide) (by decide) (Nat.le_of_ble_eq_true rfl) (Nat.le_of_ble_eq_true rfl) dX6_init_95 (fun q11 H hP hD hS => ?_)
  have hP : va_P D vwCl [(h0, .inr (6, [.int 0, .ref q0, .ref q1, .int 0, .ref q2, .ref q3, .ref q4, .int 0, .ref q5, .ref q6, .ref q7, .ref q8, .int 0, .int 0, .int 0, .int 0, .ref q9, .ref q10, .null, .int 0, .int 0])), (q0, .inl (T 0, 6, .inl (fun _ => 0))), (q1, .inl (T 0, 36, .inl (fun _ => 0))), (q2, .inl (T 0, 6, .inl (fun _ => 0))), (q3, .inl (T 0, 6, .inl (fun _ => 0))), (q4, .inl (T 1, 36, .inl (fun _ => 0))), (q5, .inl (T 0, 4, .inl (fun _ => 0))), (q6, .inl (T 0, 36, .inl (fun _ => 0))), (q7, .inl (T 1, 100, .inl (fun _ => 0))), (q8, .inl (T 0, 100, .inl (fun _ => 0))), (q9, .inl (T 0, 20160, .inl (fun _ => 0))), (q10, .inl (T 0, 181440, .inl (fun _ => 0))), (q11, .inl (T 1, 181440, .inl (fun _ => 0)))] H := hP
  have hD : va_D A [(h0, .inr (6, [.int 0, .ref q0, .ref q1, .int 0, .ref q2, .ref q3, .ref q4, .int 0, .ref q5, .ref q6, .ref q7, .ref q8, .int 0, .int 0, .int 0, .int 0, .ref q9, .ref q10, .null, .int 0, .int 0])), (q0, .inl (T 0, 6, .inl (fun _ => 0))), (q1, .inl (T 0, 36, .inl (fun _ => 0))), (q2, .inl (T 0, 6, .inl (fun _ => 0))), (q3, .inl (T 0, 6, .inl (fun _ => 0))), (q4, .inl (T 1, 36, .inl (fun _ => 0))), (q5, .inl (T 0, 4, .inl (fun _ => 0))), (q6, .inl (T 0, 36, .inl (fun _ => 0))), (q7, .inl (T 1, 100, .inl (fun _ => 0))), (q8, .inl (T 0, 100, .inl (fun _ => 0))), (q9, .inl (T 0, 20160, .inl (fun _ => 0))), (q10, .inl (T 0, 181440, .inl (fun _ => 0))), (q11, .inl (T 1, 181440, .inl (fun _ => 0)))] := hD
  refine W.widen (k := 12) (n := 383370) (by decide) (by decide) ?_
  refine va_putF (D := D) (ci := 6) (v := .ref q11) (ty := (.array .boolean)) (C := RX6) (T := TX6) (N := 21) hx hb hts inX6 tyX6 tyX6_ok nmX6 hown hK hP hD hS 0 rfl rfl 18 (by decide) (hts _ (xm 593 (by decide +kernel) rfl)) (fun _ h9 => h9) rfl hin rfl (by decide +kernel) rfl rfl (Nat.le_of_ble_eq_true rfl) dX6_init_97 (fun H locs hP hD hS => ?_)
  have hP : va_P D vwCl [(h0, .inr (6, [.int 0, .ref q0, .ref q1, .int 0, .ref q2, .ref q3, .ref q4, .int 0, .ref q5, .ref q6, .ref q7, .ref q8, .int 0, .int 0, .int 0, .int 0, .ref q9, .ref q10, .ref q11, .int 0, .int 0])), (q0, .inl (T 0, 6, .inl (fun _ => 0))), (q1, .inl (T 0, 36, .inl (fun _ => 0))), (q2, .inl (T 0, 6, .inl (fun _ => 0))), (q3, .inl (T 0, 6, .inl (fun _ => 0))), (q4, .inl (T 1, 36, .inl (fun _ => 0))), (q5, .inl (T 0, 4, .inl (fun _ => 0))), (q6, .inl (T 0, 36, .inl (fun _ => 0))), (q7, .inl (T 1, 100, .inl (fun _ => 0))), (q8, .inl (T 0, 100, .inl (fun _ => 0))), (q9, .inl (T 0, 20160, .inl (fun _ => 0))), (q10, .inl (T 0, 181440, .inl (fun _ => 0))), (q11, .inl (T 1, 181440, .inl (fun _ => 0)))] H := hP
  have hD : va_D A [(h0, .inr (6, [.int 0, .ref q0, .ref q1, .int 0, .ref q2, .ref q3, .ref q4, .int 0, .ref q5, .ref q6, .ref q7, .ref q8, .int 0, .int 0, .int 0, .int 0, .ref q9, .ref q10, .ref q11, .int 0, .int 0])), (q0, .inl (T 0, 6, .inl (fun _ => 0))), (q1, .inl (T 0, 36, .inl (fun _ => 0))), (q2, .inl (T 0, 6, .inl (fun _ => 0))), (q3, .inl (T 0, 6, .inl (fun _ => 0))), (q4, .inl (T 1, 36, .inl (fun _ => 0))), (q5, .inl (T 0, 4, .inl (fun _ => 0))), (q6, .inl (T 0, 36, .inl (fun _ => 0))), (q7, .inl (T 1, 100, .inl (fun _ => 0))), (q8, .inl (T 0, 100, .inl (fun _ => 0))), (q9, .inl (T 0, 20160, .inl (fun _ => 0))), (q10, .inl (T 0, 181440, .inl (fun _ => 0))), (q11, .inl (T 1, 181440, .inl (fun _ => 0)))] := hD
  have loop : ∀ (n k : Nat) (ls : Array Slot) (H : Heap) (locs : List Loc), k ≤ 6 → 6 < k + n → lv_has ls 2 [(0, .ref h0), (1, .int (nI k))] → va_P D vwCl [(h0, .inr (6, [.int 0, .ref q0, .ref q1, .int 0, .ref q2, .ref q3, .ref q4, .int 0, .ref q5, .ref q6, .ref q7, .ref q8, .int 0, .int 0, .int 0, .int 0, .ref q9, .ref q10, .ref q11, .int 0, .int 0])), (q0, .inl (T 0, 6, .inl (fun _ => 0))), (q1, .inl (T 0, 36, .inl (fun _ => 0))), (q2, .inl (T 0, 6, .inl (fun _ => 0))), (q3, .inl (T 0, 6, .inl (fun j => if j < k then nI j else 0))), (q4, .inl (T 1, 36, .inl (fun _ => 0))), (q5, .inl (T 0, 4, .inl (fun _ => 0))), (q6, .inl (T 0, 36, .inl (fun _ => 0))), (q7, .inl (T 1, 100, .inl (fun _ => 0))), (q8, .inl (T 0, 100, .inl (fun _ => 0))), (q9, .inl (T 0, 20160, .inl (fun _ => 0))), (q10, .inl (T 0, 181440, .inl (fun _ => 0))), (q11, .inl (T 1, 181440, .inl (fun _ => 0)))] H → va_D A [(h0, .inr (6, [.int 0, .ref q0, .ref q1, .int 0, .ref q2, .ref q3, .ref q4, .int 0, .ref q5, .ref q6, .ref q7, .ref q8, .int 0, .int 0, .int 0, .int 0, .ref q9, .ref q10, .ref q11, .int 0, .int 0])), (q0, .inl (T 0, 6, .inl (fun _ => 0))), (q1, .inl (T 0, 36, .inl (fun _ => 0))), (q2, .inl (T 0, 6, .inl (fun _ => 0))), (q3, .inl (T 0, 6, .inl (fun j => if j < k then nI j else 0))), (q4, .inl (T 1, 36, .inl (fun _ => 0))), (q5, .inl (T 0, 4, .inl (fun _ => 0))), (q6, .inl (T 0, 36, .inl (fun _ => 0))), (q7, .inl (T 1, 100, .inl (fun _ => 0))), (q8, .inl (T 0, 100, .inl (fun _ => 0))), (q9, .inl (T 0, 20160, .inl (fun _ => 0))), (q10, .inl (T 0, 181440, .inl (fun _ => 0))), (q11, .inl (T 1, 181440, .inl (fun _ => 0)))] → va_S A s.heap H locs → W p l e ({ frames := 1, cells := 12, slots := 383370, locals := 12 }) s m ([.ref h0] : List Value).toArray below meth c H locs 12 383370 (MQ below (va_Qv (fun _ : (Nat → Nat) => True) (fun u t => u 0 = h0 ∧ va_P D vwCl (xW T u LM N0) t.heap ∧ va_D A (xW T u LM N0)) A) ([.ref h0] : List Value).toArray s 12 383370 A) (F0 m 102 ls []) := by
    intro n
    induction n with
    | zero => intro k ls H locs h1 h2; omega
    | succ n ih =>
      intro k ls H locs h1 h2 hl hP hD hS
      refine lv_iload_n hx hb dX6_init_102 rfl (lv_at hl 1 rfl) ?_
      refine lv_bipush (v := xi 6) hx hb dX6_init_103 (xi_bipush (by decide)) ?_
      refine lv_icmp_ge (tgt := 121) hx hb dX6_init_105 (by decide) (fun q => ?_) (fun q => ?_)
      · have hk : k = 6 := by
          have q' : ¬ nI k < nI 6 := fun z => by
            have q2 : xi 6 ≤ nI k := q
            rw [show nI k = xi (k : Int) from (xi_nI k).symm, xi_le ⟨by omega, by omega⟩ ⟨by omega, by omega⟩] at q2
            rw [show nI k = xi (k : Int) from (xi_nI k).symm, show nI 6 = xi 6 from (xi_nI 6).symm, xi_lt ⟨by omega, by omega⟩ ⟨by omega, by omega⟩] at z
            omega
          have : ¬ k < 6 := fun z => q' (nI_lt z (by omega))
          omega
        subst hk
        have eW : xW T (adL [h0, q0, q1, q2, q3, q4, q5, q6, q7, q8, q9, q10, q11]) LM N0 = [(h0, .inr (6, [.int 0, .ref q0, .ref q1, .int 0, .ref q2, .ref q3, .ref q4, .int 0, .ref q5, .ref q6, .ref q7, .ref q8, .int 0, .int 0, .int 0, .int 0, .ref q9, .ref q10, .ref q11, .int 0, .int 0])), (q0, .inl (T 0, 6, .inl (fun _ => 0))), (q1, .inl (T 0, 36, .inl (fun _ => 0))), (q2, .inl (T 0, 6, .inl (fun _ => 0))), (q3, .inl (T 0, 6, .inl (fun j => if j < 6 then nI j else 0))), (q4, .inl (T 1, 36, .inl (fun _ => 0))), (q5, .inl (T 0, 4, .inl (fun _ => 0))), (q6, .inl (T 0, 36, .inl (fun _ => 0))), (q7, .inl (T 1, 100, .inl (fun _ => 0))), (q8, .inl (T 0, 100, .inl (fun _ => 0))), (q9, .inl (T 0, 20160, .inl (fun _ => 0))), (q10, .inl (T 0, 181440, .inl (fun _ => 0))), (q11, .inl (T 1, 181440, .inl (fun _ => 0)))] := by
          rw [LMW, N0_4]
          rfl
        exact W.vret hx hb hr (fun t ht hW => ⟨⟨adL [h0, q0, q1, q2, q3, q4, q5, q6, q7, q8, q9, q10, q11], rfl, trivial, rfl, by rw [ht, eW]; exact hP, by rw [eW]; exact hD⟩, hS.F ht⟩) hS.2.2 dX6_init_121
      · have hk : k < 6 := by
          apply Classical.byContradiction
          intro z
          exact q (by
            show xi 6 ≤ nI k
            rw [show nI k = xi (k : Int) from (xi_nI k).symm, xi_le ⟨by omega, by omega⟩ ⟨by omega, by omega⟩]
            omega)
        refine lv_aload_n hx hb dX6_init_108 rfl (lv_at hl 0 rfl) ?_
        refine va_get (ci := 6) (C := RX6) (T := TX6) (N := 21) hx hb hts inX6 hown hK hP 0 rfl rfl 5 (by decide) (hts _ (xm 580 (by decide +kernel) rfl)) (fun _ h9 => h9) rfl dX6_init_109 ?_
        refine lv_iload_n hx hb dX6_init_112 rfl (lv_at hl 1 rfl) ?_
        refine lv_iload_n hx hb dX6_init_113 rfl (lv_at hl 1 rfl) ?_
        refine va_iast hx hb hK hP hD hS 4 0 rfl rfl (vp_in_nI hk (by omega)) dX6_init_114 (fun H locs hP hD hS => ?_)
        rw [fk_1 hk] at hP hD
        refine lv_iinc (v := nI (k + 1)) (lv' := [(1, .int (nI (k + 1))), (0, .ref h0)]) hx hb dX6_init_115 hl (k := 1) rfl (by rw [nI_succ]; rfl) (by decide) rfl (fun ls hl => ?_)
        refine lv_goto (tgt := 102) hx hb dX6_init_118 (by decide) ?_
        exact ih (k + 1) ls H locs (by omega) (by omega) (lv_sub hl [1, 0] rfl) hP hD hS
  refine lv_iconst (v := nI 0) hx hb dX6_init_100 rfl ?_
  refine lv_istore_n (lv' := [(1, .int (nI 0)), (0, .ref h0)]) hx hb dX6_init_101 rfl hl (by decide) rfl (fun ls hl => ?_)
  have hP0 : va_P D vwCl [(h0, .inr (6, [.int 0, .ref q0, .ref q1, .int 0, .ref q2, .ref q3, .ref q4, .int 0, .ref q5, .ref q6, .ref q7, .ref q8, .int 0, .int 0, .int 0, .int 0, .ref q9, .ref q10, .ref q11, .int 0, .int 0])), (q0, .inl (T 0, 6, .inl (fun _ => 0))), (q1, .inl (T 0, 36, .inl (fun _ => 0))), (q2, .inl (T 0, 6, .inl (fun _ => 0))), (q3, .inl (T 0, 6, .inl (fun j => if j < 0 then nI j else 0))), (q4, .inl (T 1, 36, .inl (fun _ => 0))), (q5, .inl (T 0, 4, .inl (fun _ => 0))), (q6, .inl (T 0, 36, .inl (fun _ => 0))), (q7, .inl (T 1, 100, .inl (fun _ => 0))), (q8, .inl (T 0, 100, .inl (fun _ => 0))), (q9, .inl (T 0, 20160, .inl (fun _ => 0))), (q10, .inl (T 0, 181440, .inl (fun _ => 0))), (q11, .inl (T 1, 181440, .inl (fun _ => 0)))] H := by rw [← fk_0]; exact hP
  have hD0' : va_D A [(h0, .inr (6, [.int 0, .ref q0, .ref q1, .int 0, .ref q2, .ref q3, .ref q4, .int 0, .ref q5, .ref q6, .ref q7, .ref q8, .int 0, .int 0, .int 0, .int 0, .ref q9, .ref q10, .ref q11, .int 0, .int 0])), (q0, .inl (T 0, 6, .inl (fun _ => 0))), (q1, .inl (T 0, 36, .inl (fun _ => 0))), (q2, .inl (T 0, 6, .inl (fun _ => 0))), (q3, .inl (T 0, 6, .inl (fun j => if j < 0 then nI j else 0))), (q4, .inl (T 1, 36, .inl (fun _ => 0))), (q5, .inl (T 0, 4, .inl (fun _ => 0))), (q6, .inl (T 0, 36, .inl (fun _ => 0))), (q7, .inl (T 1, 100, .inl (fun _ => 0))), (q8, .inl (T 0, 100, .inl (fun _ => 0))), (q9, .inl (T 0, 20160, .inl (fun _ => 0))), (q10, .inl (T 0, 181440, .inl (fun _ => 0))), (q11, .inl (T 1, 181440, .inl (fun _ => 0)))] := by rw [← fk_0]; exact hD
  exact loop 7 0 ls H _ (by omega) (by omega) (lv_sub hl [1, 0] rfl) hP0 hD0' hS
