/-! before the first call: the two memories; making an array; words for the constructors -/
def M0 : xM := fun c k => match c with
  | 5 => if 0 ≤ k ∧ k < 6 then k else 0
  | _ => 0
def N0 : xM := fun c k => match c with
  | 4 => if 0 ≤ k ∧ k < 6 then k else 0
  | _ => 0
theorem cp_new : CP M0 N0 := by
  have b5 : ∀ n : Int, 0 ≤ n → n < 6 → M0 5 n = n := fun n a b => if_pos ⟨a, b⟩
  have b4 : ∀ n : Int, 0 ≤ n → n < 6 → N0 4 n = n := fun n a b => if_pos ⟨a, b⟩
  have m12 : M0 1 2 = 0 := rfl
  have m2 : ∀ k, M0 2 k = 0 := fun _ => rfl
  have m3 : ∀ k, M0 3 k = 0 := fun _ => rfl
  have m6 : ∀ k, M0 6 k = 0 := fun _ => rfl
  have n0 : ∀ k, N0 0 k = 0 := fun _ => rfl
  have n1 : ∀ k, N0 1 k = 0 := fun _ => rfl
  have n2 : ∀ k, N0 2 k = 0 := fun _ => rfl
  have n3 : ∀ k, N0 3 k = 0 := fun _ => rfl
  have sil : sS (M0 2) (M0 3) (M0 1 2).toNat = 0 := rfl
  have han : cS (M0 2) 36 (M0 3 6).toNat = 0 := rfl
  refine ⟨⟨⟨⟨by rw [m12]; omega, fun r _ _ => by rw [m3]; omega, fun q _ _ => by rw [m2]; omega⟩, ⟨fun n a b => by rw [b5 n a b]; omega, fun n a b => by rw [b5 n a b, b5 n a b], fun n _ _ => by rw [m6]; omega⟩, by rw [sil]; omega, fun t a b => ?_⟩, by unfold hdX; rw [sil, han]; omega, Or.inl rfl, Or.inl rfl⟩, ⟨by rw [n0]; omega, fun t _ _ => by rw [n1]; omega, fun q _ _ => by rw [n2]; omega, by rw [n0]; omega, fun i _ _ => by rw [n3]; omega, fun n a b => by rw [b4 n a b]; omega⟩, fun _ _ _ => Or.inl rfl, ⟨rfl, fun _ _ _ => rfl, fun _ _ _ _ _ _ => rfl, fun n a b => ?_⟩, rfl, fun i a b => ?_, fun a b _ _ _ _ => ?_, rfl⟩
  · have b : t < 0 := b
    omega
  · show M0 5 n = N0 4 n
    rw [b5 n a b, b4 n a b]
  · have b : i < 0 := b
    omega
  · exact ⟨fun z => (tb_0 b z).elim, fun z => (z rfl).elim⟩
theorem gAll {w : Cond} (h : w ∈ xtb) : GoodIn xtb (w :: xtb) := fun v hv => by
  have h2 : v ∈ xtb := by
    rcases List.mem_cons.mp hv with rfl | h3
    · exact h
    · exact h3
  exact ⟨h2, xtb_good h2⟩
def xNest5 : List (String × Nat × MethodName × String) := [(RX5, 11, yX2_init, "NetShape"), (RX5, 18, yX4_init, "NetShape")]
def xN5 (U : State) : Prop := ∀ q ∈ xNest5, va_Nw (.methodLinkNest q.1 q.2.1 q.2.2.1 q.2.2.2) U
theorem xN5.warm {s U : State} (hW : s.WarmedH U.vm) (h : xN5 s) : xN5 U := fun q hq => va_Nw.warmM hW (h q hq)
theorem xN5.same {s U : State} (hv : s.vm = U.vm) (h : xN5 s) : xN5 U := fun q hq => va_Nw.same rfl hv (h q hq)
def adL (l : List Nat) : Nat → Nat := fun c => l.getD c 0
theorem LXW (T : Nat → ClassId) (ad : Nat → Nat) (M : xM) : xW T ad LX M = [(ad 0, .inr (5, [.ref (ad 1), .ref (ad 4), .ref (ad 10), .ref (ad 12)])), (ad 1, .inr (2, [.ref (ad 2), .ref (ad 3), .int (xi (M 1 2))])), (ad 2, .inl (T 0, 42, .inl (fun j => xi (M 2 (j : Int))))), (ad 3, .inl (T 0, 7, .inl (fun j => xi (M 3 (j : Int))))), (ad 4, .inr (4, [.ref (ad 5), .ref (ad 6), .int (xi (M 4 2))])), (ad 5, .inl (T 0, 6, .inl (fun j => xi (M 5 (j : Int))))), (ad 6, .inl (T 0, 6, .inl (fun j => xi (M 6 (j : Int))))), (ad 7, .inr (1, [.ref (ad 1), .ref (ad 4), .ref (ad 8), .ref (ad 9)])), (ad 8, .inl (T 0, 4, .inl (fun j => xi (M 8 (j : Int))))), (ad 9, .inl (T 0, 10, .inl (fun j => xi (M 9 (j : Int))))), (ad 10, .inr (0, [.ref (ad 1), .ref (ad 4), .ref (ad 7), .ref (ad 11), .int (xi (M 10 4)), .int (xi (M 10 5)), .int (xi (M 10 6)), .int (xi (M 10 7)), .int (xi (M 10 8)), .int (xi (M 10 9))])), (ad 11, .inl (T 0, 512, .inl (fun j => xi (M 11 (j : Int))))), (ad 12, .inr (3, [.ref (ad 1), .ref (ad 4), .ref (ad 7), .ref (ad 10), .ref (ad 13), .ref (ad 14), .ref (ad 15), .int (xi (M 12 7)), .int (xi (M 12 8)), .int (xi (M 12 9))])), (ad 13, .inl (T 0, 10, .inl (fun j => xi (M 13 (j : Int))))), (ad 14, .inl (T 0, 10, .inl (fun j => xi (M 14 (j : Int))))), (ad 15, .inl (T 0, 396, .inl (fun j => xi (M 15 (j : Int)))))] := by
  simp [xW, LX, xe, xfv]
theorem LMW (T : Nat → ClassId) (ad : Nat → Nat) (M : xM) : xW T ad LM M = [(ad 0, .inr (6, [.int (xi (M 0 0)), .ref (ad 1), .ref (ad 2), .int (xi (M 0 3)), .ref (ad 3), .ref (ad 4), .ref (ad 5), .int (xi (M 0 7)), .ref (ad 6), .ref (ad 7), .ref (ad 8), .ref (ad 9), .int (xi (M 0 12)), .int (xi (M 0 13)), .int (xi (M 0 14)), .int (xi (M 0 15)), .ref (ad 10), .ref (ad 11), .ref (ad 12), .int (xi (M 0 19)), .int (xi (M 0 20))])), (ad 1, .inl (T 0, 6, .inl (fun j => xi (M 1 (j : Int))))), (ad 2, .inl (T 0, 36, .inl (fun j => xi (M 2 (j : Int))))), (ad 3, .inl (T 0, 6, .inl (fun j => xi (M 3 (j : Int))))), (ad 4, .inl (T 0, 6, .inl (fun j => xi (M 4 (j : Int))))), (ad 5, .inl (T 1, 36, .inl (fun j => xi (M 5 (j : Int))))), (ad 6, .inl (T 0, 4, .inl (fun j => xi (M 6 (j : Int))))), (ad 7, .inl (T 0, 36, .inl (fun j => xi (M 7 (j : Int))))), (ad 8, .inl (T 1, 100, .inl (fun j => xi (M 8 (j : Int))))), (ad 9, .inl (T 0, 100, .inl (fun j => xi (M 9 (j : Int))))), (ad 10, .inl (T 0, 20160, .inl (fun j => xi (M 10 (j : Int))))), (ad 11, .inl (T 0, 181440, .inl (fun j => xi (M 11 (j : Int))))), (ad 12, .inl (T 1, 181440, .inl (fun j => xi (M 12 (j : Int)))))] := by
  simp [xW, LM, xe, xfv]
theorem M0_5 : (fun j : Nat => xi (M0 5 (j : Int))) = (upd (upd (upd (upd (upd (upd (fun _ => 0) (xi 0).toNatClampNeg (xi 0)) (xi 1).toNatClampNeg (xi 1)) (xi 2).toNatClampNeg (xi 2)) (xi 3).toNatClampNeg (xi 3)) (xi 4).toNatClampNeg (xi 4)) (xi 5).toNatClampNeg (xi 5)) := by
  funext j
  have c : ∀ k : Nat, k < 6 → (xi (k : Int)).toNatClampNeg = k := fun k hk => by rw [xi_nI]; exact nI_clamp (by omega)
  have c0 : (xi 0).toNatClampNeg = 0 := c 0 (by omega)
  have c1 : (xi 1).toNatClampNeg = 1 := c 1 (by omega)
  have c2 : (xi 2).toNatClampNeg = 2 := c 2 (by omega)
  have c3 : (xi 3).toNatClampNeg = 3 := c 3 (by omega)
  have c4 : (xi 4).toNatClampNeg = 4 := c 4 (by omega)
  have c5 : (xi 5).toNatClampNeg = 5 := c 5 (by omega)
  rw [c0, c1, c2, c3, c4, c5]
  by_cases h : j < 6
  · rcases (show j = 0 ∨ j = 1 ∨ j = 2 ∨ j = 3 ∨ j = 4 ∨ j = 5 by omega) with rfl | rfl | rfl | rfl | rfl | rfl <;> rfl
  · have e : M0 5 (j : Int) = 0 := if_neg (by omega)
    rw [e]
    simp only [upd]
    rw [if_neg (by omega), if_neg (by omega), if_neg (by omega), if_neg (by omega), if_neg (by omega), if_neg (by omega)]
    rfl
section NEWA
variable {p : Program} {l : Launch} {e : Env} {R : Room} {s : State} {m : MethodId} {args : Array Value} {below : List Frame} {meth : Method} {c : Code} {H : Heap} {locs : List Loc} {cells slots : Nat} {Q : State → Prop}
theorem xnewa {cc : ByteArray} {pc : Nat} {ls : Array Slot} {rest : List Value} {D : va_G} {T : Nat → ClassId} {tc : Nat} {ws : va_W} {A : Nat → Prop} {H0 : Heap} (hexec : p.tables.exec = Jvm.exec) (hb : c.code = cc) {atype : ArrayType} {ty : FieldType} (harr : (Cond.arrayClass ty).before args s = true) (hty : newarray.typeOf atype = ty) (hpr : ∀ (U : State) (cA : ClassId), va_RA U cA ty = (U.vm.findClass ("[" ++ ty.toString) = some cA)) (hK : va_K D vwCl [(T 0, .int), (T 1, .boolean)] s) (htc : ([(T 0, .int), (T 1, .boolean)] : List (ClassId × FieldType))[tc]? = some (T tc, ty)) (hP : va_P D vwCl ws H) (hD : va_D A ws) (hS : va_S A H0 H locs) (hA : ∀ q, H0.size ≤ q → A q)
    {n : Int} {N' : Nat} (hd : defaultValue ty = .int 0) (hn : n = (N' : Int)) (hN : N' < 2147483648) (hbytes : N' * componentBytes ty ≤ 536870912) (hcells : cells + 1 ≤ R.cells) (hslots : slots + N' ≤ R.slots) (hdg : decode cc pc = .ok (.newarray atype, 2))
    (kk : ∀ (q : Nat) (H1 : Heap), va_P D vwCl (ws ++ [(q, .inl (T tc, N', .inl (fun _ => 0)))]) H1 → va_D A (ws ++ [(q, .inl (T tc, N', .inl (fun _ => 0)))]) → va_S A H0 H1 locs → W p l e R s m args below meth c H1 locs (cells + 1) (slots + N') Q (F0 m (pc + 2) ls (.ref q :: rest))) : W p l e R s m args below meth c H locs cells slots Q (F0 m pc ls (.int (xi n) :: rest)) := by
  subst hn
  refine va_newa hexec hb (by rw [hty]; exact harr) hty hK hP hD hS hA (a0 := (N', .inl (fun _ => 0))) (fun cA => ?_) ?_ ?_ hbytes hcells hslots hdg (fun q cA H1 hK1 hP1 hD1 hS1 => ?_)
  · rw [hd]
    rfl
  · rw [xi_nI]; exact nI_pos (by omega)
  · rw [xi_nI]; exact nI_clamp (by omega)
  · have h1 := (hK1.2 2 (cA, ty) rfl).2
    have h2 := (hK.2 tc (T tc, ty) htc).2
    rw [hpr] at h1 h2
    have e1 : cA = T tc := Option.some.inj (h1.symm.trans h2)
    subst e1
    exact kk q H1 hP1 hD1 hS1
end NEWA

