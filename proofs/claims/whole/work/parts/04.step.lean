/-! one instruction, many instructions: from the pure machine to the machine -/
section XS
variable {p : Program} {l : Launch} {e : Env} {R : Room} {s : State} {m : MethodId} {args : Array Value} {below : List Frame} {meth : Method} {c : Code} {Q : State → Prop}
def Wx (p : Program) (l : Launch) (e : Env) (R : Room) (s : State) (m : MethodId) (args : Array Value) (below : List Frame) (meth : Method) (c : Code) (D : va_G) (T : Nat → ClassId) (ad : Nat → Nat) (L : List xD) (nL : Nat) (Q : State → Prop) : xG := fun pc lv st M =>
  ∀ (H : Heap) (locs : List Loc) (ls : Array Slot), va_P D vwCl (xW T ad L M) H → va_S (xA ad L) s.heap H locs → xl ad ls nL lv → W p l e R s m args below meth c H locs 0 0 Q (F0 m pc ls (st.map (xv ad)))
/-- what a method's body knows -/
def xX (p : Program) (s : State) (m : MethodId) (args : Array Value) (c : Code) (D : va_G) (T : Nat → ClassId) (cc : ByteArray) (nL : Nat) (own : String) : Prop :=
  p.tables.exec = Jvm.exec ∧ c.code = cc ∧ c.maxLocals = nL ∧ s.vm.findClass own = some m.cls ∧ (∀ w ∈ xtb, w.before args s = true) ∧ va_K D vwCl [(T 0, .int), (T 1, .boolean)] s ∧ xN s
def xCOk (p : Program) (l : Launch) (e : Env) (R : Room) (s : State) (m : MethodId) (args : Array Value) (below : List Frame) (meth : Method) (c : Code) (D : va_G) (T : Nat → ClassId) (ad : Nat → Nat) (L : List xD) (nL : Nat) (Q : State → Prop) (cc : ByteArray) (q : Nat × Bool × Nat × Bool × xT) : Prop :=
  ∀ (pc : Nat) (lv : xL) (as rest : List xV) (M : xM) (Post : xR), decode cc pc = .ok (bif q.2.1 then .invokestatic q.1 else .invokevirtual q.1, 3) → as.length = q.2.2.1 → rest.length ≤ 8 → q.2.2.2.2 as M Post →
    (∀ r M', Post r M' → Wx p l e R s m args below meth c D T ad L nL Q (pc + 3) lv (bif q.2.2.2.1 then rest else .inl r :: rest) M') → Wx p l e R s m args below meth c D T ad L nL Q pc lv (as.reverse ++ rest) M
variable {D : va_G} {T : Nat → ClassId} {ad : Nat → Nat} {L : List xD} {nL : Nat} {cc : ByteArray} {own : String}
theorem xbr_ok {cnd : ClassFile.Cond} {a b : Int} {tt ff : Prop} (h : xbr cnd a b tt ff) : (cnd = .eq → (a = b → tt) ∧ (¬ a = b → ff)) ∧ (cnd = .ne → (¬ a = b → tt) ∧ (¬ ¬ a = b → ff)) ∧ (cnd = .lt → (a < b → tt) ∧ (¬ a < b → ff)) ∧ (cnd = .ge → (b ≤ a → tt) ∧ (¬ b ≤ a → ff)) ∧ (cnd = .gt → (b < a → tt) ∧ (¬ b < a → ff)) ∧ (cnd = .le → (a ≤ b → tt) ∧ (¬ a ≤ b → ff)) := by
  refine ⟨?_, ?_, ?_, ?_, ?_, ?_⟩ <;> intro hc <;> subst hc <;> simp only [xbr] at h <;> refine ⟨fun q => h.1 q, fun q => h.2 ?_⟩ <;> first | exact q | (exact Classical.not_not.mp q) | omega
theorem xtab_ok {x : Int} {go : Nat → Prop} : ∀ (os : List Nat) (v : Int), xtab x go v os → ∀ (k o : Nat), os[k]? = some o → x = v + (k : Int) → go o := by
  intro os
  induction os with
  | nil => intro v _ k o hk; simp at hk
  | cons a r ih =>
    intro v h k o hk hx
    cases k with
    | zero =>
      simp at hk
      subst hk
      exact h.1 (by omega)
    | succ k =>
      simp at hk
      exact ih (v + 1) h.2 k o hk (by omega)
theorem xbif {b : Bool} {P : Prop} (h : bif b then P else False) : b = true ∧ P := by
  cases b with
  | true => exact ⟨rfl, h⟩
  | false => exact h.elim
theorem xb01_go {b : Nat} {x : Int} {P : Prop} (h : xb01 b x P) : P := by
  match b, h with
  | 0, h => exact h
  | 1, h => exact h.2
set_option maxHeartbeats 4000000 in
theorem xs_ok {fld : xFld} {cals : xCal} {cst : xCst} {rt : Nat} {Rt : xR} {go : xG} {ins : Instr} {tg : List Nat} {pc : Nat} {lv : xL} {st : List xV} {M : xM} {ret : Option FieldType}
    (hX : xX p s m args c D T cc nL own) (hlocks : meth.locks = false) (hr : meth.sig.returnType = ret) (hrt : (rt = 0 → ret = none) ∧ (rt = 1 → ret = some .int) ∧ (rt = 2 → ret = some .boolean))
    (hO : xOk ad L) (hF : ∀ q ∈ fld, xFOk own q) (hKc : ∀ q ∈ cst, xKOk own q) (hC : ∀ q ∈ cals, xCOk p l e R s m args below meth c D T ad L nL (MQ below (xQ D T ad L (decide (rt = 0)) Rt) args s 0 0 (xA ad L)) cc q)
    {len : Nat} (hdec : decode cc pc = .ok (ins, len)) (hlen : xlen ins = 0 ∨ len = xlen ins) (htg : xtg ins tg pc = true)
    (h : xs L fld cals cst rt Rt go ins tg pc lv st M) (hgo : ∀ pc' lv' st' M', go pc' lv' st' M' → Wx p l e R s m args below meth c D T ad L nL (MQ below (xQ D T ad L (decide (rt = 0)) Rt) args s 0 0 (xA ad L)) pc' lv' st' M') :
    Wx p l e R s m args below meth c D T ad L nL (MQ below (xQ D T ad L (decide (rt = 0)) Rt) args s 0 0 (xA ad L)) pc lv st M := by
  obtain ⟨hx, hb, hml, hown, hts, hK, hN⟩ := id hX
  unfold xs at h
  split at h
  -- iconst
  · have hl1 : len = 1 := by rcases hlen with q | q <;> first | exact q | cases q
    subst hl1
    intro H locs ls hP hS hl
    exact lv_iconst hx hb hdec rfl (hgo _ _ _ _ h H locs ls hP hS hl)
  -- bipush
  · have hl1 : len = 2 := by rcases hlen with q | q <;> first | exact q | cases q
    subst hl1
    intro H locs ls hP hS hl
    exact lv_bipush hx hb hdec (xi_bipush (by simpa [xtg] using htg)) (hgo _ _ _ _ h H locs ls hP hS hl)
  -- sipush
  · have hl1 : len = 3 := by rcases hlen with q | q <;> first | exact q | cases q
    subst hl1
    intro H locs ls hP hS hl
    exact lv_sipush hx hb hdec (xi_sipush (by simpa [xtg] using htg)) (hgo _ _ _ _ h H locs ls hP hS hl)
  -- ldc_w
  · have hl1 : len = 3 := by rcases hlen with q | q <;> first | exact q | cases q
    subst hl1
    split at h
    · rename_i v hv
      intro H locs ls hP hS hl
      exact lv_ldcw hx hb hown (hts _ (hKc _ (xlk_mem hv))) hdec (hgo _ _ _ _ h H locs ls hP hS hl)
    · exact h.elim
  -- iload_n
  · have hl1 : len = 1 := by rcases hlen with q | q <;> first | exact q | cases q
    subst hl1
    split at h
    · rename_i x hv
      intro H locs ls hP hS hl
      exact lv_iload_n hx hb hdec rfl (hl.at hv) (hgo _ _ _ _ h H locs ls hP hS hl)
    · exact h.elim
  -- iload
  · have hl1 : len = 2 := by rcases hlen with q | q <;> first | exact q | cases q
    subst hl1
    split at h
    · rename_i x hv
      intro H locs ls hP hS hl
      exact lv_iload hx hb hdec (hl.at hv) (hgo _ _ _ _ h H locs ls hP hS hl)
    · exact h.elim
  -- aload_n
  · have hl1 : len = 1 := by rcases hlen with q | q <;> first | exact q | cases q
    subst hl1
    split at h
    · rename_i x hv
      intro H locs ls hP hS hl
      exact lv_aload_n hx hb hdec rfl (hl.at hv) (hgo _ _ _ _ h H locs ls hP hS hl)
    · exact h.elim
  -- istore_n
  · have hl1 : len = 1 := by rcases hlen with q | q <;> first | exact q | cases q
    subst hl1
    split at h
    · rename_i x r
      obtain ⟨hk, h⟩ := xbif h
      have hk := (Nat.blt_eq ..).mp hk
      intro H locs ls hP hS hl
      obtain ⟨hlen', l1, hl1, hm⟩ := hl
      exact lv_istore_n hx hb hdec rfl hl1 (by rw [← hlen']; exact hk) rfl (fun ls' h' => hgo _ _ _ _ h H locs ls' hP hS (xl.set (x := .inl _) hlen' hm h'))
    · exact h.elim
  -- istore
  · have hl1 : len = 2 := by rcases hlen with q | q <;> first | exact q | cases q
    subst hl1
    split at h
    · rename_i x r
      obtain ⟨hk, h⟩ := xbif h
      have hk := (Nat.blt_eq ..).mp hk
      intro H locs ls hP hS hl
      obtain ⟨hlen', l1, hl1, hm⟩ := hl
      exact lv_istore hx hb hdec hl1 (by rw [← hlen']; exact hk) rfl (fun ls' h' => hgo _ _ _ _ h H locs ls' hP hS (xl.set (x := .inl _) hlen' hm h'))
    · exact h.elim
  -- iinc
  · rename_i k n
    have hl1 : len = 3 := by rcases hlen with q | q <;> first | exact q | cases q
    subst hl1
    split at h
    · rename_i x hv
      intro H locs ls hP hS hl
      obtain ⟨hlen', l1, hl1, hm⟩ := hl
      obtain ⟨j, hj⟩ := List.getElem?_of_mem (hm _ _ hv)
      have hlt := (List.getElem?_eq_some_iff.mp hv).1
      exact lv_iinc (v := xi (x + n)) hx hb hdec hl1 hj (xi_add x n) (by rw [← hlen']; exact hlt) rfl (fun ls' h' => hgo _ _ _ _ h H locs ls' hP hS (xl.set (x := .inl _) hlen' hm h'))
    · exact h.elim
  -- iadd
  · have hl1 : len = 1 := by rcases hlen with q | q <;> first | exact q | cases q
    subst hl1
    split at h
    · intro H locs ls hP hS hl
      refine lv_iadd hx hb hdec ?_
      rw [xi_add]
      exact hgo _ _ _ _ h H locs ls hP hS hl
    · exact h.elim
  -- isub
  · have hl1 : len = 1 := by rcases hlen with q | q <;> first | exact q | cases q
    subst hl1
    split at h
    · intro H locs ls hP hS hl
      refine lv_isub hx hb hdec ?_
      rw [xi_sub]
      exact hgo _ _ _ _ h H locs ls hP hS hl
    · exact h.elim
  -- imul
  · have hl1 : len = 1 := by rcases hlen with q | q <;> first | exact q | cases q
    subst hl1
    split at h
    · intro H locs ls hP hS hl
      refine lv_imul hx hb hdec ?_
      rw [xi_mul]
      exact hgo _ _ _ _ h H locs ls hP hS hl
    · exact h.elim
  -- idiv
  · have hl1 : len = 1 := by rcases hlen with q | q <;> first | exact q | cases q
    subst hl1
    split at h
    · intro H locs ls hP hS hl
      refine lv_idiv hx hb hdec (xi_ne0 ⟨h.1.2.2.1, h.1.2.2.2⟩) ?_
      rw [xi_div h.1]
      exact hgo _ _ _ _ h.2 H locs ls hP hS hl
    · exact h.elim
  -- irem
  · have hl1 : len = 1 := by rcases hlen with q | q <;> first | exact q | cases q
    subst hl1
    split at h
    · intro H locs ls hP hS hl
      refine lv_irem hx hb hdec (xi_ne0 ⟨h.1.2.2.1, h.1.2.2.2⟩) ?_
      rw [xi_rem h.1]
      exact hgo _ _ _ _ h.2 H locs ls hP hS hl
    · exact h.elim
  -- iand
  · have hl1 : len = 1 := by rcases hlen with q | q <;> first | exact q | cases q
    subst hl1
    split at h
    · intro H locs ls hP hS hl
      refine lv_iand hx hb hdec ?_
      have h2 := hgo _ _ _ _ h H locs ls hP hS hl
      simp only [List.map_cons, xv, xi_to] at h2
      exact h2
    · exact h.elim
  -- ior
  · have hl1 : len = 1 := by rcases hlen with q | q <;> first | exact q | cases q
    subst hl1
    split at h
    · intro H locs ls hP hS hl
      refine lv_ior hx hb hdec ?_
      have h2 := hgo _ _ _ _ h H locs ls hP hS hl
      simp only [List.map_cons, xv, xi_to] at h2
      exact h2
    · exact h.elim
  -- ixor
  · have hl1 : len = 1 := by rcases hlen with q | q <;> first | exact q | cases q
    subst hl1
    split at h
    · intro H locs ls hP hS hl
      refine lv_ixor hx hb hdec ?_
      have h2 := hgo _ _ _ _ h H locs ls hP hS hl
      simp only [List.map_cons, xv, xi_to] at h2
      exact h2
    · exact h.elim
  -- ishl
  · have hl1 : len = 1 := by rcases hlen with q | q <;> first | exact q | cases q
    subst hl1
    split at h
    · intro H locs ls hP hS hl
      refine lv_ishl hx hb hdec ?_
      have h2 := hgo _ _ _ _ h H locs ls hP hS hl
      simp only [List.map_cons, xv, xi_to] at h2
      exact h2
    · exact h.elim
  -- ishr
  · have hl1 : len = 1 := by rcases hlen with q | q <;> first | exact q | cases q
    subst hl1
    split at h
    · intro H locs ls hP hS hl
      refine lv_ishr hx hb hdec ?_
      have h2 := hgo _ _ _ _ h H locs ls hP hS hl
      simp only [List.map_cons, xv, xi_to] at h2
      exact h2
    · exact h.elim
  -- iushr
  · have hl1 : len = 1 := by rcases hlen with q | q <;> first | exact q | cases q
    subst hl1
    split at h
    · intro H locs ls hP hS hl
      refine lv_iushr hx hb hdec rfl ?_
      have h2 := hgo _ _ _ _ h H locs ls hP hS hl
      simp only [List.map_cons, xv, xi_to] at h2
      exact h2
    · exact h.elim
  -- dup
  · have hl1 : len = 1 := by rcases hlen with q | q <;> first | exact q | cases q
    subst hl1
    split at h
    · intro H locs ls hP hS hl
      exact lv_dup hx hb hdec (xv_cat ad _) (hgo _ _ _ _ h H locs ls hP hS hl)
    · exact h.elim
  -- dup2
  · have hl1 : len = 1 := by rcases hlen with q | q <;> first | exact q | cases q
    subst hl1
    split at h
    · intro H locs ls hP hS hl
      exact lv_dup2_11 hx hb hdec (xv_cat ad _) (xv_cat ad _) (hgo _ _ _ _ h H locs ls hP hS hl)
    · exact h.elim
  -- pop
  · have hl1 : len = 1 := by rcases hlen with q | q <;> first | exact q | cases q
    subst hl1
    split at h
    · intro H locs ls hP hS hl
      exact lv_pop hx hb hdec (xv_cat ad _) (hgo _ _ _ _ h H locs ls hP hS hl)
    · exact h.elim
  -- goto
  · have hl1 : len = 3 := by rcases hlen with q | q <;> first | exact q | cases q
    subst hl1
    split at h
    · intro H locs ls hP hS hl
      exact lv_goto hx hb hdec (by simpa [xtg] using htg) (hgo _ _ _ _ h H locs ls hP hS hl)
    · exact h.elim
  -- ifCond
  · rename_i cnd off
    have hl1 : len = 3 := by rcases hlen with q | q <;> first | exact q | cases q
    subst hl1
    split at h
    · rename_i a r
      split at h
      case h_2 => exact h.elim
      rename_i t tr
      obtain ⟨ha, hbr⟩ := h
      have h0 : (pc : Int) + off = (t : Int) := by simpa [xtg] using htg
      obtain ⟨b1, b2, b3, b4, b5, b6⟩ := xbr_ok hbr
      intro H locs ls hP hS hl
      cases cnd with
      | eq => exact lv_if_eq hx hb hdec h0 (fun q => hgo _ _ _ _ ((b1 rfl).1 ((xi_eq ha rg0).mp q)) H locs ls hP hS hl) (fun q => hgo _ _ _ _ ((b1 rfl).2 (fun z => q ((xi_eq ha rg0).mpr z))) H locs ls hP hS hl)
      | ne => exact lv_if_ne hx hb hdec h0 (fun q => hgo _ _ _ _ ((b2 rfl).1 (fun z => q ((xi_eq ha rg0).mpr z))) H locs ls hP hS hl) (fun q => hgo _ _ _ _ ((b2 rfl).2 (fun z => z ((xi_eq ha rg0).mp q))) H locs ls hP hS hl)
      | lt => exact lv_if_lt hx hb hdec h0 (fun q => hgo _ _ _ _ ((b3 rfl).1 ((xi_lt ha rg0).mp q)) H locs ls hP hS hl) (fun q => hgo _ _ _ _ ((b3 rfl).2 (fun z => q ((xi_lt ha rg0).mpr z))) H locs ls hP hS hl)
      | ge => exact lv_if_ge hx hb hdec h0 (fun q => hgo _ _ _ _ ((b4 rfl).1 ((xi_le rg0 ha).mp q)) H locs ls hP hS hl) (fun q => hgo _ _ _ _ ((b4 rfl).2 (fun z => q ((xi_le rg0 ha).mpr z))) H locs ls hP hS hl)
      | gt => exact lv_if_gt hx hb hdec h0 (fun q => hgo _ _ _ _ ((b5 rfl).1 ((xi_lt rg0 ha).mp q)) H locs ls hP hS hl) (fun q => hgo _ _ _ _ ((b5 rfl).2 (fun z => q ((xi_lt rg0 ha).mpr z))) H locs ls hP hS hl)
      | le => exact lv_if_le hx hb hdec h0 (fun q => hgo _ _ _ _ ((b6 rfl).1 ((xi_le ha rg0).mp q)) H locs ls hP hS hl) (fun q => hgo _ _ _ _ ((b6 rfl).2 (fun z => q ((xi_le ha rg0).mpr z))) H locs ls hP hS hl)
    · exact h.elim
  -- if_icmp
  · rename_i cnd off
    have hl1 : len = 3 := by rcases hlen with q | q <;> first | exact q | cases q
    subst hl1
    split at h
    · rename_i b a r
      split at h
      case h_2 => exact h.elim
      rename_i t tr
      obtain ⟨ha, hb', hbr⟩ := h
      have h0 : (pc : Int) + off = (t : Int) := by simpa [xtg] using htg
      obtain ⟨b1, b2, b3, b4, b5, b6⟩ := xbr_ok hbr
      intro H locs ls hP hS hl
      cases cnd with
      | eq => exact lv_icmp_eq hx hb hdec h0 (fun q => hgo _ _ _ _ ((b1 rfl).1 ((xi_eq ha hb').mp q)) H locs ls hP hS hl) (fun q => hgo _ _ _ _ ((b1 rfl).2 (fun z => q ((xi_eq ha hb').mpr z))) H locs ls hP hS hl)
      | ne => exact lv_icmp_ne hx hb hdec h0 (fun q => hgo _ _ _ _ ((b2 rfl).1 (fun z => q ((xi_eq ha hb').mpr z))) H locs ls hP hS hl) (fun q => hgo _ _ _ _ ((b2 rfl).2 (fun z => z ((xi_eq ha hb').mp q))) H locs ls hP hS hl)
      | lt => exact lv_icmp_lt hx hb hdec h0 (fun q => hgo _ _ _ _ ((b3 rfl).1 ((xi_lt ha hb').mp q)) H locs ls hP hS hl) (fun q => hgo _ _ _ _ ((b3 rfl).2 (fun z => q ((xi_lt ha hb').mpr z))) H locs ls hP hS hl)
      | ge => exact lv_icmp_ge hx hb hdec h0 (fun q => hgo _ _ _ _ ((b4 rfl).1 ((xi_le hb' ha).mp q)) H locs ls hP hS hl) (fun q => hgo _ _ _ _ ((b4 rfl).2 (fun z => q ((xi_le hb' ha).mpr z))) H locs ls hP hS hl)
      | gt => exact lv_icmp_gt hx hb hdec h0 (fun q => hgo _ _ _ _ ((b5 rfl).1 ((xi_lt hb' ha).mp q)) H locs ls hP hS hl) (fun q => hgo _ _ _ _ ((b5 rfl).2 (fun z => q ((xi_lt hb' ha).mpr z))) H locs ls hP hS hl)
      | le => exact lv_icmp_le hx hb hdec h0 (fun q => hgo _ _ _ _ ((b6 rfl).1 ((xi_le ha hb').mp q)) H locs ls hP hS hl) (fun q => hgo _ _ _ _ ((b6 rfl).2 (fun z => q ((xi_le ha hb').mpr z))) H locs ls hP hS hl)
    · exact h.elim
  -- tableswitch
  · rename_i d lo hi offs
    split at h
    · rename_i x r
      split at h
      case h_2 => exact h.elim
      rename_i t ts
      obtain ⟨hg, h1, h2, h3⟩ := h
      have hq : ((pc : Int) + d = (t : Int) ∧ hi = lo + offs.size - 1) ∧ offs.toList.map (fun o => (pc : Int) + o) = ts.map (fun (t : Nat) => (t : Int)) := by
        simpa [xtg, Bool.and_eq_true, decide_eq_true_eq, -List.map_inj_left, -Array.toList_map] using htg
      obtain ⟨⟨q3, hhi⟩, q5⟩ := hq
      intro H locs ls hP hS hl
      by_cases q1 : x < lo
      · exact lv_tableOut hx hb hdec (Or.inl (by rw [to_xi hg]; exact q1)) q3 (hgo _ _ _ _ (h1 q1) H locs ls hP hS hl)
      · by_cases q2 : hi < x
        · exact lv_tableOut hx hb hdec (Or.inr (by rw [to_xi hg]; exact q2)) q3 (hgo _ _ _ _ (h2 q2) H locs ls hP hS hl)
        · have hk : (x - lo).toNat < offs.size := by omega
          have ho : offs[(x - lo).toNat]? = some offs[(x - lo).toNat] := Array.getElem?_eq_getElem hk
          have hts2 : (ts.map (fun (t : Nat) => (t : Int)))[(x - lo).toNat]? = some ((pc : Int) + offs[(x - lo).toNat]) := by
            rw [← q5, List.getElem?_map, Array.getElem?_toList, ho]
            rfl
          rw [List.getElem?_map] at hts2
          cases ht2 : ts[(x - lo).toNat]? with
          | none => rw [ht2] at hts2; cases hts2
          | some t2 =>
            rw [ht2] at hts2
            have e2 : (pc : Int) + offs[(x - lo).toNat] = (t2 : Int) := (Option.some.inj hts2).symm
            have h4 := xtab_ok ts lo h3 (x - lo).toNat t2 ht2 (by omega)
            exact lv_tableIn hx hb hdec (by rw [to_xi hg]; exact q1) (by rw [to_xi hg]; exact q2) (by rw [to_xi hg]; exact ho) e2 (hgo _ _ _ _ h4 H locs ls hP hS hl)
    · exact h.elim
  -- getfield
  · have hl1 : len = 3 := by rcases hlen with q | q <;> first | exact q | cases q
    subst hl1
    split at h
    · split at h
      · rename_i ci k b hfl
        split at h
        · rename_i ci' fs hLc
          replace h := xbif h
          obtain ⟨hci, h⟩ := h
          have hci := Nat.eq_of_beq_eq_true hci
          subst hci
          obtain ⟨C, Tt, N, ty0, g1, g0, g2, g3, g4, g5, g6, -, -⟩ := hF _ (xlk_mem hfl)
          obtain ⟨k, rfl⟩ : ∃ n : Nat, k = (n : Int) := ⟨k.toNat, (Int.toNat_of_nonneg g0).symm⟩
          intro H locs ls hP hS hl
          split at h
          · rename_i c' hk
            rw [Int.toNat_natCast] at hk
            exact va_get hx hb hts g3 hown hK hP _ (xW_get hLc) g1 k g2 (hts _ g4) (fun _ z => z) (v := .ref (ad c')) (by simp [hk, xfv]) hdec (hgo _ _ _ _ h H locs ls hP hS hl)
          · rename_i hk
            rw [Int.toNat_natCast] at hk
            exact va_get hx hb hts g3 hown hK hP _ (xW_get hLc) g1 k g2 (hts _ g4) (fun _ z => z) (v := .int (xi (M _ k))) (by simp [hk, xfv]) hdec (hgo _ _ _ _ h H locs ls hP hS hl)
          · exact h.elim
        · exact h.elim
      · exact h.elim
    · exact h.elim
  -- putfield
  · have hl1 : len = 3 := by rcases hlen with q | q <;> first | exact q | cases q
    subst hl1
    split at h
    · rename_i x c0 r
      split at h
      · rename_i ci k b hfl
        split at h
        · rename_i ci' fs hLc
          replace h := xbif h
          obtain ⟨hci, h⟩ := h
          have hci := Nat.eq_of_beq_eq_true hci
          subst hci
          obtain ⟨C, Tt, N, ty0, g1, g0, g2, g3, g4, g5, g6, g7, g8⟩ := hF _ (xlk_mem hfl)
          obtain ⟨k, rfl⟩ : ∃ n : Nat, k = (n : Int) := ⟨k.toNat, (Int.toNat_of_nonneg g0).symm⟩
          intro H locs ls hP hS hl
          split at h
          · rename_i hk
            rw [Int.toNat_natCast] at hk
            have hlt := (List.getElem?_eq_some_iff.mp hk).1
            have fin : ∃ ty, (Tt k).2.2.2 = false ∧ parseFieldDescriptor (Tt k).2.2.1 = some ty ∧ narrow ty (.int (xi x)) = .int (xi x) ∧ fits ty (.int (xi x)) = true := by
              match b, h with
              | 0, _ => exact ⟨.int, (g7 rfl).1, by rw [← (g7 rfl).2]; exact g5 _ g2, rfl, rfl⟩
              | 1, h1 => exact ⟨.boolean, (g8 rfl).1, by rw [← (g8 rfl).2]; exact g5 _ g2, (xi_nar_bool h1.1).1, (xi_nar_bool h1.1).2.1⟩
            obtain ⟨ty, f1, f2, f3, f4⟩ := fin
            refine va_put hx hb hts g3 ty0 g5 g6 hown hK hP (xW_D M hO) hS _ (xW_get hLc) g1 k g2 (hts _ g4) (fun _ z => z) f1 f2 f3 f4 (by simpa using hlt) hdec (fun H1 locs1 hP1 hD1 hS1 => ?_)
            exact hgo _ _ _ _ (xb01_go h) H1 locs1 ls (by rw [xW_put hLc (xe_put_obj hk)]; exact hP1) hS1 hl
          · exact h.elim
        · exact h.elim
      · exact h.elim
    · exact h.elim
  -- iaload
  · have hl1 : len = 1 := by rcases hlen with q | q <;> first | exact q | cases q
    subst hl1
    split at h
    · rename_i i c0 r
      split at h
      · rename_i n hLc
        intro H locs ls hP hS hl
        have hn := hO.2 _ _ _ hLc
        have hi0 := h.1
        obtain ⟨i, rfl⟩ : ∃ n : Nat, i = (n : Int) := ⟨i.toNat, (Int.toNat_of_nonneg h.1.1).symm⟩
        refine va_iald hx hb hK hP _ 0 (xW_get hLc) rfl (xi_in h.1 hn) hdec ?_
        rw [xi_clamp h.1 hn]
        exact hgo _ _ _ _ h.2 H locs ls hP hS hl
      · exact h.elim
    · exact h.elim
  -- baload
  · have hl1 : len = 1 := by rcases hlen with q | q <;> first | exact q | cases q
    subst hl1
    split at h
    · rename_i i c0 r
      split at h
      · rename_i n hLc
        intro H locs ls hP hS hl
        have hn := hO.2 _ _ _ hLc
        have hi0 := h.1
        obtain ⟨i, rfl⟩ : ∃ n : Nat, i = (n : Int) := ⟨i.toNat, (Int.toNat_of_nonneg h.1.1).symm⟩
        refine va_zald hx hb hK hP _ 1 (xW_get hLc) rfl (xi_in h.1 hn) hdec ?_
        rw [xi_clamp h.1 hn]
        exact hgo _ _ _ _ h.2 H locs ls hP hS hl
      · exact h.elim
    · exact h.elim
  -- iastore
  · have hl1 : len = 1 := by rcases hlen with q | q <;> first | exact q | cases q
    subst hl1
    split at h
    · rename_i x i c0 r
      split at h
      · rename_i n hLc
        intro H locs ls hP hS hl
        have hn := hO.2 _ _ _ hLc
        have hi0 := h.1
        obtain ⟨i, rfl⟩ : ∃ n : Nat, i = (n : Int) := ⟨i.toNat, (Int.toNat_of_nonneg h.1.1).symm⟩
        refine va_iast hx hb hK hP (xW_D M hO) hS _ 0 (xW_get hLc) rfl (xi_in h.1 hn) hdec (fun H1 locs1 hP1 hD1 hS1 => ?_)
        rw [xi_clamp h.1 hn] at hP1
        exact hgo _ _ _ _ h.2 H1 locs1 ls (by rw [xW_put hLc xe_put_arr]; exact hP1) hS1 hl
      · exact h.elim
    · exact h.elim
  -- bastore
  · have hl1 : len = 1 := by rcases hlen with q | q <;> first | exact q | cases q
    subst hl1
    split at h
    · rename_i x i c0 r
      split at h
      · rename_i n hLc
        intro H locs ls hP hS hl
        have hn := hO.2 _ _ _ hLc
        have hi0 := h.1
        obtain ⟨i, rfl⟩ : ∃ n : Nat, i = (n : Int) := ⟨i.toNat, (Int.toNat_of_nonneg h.1.1).symm⟩
        refine va_zast hx hb hK hP (xW_D M hO) hS _ 1 (xW_get hLc) rfl (xi_in h.1 hn) hdec (fun H1 locs1 hP1 hD1 hS1 => ?_)
        rw [xi_clamp h.1 hn, (xi_nar_bool h.2.1).2.2] at hP1
        exact hgo _ _ _ _ h.2.2 H1 locs1 ls (by rw [xW_put hLc xe_put_arr]; exact hP1) hS1 hl
      · exact h.elim
    · exact h.elim
  -- arraylength
  · have hl1 : len = 1 := by rcases hlen with q | q <;> first | exact q | cases q
    subst hl1
    split at h
    · split at h
      · rename_i n hLc
        intro H locs ls hP hS hl
        exact va_alen hx hb hK hP _ 0 (xW_get hLc) rfl (xi_nI n).symm hdec (hgo _ _ _ _ h H locs ls hP hS hl)
      · exact h.elim
    · exact h.elim
  -- invokevirtual
  · have hl1 : len = 3 := by rcases hlen with q | q <;> first | exact q | cases q
    subst hl1
    split at h
    · rename_i n vd tr hcal
      obtain ⟨h12, h3⟩ := xbif h
      obtain ⟨h1, h2⟩ := Bool.and_eq_true_iff.mp h12
      have h1 := Nat.le_of_ble_eq_true h1
      have h2 := Nat.le_of_ble_eq_true h2
      have hq := hC _ (xlk_mem hcal) pc lv (st.take n).reverse (st.drop n) M _ hdec (by simp; omega) (by simp; omega) h3 (fun r M' hp => hgo _ _ _ _ hp)
      rwa [List.reverse_reverse, List.take_append_drop] at hq
    · exact h.elim
  -- invokestatic
  · have hl1 : len = 3 := by rcases hlen with q | q <;> first | exact q | cases q
    subst hl1
    split at h
    · rename_i n vd tr hcal
      obtain ⟨h12, h3⟩ := xbif h
      obtain ⟨h1, h2⟩ := Bool.and_eq_true_iff.mp h12
      have h1 := Nat.le_of_ble_eq_true h1
      have h2 := Nat.le_of_ble_eq_true h2
      have hq := hC _ (xlk_mem hcal) pc lv (st.take n).reverse (st.drop n) M _ hdec (by simp; omega) (by simp; omega) h3 (fun r M' hp => hgo _ _ _ _ hp)
      rwa [List.reverse_reverse, List.take_append_drop] at hq
    · exact h.elim
  -- ireturn
  · have hl1 : len = 1 := by rcases hlen with q | q <;> first | exact q | cases q
    subst hl1
    split at h
    · rename_i x
      split at h
      · intro H locs ls hP hS hl
        exact W.zret (ty := .int) hx hb (hr.trans (hrt.2.1 rfl)) rfl (fun t ht hW => ⟨⟨x, M, rfl, h, by rw [ht]; exact hP, va_K.moved hW.alike hK, hN.warm hW⟩, hS.F ht⟩) hS.2.2 hdec
      · intro H locs ls hP hS hl
        exact W.zret (ty := .boolean) hx hb (hr.trans (hrt.2.2 rfl)) (xi_nar_bool h.1).1 (fun t ht hW => ⟨⟨x, M, rfl, h.2, by rw [ht]; exact hP, va_K.moved hW.alike hK, hN.warm hW⟩, hS.F ht⟩) hS.2.2 hdec
      · exact h.elim
    · exact h.elim
  -- return
  · have hl1 : len = 1 := by rcases hlen with q | q <;> first | exact q | cases q
    subst hl1
    split at h
    · split at h
      · intro H locs ls hP hS hl
        exact W.vret hx hb (hr.trans (hrt.1 rfl)) (fun t ht hW => ⟨⟨0, M, rfl, h, by rw [ht]; exact hP, va_K.moved hW.alike hK, hN.warm hW⟩, hS.F ht⟩) hS.2.2 hdec
      · exact h.elim
    · exact h.elim
  -- none
  · exact h.elim
end XS
