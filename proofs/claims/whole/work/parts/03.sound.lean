/-! the pure machine is right: its worlds, and a row an instruction -/
def xtb : List Cond := lw_tbl.filter goodWord
def xNest : List (String × Nat × MethodName × String) := [("NetShape$Told", 28, ⟨"NetShape", "hasBit", "(II)Z"⟩, "NetShape"), ("NetShape$Net", 58, ⟨"NetShape", "hasBit", "(II)Z"⟩, "NetShape"), ("NetShape$Net", 92, ⟨"NetShape", "isBox", "(I)Z"⟩, "NetShape"), ("NetShape$LeastNets", 93, ⟨"NetShape", "hasBit", "(II)Z"⟩, "NetShape"), ("NetShape$Net", 36, ⟨"NetShape", "boxIn", "(II)I"⟩, "NetShape"), ("NetShape$Survey", 62, ⟨"NetShape", "hasBit", "(II)Z"⟩, "NetShape"), ("NetShape$Survey", 58, ⟨"NetShape", "isBox", "(I)Z"⟩, "NetShape")]
def xN (U : State) : Prop := ∀ q ∈ xNest, va_Nw (.methodLinkNest q.1 q.2.1 q.2.2.1 q.2.2.2) U
theorem xN.warm {s U : State} (hW : s.WarmedH U.vm) (h : xN s) : xN U := fun q hq => va_Nw.warmM hW (h q hq)
theorem xN.same {s U : State} (hv : s.vm = U.vm) (h : xN s) : xN U := fun q hq => va_Nw.same rfl hv (h q hq)
def xv (ad : Nat → Nat) : xV → Value
  | .inl x => .int (xi x)
  | .inr a => .ref (ad a)
theorem xv_cat (ad : Nat → Nat) (v : xV) : (xv ad v).category = 1 := by cases v <;> rfl
def xfv (ad : Nat → Nat) (M : xM) (c k : Nat) : Option Nat → Value
  | some a => .ref (ad a)
  | none => .int (xi (M c (k : Int)))
def xe (T : Nat → ClassId) (ad : Nat → Nat) (M : xM) (c : Nat) : xD → va_E
  | .inl q => .inr (q.1, q.2.mapIdx (fun k r => xfv ad M c k r))
  | .inr q => .inl (T q.1, q.2, .inl (fun j => xi (M c (j : Int))))
def xW (T : Nat → ClassId) (ad : Nat → Nat) (L : List xD) (M : xM) : va_W := L.mapIdx (fun c d => (ad c, xe T ad M c d))
theorem xW_get {T : Nat → ClassId} {ad : Nat → Nat} {L : List xD} {M : xM} {c : Nat} {d : xD} (h : L[c]? = some d) : (xW T ad L M)[c]? = some (ad c, xe T ad M c d) := by
  simp [xW, h]
theorem xW_inv {T : Nat → ClassId} {ad : Nat → Nat} {L : List xD} {M : xM} {c : Nat} {q : Nat × va_E} (h : (xW T ad L M)[c]? = some q) : c < L.length ∧ q.1 = ad c := by
  simp only [xW, List.getElem?_mapIdx] at h
  cases hd : L[c]? with
  | none => rw [hd] at h; cases h
  | some d =>
    rw [hd] at h
    cases h
    exact ⟨(List.getElem?_eq_some_iff.mp hd).1, rfl⟩
theorem xup_ne {M : xM} {c : Nat} {k : Int} {x : Int} {c' : Nat} (h : c' ≠ c) : xup M c k x c' = M c' := by
  funext j
  simp [xup, h]
theorem xe_ne {T : Nat → ClassId} {ad : Nat → Nat} {M : xM} {c : Nat} {k : Int} {x : Int} {c' : Nat} (h : c' ≠ c) (d : xD) : xe T ad (xup M c k x) c' d = xe T ad M c' d := by
  cases d with
  | inl q =>
    simp only [xe, Sum.inr.injEq, Prod.mk.injEq, true_and]
    apply List.ext_getElem?
    intro j
    simp only [List.getElem?_mapIdx]
    cases q.2[j]? with
    | none => rfl
    | some r => cases r <;> simp [xfv, xup_ne h]
  | inr q => simp only [xe, xup_ne h]
theorem xW_put {T : Nat → ClassId} {ad : Nat → Nat} {L : List xD} {M : xM} {c : Nat} {k : Int} {x : Int} {d : xD} (h : L[c]? = some d) {e' : va_E} (he : xe T ad (xup M c k x) c d = e') : xW T ad L (xup M c k x) = (xW T ad L M).set c (ad c, e') := by
  apply List.ext_getElem?
  intro j
  rw [List.getElem?_set]
  by_cases hj : c = j
  · subst hj
    have hlt := (List.getElem?_eq_some_iff.mp h).1
    simp only [xW, List.getElem?_mapIdx, h, List.length_mapIdx, hlt, if_true, Option.map_some, he]
  · rw [if_neg hj]
    simp only [xW, List.getElem?_mapIdx]
    cases L[j]? with
    | none => rfl
    | some d' => simp only [Option.map_some, xe_ne (fun z => hj z.symm)]
theorem xe_put_obj {T : Nat → ClassId} {ad : Nat → Nat} {M : xM} {c k ci : Nat} {x : Int} {fs : List (Option Nat)} (hk : fs[k]? = some none) : xe T ad (xup M c (k : Int) x) c (.inl (ci, fs)) = .inr (ci, (fs.mapIdx (fun j r => xfv ad M c j r)).set k (.int (xi x))) := by
  simp only [xe, Sum.inr.injEq, Prod.mk.injEq, true_and]
  apply List.ext_getElem?
  intro j
  rw [List.getElem?_set]
  by_cases hj : k = j
  · subst hj
    have hlt := (List.getElem?_eq_some_iff.mp hk).1
    simp only [List.length_mapIdx, hlt, if_true, List.getElem?_mapIdx, hk, Option.map_some, xfv, xup, and_self]
  · rw [if_neg hj]
    simp only [List.getElem?_mapIdx]
    have hj' : ¬ ((j : Int) = (k : Int)) := by omega
    cases fs[j]? with
    | none => rfl
    | some r => cases r <;> simp [xfv, xup, hj']
theorem xe_put_arr {T : Nat → ClassId} {ad : Nat → Nat} {M : xM} {c k : Nat} {t n : Nat} {x : Int} : xe T ad (xup M c (k : Int) x) c (.inr (t, n)) = .inl (T t, n, .inl (upd (fun j => xi (M c (j : Int))) k (xi x))) := by
  simp only [xe, Sum.inl.injEq, Prod.mk.injEq, true_and]
  funext j
  by_cases hj : j = k
  · simp [xup, upd, hj]
  · have hj' : ¬ ((j : Int) = (k : Int)) := by omega
    simp [xup, upd, hj, hj']
def xA (ad : Nat → Nat) (L : List xD) : Nat → Prop := fun q => ∃ c, c < L.length ∧ q = ad c
def xOk (ad : Nat → Nat) (L : List xD) : Prop := (∀ i j, i < L.length → j < L.length → ad i = ad j → i = j) ∧ ∀ (c t n : Nat), L[c]? = some (.inr (t, n)) → n < 2147483648
theorem xW_D {T : Nat → ClassId} {ad : Nat → Nat} {L : List xD} (M : xM) (h : xOk ad L) : va_D (xA ad L) (xW T ad L M) := by
  refine ⟨fun i j p q hi hj he => ?_, fun k q hk => ?_⟩
  · obtain ⟨h1, e1⟩ := xW_inv hi
    obtain ⟨h2, e2⟩ := xW_inv hj
    exact h.1 i j h1 h2 (by rw [← e1, ← e2]; exact he)
  · obtain ⟨h1, e1⟩ := xW_inv hk
    exact ⟨k, h1, e1⟩
def xU (D : va_G) (T : Nat → ClassId) (ad : Nat → Nat) (L : List xD) (M : xM) (U : State) : Prop := va_P D vwCl (xW T ad L M) U.heap ∧ va_K D vwCl [(T 0, .int), (T 1, .boolean)] U ∧ xN U
def xrv (vd : Bool) (r : Int) : Option Value := bif vd then none else some (.int (xi r))
def xQ (D : va_G) (T : Nat → ClassId) (ad : Nat → Nat) (L : List xD) (vd : Bool) (Post : xR) : Array Value → State → Outcome → State → Prop := fun _ st oc t => (∃ (r : Int) (M : xM), oc = .returned (xrv vd r) ∧ Post r M ∧ xU D T ad L M t) ∧ va_F (xA ad L) st t
def xl (ad : Nat → Nat) (ls : Array Slot) (nL : Nat) (lv : xL) : Prop := lv.length = nL ∧ ∃ l, lv_has ls nL l ∧ ∀ (i : Nat) (v : xV), lv[i]? = some (some v) → (i, xv ad v) ∈ l
theorem xl.at {ad : Nat → Nat} {ls : Array Slot} {nL : Nat} {lv : xL} (h : xl ad ls nL lv) {i : Nat} {v : xV} (hi : lv[i]? = some (some v)) : ls[i]? = some (.val (xv ad v)) := by
  obtain ⟨-, l, hl, hm⟩ := h
  exact hl.2.2 _ (hm i v hi)
theorem xl.set {ad : Nat → Nat} {nL : Nat} {lv : xL} {l : List (Nat × Value)} (hlen : lv.length = nL) (hm : ∀ (i : Nat) (v : xV), lv[i]? = some (some v) → (i, xv ad v) ∈ l) {i : Nat} {x : xV} {ls' : Array Slot} (h' : lv_has ls' nL ((i, xv ad x) :: l.filter (fun q => !(q.1 == i) && !(q.1 + 1 == i && q.2.category == 2)))) : xl ad ls' nL (lv.set i (some x)) := by
  refine ⟨by rw [List.length_set]; exact hlen, _, h', fun j v hj => ?_⟩
  rw [List.getElem?_set] at hj
  by_cases hij : i = j
  · subst hij
    by_cases hlt : i < lv.length
    · simp only [hlt, if_true] at hj
      cases hj
      exact List.mem_cons_self
    · simp [hlt] at hj
  · rw [if_neg hij] at hj
    refine List.mem_cons_of_mem _ (List.mem_filter.mpr ⟨hm j v hj, ?_⟩)
    have h1 : (j == i) = false := by simp; omega
    have h2 : ((xv ad v).category == 2) = false := by rw [xv_cat]; rfl
    simp [h1, h2]
def xFOk (own : String) (q : Nat × Nat × Int × Nat) : Prop := ∃ (C : String) (Tt : u_T) (N : Nat) (ty0 : Nat → FieldType), vwCl[q.2.1]? = some (C, Tt, N) ∧ 0 ≤ q.2.2.1 ∧ q.2.2.1.toNat < N ∧ (∀ w ∈ u_ws C Tt N, w ∈ xtb) ∧ Cond.fieldLink own q.1 (Tt q.2.2.1.toNat).1 (Tt q.2.2.1.toNat).2.1 (Tt q.2.2.1.toNat).2.2.1 ∈ xtb ∧ (∀ k, k < N → parseFieldDescriptor (Tt k).2.2.1 = some (ty0 k)) ∧ (∀ a, a < N → ∀ b, b < N → a ≠ b → (Tt a).2.1 ≠ (Tt b).2.1) ∧ (q.2.2.2 = 0 → (Tt q.2.2.1.toNat).2.2.2 = false ∧ ty0 q.2.2.1.toNat = .int) ∧ (q.2.2.2 = 1 → (Tt q.2.2.1.toNat).2.2.2 = false ∧ ty0 q.2.2.1.toNat = .boolean)
def xKOk (own : String) (q : Nat × Int) : Prop := Cond.constant own q.1 (xi q.2) ∈ xtb
theorem xi_bipush {n : Int} (h : -128 ≤ n ∧ n < 128) : (Int8.ofInt n).toInt32 = xi n := by
  apply Int32.toInt_inj.mp
  rw [Int8.toInt_toInt32, Int8.toInt_ofInt_of_le (by omega) (by omega), xi, Int32.toInt_ofInt_of_le (by omega) (by omega)]
theorem xi_sipush {n : Int} (h : -32768 ≤ n ∧ n < 32768) : (Int16.ofInt n).toInt32 = xi n := by
  apply Int32.toInt_inj.mp
  rw [Int16.toInt_toInt32, Int16.toInt_ofInt_of_le (by omega) (by omega), xi, Int32.toInt_ofInt_of_le (by omega) (by omega)]
theorem xi_add (a b : Int) : xi a + xi b = xi (a + b) := (Int32.ofInt_add a b).symm
theorem xi_sub (a b : Int) : xi a - xi b = xi (a - b) := (Int32.ofInt_sub a b).symm
theorem xi_mul (a b : Int) : xi a * xi b = xi (a * b) := (Int32.ofInt_mul a b).symm
theorem xi_to (x : Int32) : xi x.toInt = x := Int32.ofInt_toInt x
theorem to_xi {v : Int} (h : rg v) : (xi v).toInt = v := Int32.toInt_ofInt_of_le (by have := h.1; omega) (by have := h.2; omega)
theorem xi_lt {a b : Int} (ha : rg a) (hb : rg b) : xi a < xi b ↔ a < b := by rw [Int32.lt_iff_toInt_lt, to_xi ha, to_xi hb]
theorem xi_le {a b : Int} (ha : rg a) (hb : rg b) : xi a ≤ xi b ↔ a ≤ b := by rw [Int32.le_iff_toInt_le, to_xi ha, to_xi hb]
theorem xi_eq {a b : Int} (ha : rg a) (hb : rg b) : xi a = xi b ↔ a = b := by rw [← Int32.toInt_inj, to_xi ha, to_xi hb]
theorem rg0 : rg 0 := by constructor <;> omega
theorem xi0 : xi 0 = 0 := rfl
theorem xi_nI (n : Nat) : xi (n : Int) = nI n := Int32.ofInt_eq_ofNat
theorem xi_clamp {i : Int} {n : Nat} (h : 0 ≤ i ∧ i < (n : Int)) (hn : n < 2147483648) : (xi i).toNatClampNeg = i.toNat := by
  obtain ⟨k, rfl⟩ : ∃ k : Nat, i = k := ⟨i.toNat, by omega⟩
  rw [xi_nI, nI_clamp (by omega)]
  rfl
theorem xi_in {i : Int} {n : Nat} (h : 0 ≤ i ∧ i < (n : Int)) (hn : n < 2147483648) : vp_in (xi i) n := by
  obtain ⟨k, rfl⟩ : ∃ k : Nat, i = k := ⟨i.toNat, by omega⟩
  rw [xi_nI]
  exact vp_in_nI (by omega) (by omega)
theorem xi_div {a b : Int} (h : 0 ≤ a ∧ a < 2147483648 ∧ 0 < b ∧ b < 2147483648) : xi a / xi b = xi (a / b) := by
  obtain ⟨k, rfl⟩ : ∃ k : Nat, a = k := ⟨a.toNat, by omega⟩
  obtain ⟨d, rfl⟩ : ∃ d : Nat, b = d := ⟨b.toNat, by omega⟩
  rw [xi_nI, xi_nI, pk_div (by omega) (by omega) (by omega), ← xi_nI]
  rfl
theorem xi_rem {a b : Int} (h : 0 ≤ a ∧ a < 2147483648 ∧ 0 < b ∧ b < 2147483648) : xi a - xi a / xi b * xi b = xi (a % b) := by
  obtain ⟨k, rfl⟩ : ∃ k : Nat, a = k := ⟨a.toNat, by omega⟩
  obtain ⟨d, rfl⟩ : ∃ d : Nat, b = d := ⟨b.toNat, by omega⟩
  rw [xi_nI, xi_nI, pk_rem (by omega) (by omega) (by omega), ← xi_nI]
  rfl
theorem xi_ne0 {b : Int} (h : 0 < b ∧ b < 2147483648) : ¬ xi b = 0 := by
  rw [← xi0, xi_eq ⟨by omega, by omega⟩ rg0]
  omega
theorem xi_nar_bool {x : Int} (h : x = 0 ∨ x = 1) : narrow .boolean (.int (xi x)) = .int (xi x) ∧ fits .boolean (.int (xi x)) = true ∧ vp_nar .boolean (xi x) = xi x := by
  rcases h with rfl | rfl <;> exact ⟨by decide +kernel, by decide +kernel, by decide +kernel⟩
