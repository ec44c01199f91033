/-! the enumeration: what stands behind a list in it -/
noncomputable def frm (th : Int → Prop) (r nw b : Nat) : List (List Int) := ((List.range (7 + nw)).drop b).flatMap (brn th (enm th r) nw)
theorem frm_step {th : Int → Prop} {r nw b : Nat} (h : b < 7 + nw) : frm th r nw b = brn th (enm th r) nw b ++ frm th r nw (b + 1) := by
  unfold frm
  rw [List.drop_eq_getElem_cons (by simpa using h), List.flatMap_cons, List.getElem_range]
theorem frm_end {th : Int → Prop} {r nw b : Nat} (h : 7 + nw ≤ b) : frm th r nw b = [] := by
  unfold frm
  rw [List.drop_eq_nil_of_le (by simpa using h)]
  rfl
theorem frm_0 {th : Int → Prop} {r nw : Nat} : enm th (r + 1) nw = frm th r nw 0 := by
  unfold frm
  rw [List.drop_zero]
  rfl
theorem brn_yes {th : Int → Prop} {E : Nat → List (List Int)} {nw b : Nat} (h : okB th b) : brn th E nw b = (E (nwS nw b)).map (fun l => (b : Int) :: l) := by unfold brn; exact if_pos h
theorem brn_no {th : Int → Prop} {E : Nat → List (List Int)} {nw b : Nat} (h : ¬ okB th b) : brn th E nw b = [] := by unfold brn; exact if_neg h
theorem frm_skip {th : Int → Prop} {r nw : Nat} : ∀ (n b : Nat), (∀ c, b ≤ c → c < b + n → ¬ okB th c) → b + n ≤ 7 + nw → frm th r nw b = frm th r nw (b + n) := by
  intro n
  induction n with
  | zero => intro b _ _; rfl
  | succ n ih =>
    intro b h hn
    rw [frm_step (by omega), brn_no (h b (by omega) (by omega)), List.nil_append, ih (b + 1) (fun c h1 h2 => h c (by omega) (by omega)) (by omega)]
    congr 1
    omega
noncomputable def aft (th : Int → Prop) : List Int → Nat → List (List Int)
  | [], _ => []
  | b :: l, nw => (aft th l (if b = 6 + (nw : Int) then nw + 1 else nw)).map (fun x => b :: x) ++ frm th l.length nw (b.toNat + 1)
theorem split_aft {th : Int → Prop} : ∀ (r nw : Nat) (d : List (List Int)) (A : List Int) (e : List (List Int)), enm th r nw = d ++ A :: e → e = aft th A nw := by
  intro r
  induction r with
  | zero =>
    intro nw d A e h
    cases d with
    | nil =>
      simp [enm] at h
      obtain ⟨rfl, rfl⟩ := h
      rfl
    | cons x d => simp [enm] at h
  | succ r ih =>
    intro nw
    have key : ∀ (n b : Nat), 7 + nw ≤ b + n → ∀ (d : List (List Int)) (A : List Int) (e : List (List Int)), frm th r nw b = d ++ A :: e → e = aft th A nw := by
      intro n
      induction n with
      | zero =>
        intro b hb d A e h
        rw [frm_end (by omega)] at h
        simp at h
      | succ n ihn =>
        intro b hb d A e h
        by_cases hlt : b < 7 + nw
        · rw [frm_step hlt] at h
          by_cases hok : okB th b
          · rw [brn_yes hok] at h
            rcases List.append_eq_append_iff.mp h with ⟨as, h1, h2⟩ | ⟨bs, h1, h2⟩
            · exact ihn (b + 1) (by omega) as A e h2
            · cases bs with
              | nil => exact ihn (b + 1) (by omega) [] A e h2.symm
              | cons B bs =>
                rw [List.cons_append] at h2
                injection h2 with h2 h3
                subst h2
                obtain ⟨l1, l2, k1, k2, k3⟩ := List.map_eq_append_iff.mp h1
                obtain ⟨l, l3, k4, k5, k6⟩ := List.map_eq_cons_iff.mp k3
                subst k4
                have hl := ih (nwS nw b) l1 l l3 k1
                have hlen : l.length = r := enm_len (show l ∈ enm th r (nwS nw b) by rw [k1]; simp)
                rw [h3, ← k6, ← k5, hl]
                simp only [aft, hlen, Int.toNat_natCast, nwS_c]
          · rw [brn_no hok, List.nil_append] at h
            exact ihn (b + 1) (by omega) d A e h
        · rw [frm_end (by omega)] at h
          simp at h
    intro d A e h
    rw [frm_0] at h
    exact key (7 + nw) 0 (by omega) d A e h
theorem aft_app {th : Int → Prop} (l : List Int) : ∀ (p : List Int) (nw : Nat), ∃ Z, aft th (p ++ l) nw = (aft th l (nwL p nw)).map (fun x => p ++ x) ++ Z := by
  intro p
  induction p with
  | nil =>
    intro nw
    refine ⟨[], ?_⟩
    show aft th l nw = (aft th l nw).map (fun x => x) ++ []
    rw [List.map_id', List.append_nil]
  | cons b p ih =>
    intro nw
    obtain ⟨Z, hZ⟩ := ih (if b = 6 + (nw : Int) then nw + 1 else nw)
    refine ⟨Z.map (fun x => b :: x) ++ frm th (p ++ l).length nw (b.toNat + 1), ?_⟩
    show (aft th (p ++ l) _).map _ ++ _ = _
    rw [hZ, List.map_append, List.map_map, List.append_assoc]
    rfl
/-- the least box from b on that may be taken -/
def isLo (th : Int → Prop) (b c : Int) : Prop := b ≤ c ∧ (6 ≤ c ∨ th c) ∧ ∀ d, b ≤ d → d < c → d < 6 ∧ ¬ th d
theorem isLo_u {th : Int → Prop} {b c d : Int} (h1 : isLo th b c) (h2 : isLo th b d) : c = d := by
  have q1 : ¬ c < d := fun z => by
    have := h2.2.2 c h1.1 z
    rcases h1.2.1 with y | y
    · omega
    · exact this.2 y
  have q2 : ¬ d < c := fun z => by
    have := h1.2.2 d h2.1 z
    rcases h2.2.1 with y | y
    · omega
    · exact this.2 y
  omega
theorem isLo_ex {th : Int → Prop} : ∀ (n : Nat) (b : Int), 6 ≤ b + n → ∃ c, isLo th b c := by
  intro n
  induction n with
  | zero => intro b hb; exact ⟨b, by omega, Or.inl (by omega), fun d h1 h2 => by omega⟩
  | succ n ih =>
    intro b hb
    by_cases hok : 6 ≤ b ∨ th b
    · exact ⟨b, by omega, hok, fun d h1 h2 => by omega⟩
    · obtain ⟨c, h1, h2, h3⟩ := ih (b + 1) (by omega)
      refine ⟨c, by omega, h2, fun d q1 q2 => ?_⟩
      by_cases hd : d = b
      · subst hd
        exact ⟨by omega, fun z => hok (Or.inr z)⟩
      · exact h3 d (by omega) q2
theorem isLo_6 {th : Int → Prop} {b c : Int} (hb : b ≤ 6) (h : isLo th b c) : c ≤ 6 := by
  apply Classical.byContradiction
  intro z
  have := (h.2.2 6 hb (by omega)).1
  omega
theorem isLo_hi {th : Int → Prop} {b c : Int} (hb : 6 ≤ b) (h : isLo th b c) : c = b := isLo_u h ⟨Int.le_refl _, Or.inl hb, fun d h1 h2 => by omega⟩
theorem isLo_no {th : Int → Prop} {b c : Nat} (h : isLo th b c) : ∀ d, b ≤ d → d < c → ¬ okB th d := by
  intro d h1 h2 z
  have := h.2.2 d (by omega) (by omega)
  rcases z with y | y
  · omega
  · exact this.2 y
theorem isLo_ok {th : Int → Prop} {b : Int} {c : Nat} (h : isLo th b c) : okB th c := by
  rcases h.2.1 with y | y
  · exact Or.inl (by omega)
  · exact Or.inr y
theorem frm_hit {th : Int → Prop} {r nw b c : Nat} (h : isLo th b c) (hc : c ≤ 6 + nw) : frm th r nw b = (enm th r (nwS nw c)).map (fun l => (c : Int) :: l) ++ frm th r nw (c + 1) := by
  have h1 := h.1
  rw [frm_skip (c - b) b (fun d h2 h3 => isLo_no h d h2 (by omega)) (by omega), show b + (c - b) = c by omega, frm_step (by omega), brn_yes (isLo_ok h)]
theorem frm_none {th : Int → Prop} {r nw b : Nat} {c : Int} (h : isLo th b c) (hb : b ≤ 7 + nw) (hc : 6 + (nw : Int) < c) : frm th r nw b = [] := by
  rw [frm_skip (7 + nw - b) b (fun d h2 h3 z => ?_) (by omega), frm_end (by omega)]
  have := h.2.2 d (by omega) (by omega)
  rcases z with y | y
  · omega
  · exact this.2 y
/-- the first list -/
theorem enm_fst {th : Int → Prop} {c : Nat} (h : isLo th 0 c) : ∀ (r nw : Nat), ∃ rest, enm th r nw = List.replicate r (c : Int) :: rest := by
  intro r
  induction r with
  | zero => intro nw; exact ⟨[], rfl⟩
  | succ r ih =>
    intro nw
    have h6 := isLo_6 (by omega) h
    obtain ⟨rest, hr⟩ := ih (nwS nw c)
    refine ⟨rest.map (fun l => (c : Int) :: l) ++ frm th r nw (c + 1), ?_⟩
    rw [frm_0, frm_hit (b := 0) h (by omega), hr]
    rfl
def nwsF (f : Int → Int) : Nat → Int
  | 0 => 6
  | k + 1 => if nwsF f k ≤ f k then f k + 1 else nwsF f k
theorem nwsF_b {f : Int → Int} : ∀ {k : Nat}, (∀ j : Int, 0 ≤ j → j < k → f j ≤ 10) → 6 ≤ nwsF f k ∧ nwsF f k ≤ 11 := by
  intro k
  induction k with
  | zero => intro _; simp only [nwsF]; omega
  | succ k ih =>
    intro h
    have h1 := ih (fun j a b => h j a (by omega))
    have h2 := h k (by omega) (by omega)
    simp only [nwsF]
    split <;> omega
theorem enm_can {th : Int → Prop} : ∀ {r nw : Nat} {A : List Int}, A ∈ enm th r nw → ∀ (k : Nat) (b : Int), A[k]? = some b → b ≤ 6 + (nwL (A.take k) nw : Nat) := by
  intro r
  induction r with
  | zero => intro nw A h k b hk; simp [enm] at h; rw [h] at hk; simp at hk
  | succ r ih =>
    intro nw A h k b hk
    simp only [enm, List.mem_flatMap] at h
    obtain ⟨c, hc, hb⟩ := h
    obtain ⟨hok, l, h1, rfl⟩ := brn_mem.mp hb
    have hc := List.mem_range.mp hc
    cases k with
    | zero =>
      simp at hk
      show b ≤ 6 + (nw : Nat)
      omega
    | succ k =>
      simp at hk
      have := ih h1 k b hk
      rw [nwS_c] at this
      exact this
theorem take_1 {A : List Int} {k : Nat} (h : k < A.length) : A.take (k + 1) = A.take k ++ [lkA A k] := by
  rw [List.take_add_one, List.getElem?_eq_getElem h]
  unfold lkA
  rw [Int.toNat_natCast, List.getD_eq_getElem?_getD, List.getElem?_eq_getElem h]
  rfl
theorem drop_1 {A : List Int} {k : Nat} (h : k < A.length) : A.drop k = lkA A k :: A.drop (k + 1) := by
  rw [List.drop_eq_getElem_cons h]
  unfold lkA
  rw [Int.toNat_natCast, List.getD_eq_getElem?_getD, List.getElem?_eq_getElem h]
  rfl
theorem lkA_at {A : List Int} {k : Nat} (h : k < A.length) : A[k]? = some (lkA A k) := by
  unfold lkA
  rw [Int.toNat_natCast, List.getD_eq_getElem?_getD, List.getElem?_eq_getElem h]
  rfl
theorem nwsF_L {th : Int → Prop} {f : Int → Int} {r : Nat} {A : List Int} (hA : A ∈ enm th r 0) : ∀ k, k ≤ r → (∀ j : Int, 0 ≤ j → j < k → f j = lkA A j) → nwsF f k = 6 + (nwL (A.take k) 0 : Nat) := by
  have hlen := enm_len hA
  intro k
  induction k with
  | zero => intro _ _; simp [nwsF, nwL]
  | succ k ih =>
    intro hk hf
    have h1 := ih (by omega) (fun j a b => hf j a (by omega))
    have h2 := enm_can hA k _ (lkA_at (by omega))
    have h3 := hf k (by omega) (by omega)
    simp only [nwsF]
    rw [take_1 (by omega), nwL_app, h1, h3]
    simp only [nwL]
    by_cases z : lkA A k = 6 + (nwL (A.take k) 0 : Nat)
    · rw [if_pos (by omega), if_pos z]; omega
    · rw [if_neg (by omega), if_neg z]

