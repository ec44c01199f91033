/-! the enumeration of assignments, in ORDER; the fold that keeps the LEAST; how many there can be -/
def okB (th : Int → Prop) (b : Nat) : Prop := 6 ≤ b ∨ th (b : Int)
def nwS (nw b : Nat) : Nat := if b = 6 + nw then nw + 1 else nw
noncomputable def brn (th : Int → Prop) (E : Nat → List (List Int)) (nw b : Nat) : List (List Int) := @ite _ (okB th b) (Classical.propDecidable _) ((E (nwS nw b)).map (fun l => (b : Int) :: l)) []
noncomputable def enm (th : Int → Prop) : Nat → Nat → List (List Int)
  | 0, _ => [[]]
  | r + 1, nw => (List.range (7 + nw)).flatMap (brn th (enm th r) nw)
/-- NEW boxes in use behind a list, from nw on -/
def nwL : List Int → Nat → Nat
  | [], nw => nw
  | b :: l, nw => nwL l (if b = 6 + (nw : Int) then nw + 1 else nw)
theorem nwL_ge (l : List Int) : ∀ nw, nw ≤ nwL l nw := by
  induction l with
  | nil => intro nw; exact Nat.le_refl _
  | cons b l ih =>
    intro nw
    simp only [nwL]
    split
    · have := ih (nw + 1); omega
    · exact ih nw
theorem nwL_le (l : List Int) : ∀ nw, nwL l nw ≤ nw + l.length := by
  induction l with
  | nil => intro nw; exact Nat.le_refl _
  | cons b l ih =>
    intro nw
    simp only [nwL, List.length_cons]
    split
    · have := ih (nw + 1); omega
    · have := ih nw; omega
theorem nwL_app (p l : List Int) : ∀ nw, nwL (p ++ l) nw = nwL l (nwL p nw) := by
  induction p with
  | nil => intro nw; rfl
  | cons b p ih => intro nw; simp only [List.cons_append, nwL]; exact ih _
theorem nwS_c (nw b : Nat) : nwS nw b = if (b : Int) = 6 + (nw : Int) then nw + 1 else nw := by
  unfold nwS
  by_cases h : b = 6 + nw
  · rw [if_pos h, if_pos (by omega)]
  · rw [if_neg h, if_neg (by omega)]
theorem brn_mem {th : Int → Prop} {E : Nat → List (List Int)} {nw b : Nat} {l : List Int} : l ∈ brn th E nw b ↔ okB th b ∧ ∃ l', l' ∈ E (nwS nw b) ∧ l = (b : Int) :: l' := by
  unfold brn
  by_cases h : okB th b
  · rw [if_pos h]
    simp only [List.mem_map]
    constructor
    · rintro ⟨l', h1, rfl⟩; exact ⟨h, l', h1, rfl⟩
    · rintro ⟨-, l', h1, rfl⟩; exact ⟨l', h1, rfl⟩
  · rw [if_neg h]
    constructor
    · intro q; cases q
    · rintro ⟨q, -⟩; exact (h q).elim
theorem enm_len {th : Int → Prop} : ∀ {r nw : Nat} {l : List Int}, l ∈ enm th r nw → l.length = r := by
  intro r
  induction r with
  | zero => intro nw l h; simp [enm] at h; rw [h]; rfl
  | succ r ih =>
    intro nw l h
    simp only [enm, List.mem_flatMap] at h
    obtain ⟨b, -, hb⟩ := h
    obtain ⟨-, l', h1, rfl⟩ := brn_mem.mp hb
    rw [List.length_cons, ih h1]
/-- what an enumerated list looks like: each box is a present one, or a NEW one of those in use, or the next -/
theorem enm_val {th : Int → Prop} : ∀ {r nw : Nat} {l : List Int}, l ∈ enm th r nw → ∀ (i : Nat) (b : Int), l[i]? = some b → 0 ≤ b ∧ b ≤ 6 + (nw : Int) + i ∧ (6 ≤ b ∨ th b) := by
  intro r
  induction r with
  | zero => intro nw l h i b hi; simp [enm] at h; rw [h] at hi; simp at hi
  | succ r ih =>
    intro nw l h i b hi
    simp only [enm, List.mem_flatMap] at h
    obtain ⟨c, hc, hb⟩ := h
    obtain ⟨hok, l', h1, rfl⟩ := brn_mem.mp hb
    have hc := List.mem_range.mp hc
    cases i with
    | zero =>
      simp at hi
      subst hi
      refine ⟨by omega, by omega, ?_⟩
      rcases hok with q | q
      · exact Or.inl (by omega)
      · exact Or.inr q
    | succ i =>
      simp at hi
      have := ih h1 i b hi
      have hn : nwS nw c ≤ nw + 1 := by unfold nwS; split <;> omega
      refine ⟨this.1, by omega, this.2.2⟩
abbrev lSt : Type := Nat × Nat × List (List Int)
noncomputable def stp (Fit : List Int → Prop) (nl : List Int → Nat) (s : lSt) (A : List Int) : lSt :=
  @ite _ (Fit A ∧ (nwL A 0 < s.1 ∨ nwL A 0 = s.1 ∧ nl A ≤ s.2.1)) (Classical.propDecidable _) (if nwL A 0 < s.1 ∨ nl A < s.2.1 then (nwL A 0, nl A, [A]) else (s.1, s.2.1, s.2.2 ++ [A])) s
theorem stp_no {Fit : List Int → Prop} {nl : List Int → Nat} {s : lSt} {A : List Int} (h : ¬ (Fit A ∧ (nwL A 0 < s.1 ∨ nwL A 0 = s.1 ∧ nl A ≤ s.2.1))) : stp Fit nl s A = s := by
  unfold stp; exact if_neg h
theorem stp_yes {Fit : List Int → Prop} {nl : List Int → Nat} {s : lSt} {A : List Int} (h : Fit A ∧ (nwL A 0 < s.1 ∨ nwL A 0 = s.1 ∧ nl A ≤ s.2.1)) : stp Fit nl s A = if nwL A 0 < s.1 ∨ nl A < s.2.1 then (nwL A 0, nl A, [A]) else (s.1, s.2.1, s.2.2 ++ [A]) := by
  unfold stp; exact if_pos h
theorem fold_id {Fit : List Int → Prop} {nl : List Int → Nat} {s : lSt} : ∀ {l : List (List Int)}, (∀ A ∈ l, ¬ (Fit A ∧ (nwL A 0 < s.1 ∨ nwL A 0 = s.1 ∧ nl A ≤ s.2.1))) → l.foldl (stp Fit nl) s = s := by
  intro l
  induction l with
  | nil => intro _; rfl
  | cons A l ih =>
    intro h
    rw [List.foldl_cons, stp_no (h A List.mem_cons_self)]
    exact ih (fun B hB => h B (List.mem_cons_of_mem _ hB))
def init0 : lSt := (4, 100, [])
/-- what is kept was seen, FITS, and has the fewest NEW boxes so far -/
theorem fold_kept {Fit : List Int → Prop} {nl : List Int → Nat} : ∀ (l : List (List Int)) (s : lSt) (d : List (List Int)), (s.2.2.Sublist d ∧ (∀ A ∈ s.2.2, Fit A ∧ nwL A 0 = s.1 ∧ nl A = s.2.1)) → ((l.foldl (stp Fit nl) s).2.2.Sublist (d ++ l) ∧ ∀ A ∈ (l.foldl (stp Fit nl) s).2.2, Fit A ∧ nwL A 0 = (l.foldl (stp Fit nl) s).1 ∧ nl A = (l.foldl (stp Fit nl) s).2.1) := by
  intro l
  induction l with
  | nil => intro s d h; rw [List.append_nil]; exact h
  | cons A l ih =>
    intro s d h
    rw [List.foldl_cons]
    have e : d ++ A :: l = (d ++ [A]) ++ l := by simp
    rw [e]
    refine ih _ _ ?_
    by_cases hc : Fit A ∧ (nwL A 0 < s.1 ∨ nwL A 0 = s.1 ∧ nl A ≤ s.2.1)
    · rw [stp_yes hc]
      split
      · refine ⟨(List.sublist_append_right d [A]), fun B hB => ?_⟩
        rw [List.mem_singleton.mp hB]
        exact ⟨hc.1, rfl, rfl⟩
      · rename_i hn
        refine ⟨h.1.append (List.Sublist.refl [A]), fun B hB => ?_⟩
        rcases List.mem_append.mp hB with q | q
        · exact h.2 B q
        · rw [List.mem_singleton.mp q]
          refine ⟨hc.1, ?_, ?_⟩
          · show nwL A 0 = s.1; omega
          · show nl A = s.2.1; omega
    · rw [stp_no hc]
      exact ⟨h.1.trans (List.sublist_append_left d [A]), h.2⟩
noncomputable def cP (P : List Int → Prop) (l : List (List Int)) : Nat := (l.map (fun A => bb (P A))).sum
theorem cP_app (P : List Int → Prop) (l l' : List (List Int)) : cP P (l ++ l') = cP P l + cP P l' := by unfold cP; rw [List.map_append, List.sum_append]
theorem cP_0 {P : List Int → Prop} : ∀ {l : List (List Int)}, (∀ A ∈ l, ¬ P A) → cP P l = 0 := by
  intro l
  induction l with
  | nil => intro _; rfl
  | cons A l ih =>
    intro h
    show bb (P A) + cP P l = 0
    rw [bb0 (h A List.mem_cons_self), ih (fun B hB => h B (List.mem_cons_of_mem _ hB))]
theorem cP_map (P : List Int → Prop) (f : List Int → List Int) (l : List (List Int)) : cP P (l.map f) = cP (fun A => P (f A)) l := by unfold cP; rw [List.map_map]; rfl
theorem cP_sub {P : List Int → Prop} {k l : List (List Int)} (h : k.Sublist l) (hP : ∀ A ∈ k, P A) : k.length ≤ cP P l := by
  induction h with
  | slnil => exact Nat.le_refl _
  | cons a _ ih =>
    have := ih hP
    show _ ≤ bb (P a) + cP P _
    omega
  | cons_cons a _ ih =>
    have := ih (fun B hB => hP B (List.mem_cons_of_mem _ hB))
    show _ ≤ bb (P a) + cP P _
    rw [bb1 (hP a List.mem_cons_self), List.length_cons]
    omega
theorem cP_flat (P : List Int → Prop) (g : Nat → List (List Int)) (n : Nat) : cP P ((List.range n).flatMap g) = sm (fun b => cP P (g b)) n := by
  induction n with
  | zero => rfl
  | succ n ih =>
    rw [List.range_succ, List.flatMap_append, cP_app, ih]
    show _ + cP P (([n] : List Nat).flatMap g) = _
    rw [List.flatMap_cons, List.flatMap_nil, List.append_nil]
    rfl
/-- the tree's count, 4 NAME boxes a SILENT HOP -/
def cnt : Nat → Nat → Nat → Nat
  | 0, n, k => if n = k then 1 else 0
  | r + 1, n, k => (4 + n) * cnt r n k + cnt r (n + 1) k
theorem sm_split (f : Nat → Nat) (a b : Nat) : sm f (a + b) = sm f a + sm (fun i => f (a + i)) b := by
  induction b with
  | zero => rfl
  | succ b ih => show sm f (a + b) + f (a + b) = _; rw [ih]; simp only [sm]; omega
theorem sm_const {f : Nat → Nat} {n c : Nat} (h : ∀ i, i < n → f i ≤ c) : sm f n ≤ n * c := by
  induction n with
  | zero => simp [sm]
  | succ n ih =>
    have h1 := ih (fun i hi => h i (by omega))
    have h2 := h n (by omega)
    simp only [sm, Nat.succ_mul]
    omega
theorem sm_but2 {f : Nat → Nat} {c x y : Nat} (hx : x < 6) (hy : y < 6) (hxy : x ≠ y) (h : ∀ i, i < 6 → f i ≤ c) (h1 : f x = 0) (h2 : f y = 0) : sm f 6 ≤ 4 * c := by
  have a0 := h 0 (by omega)
  have a1 := h 1 (by omega)
  have a2 := h 2 (by omega)
  have a3 := h 3 (by omega)
  have a4 := h 4 (by omega)
  have a5 := h 5 (by omega)
  have e : sm f 6 = f 0 + f 1 + f 2 + f 3 + f 4 + f 5 := by simp only [sm]; omega
  rw [e]
  rcases (show x = 0 ∨ x = 1 ∨ x = 2 ∨ x = 3 ∨ x = 4 ∨ x = 5 by omega) with rfl | rfl | rfl | rfl | rfl | rfl <;> rcases (show y = 0 ∨ y = 1 ∨ y = 2 ∨ y = 3 ∨ y = 4 ∨ y = 5 by omega) with rfl | rfl | rfl | rfl | rfl | rfl <;> omega
theorem cnt_ok {th : Int → Prop} {Fit : List Int → Prop} {m k : Nat} (hx : ∀ s, s < m → ∃ x y : Nat, x < 6 ∧ y < 6 ∧ x ≠ y ∧ ∀ A : List Int, A.length = m → Fit A → A[s]? ≠ some (x : Int) ∧ A[s]? ≠ some (y : Int)) : ∀ (r nw : Nat) (p : List Int), p.length + r = m → cP (fun l => Fit (p ++ l) ∧ nwL l nw = k) (enm th r nw) ≤ cnt r nw k := by
  intro r
  induction r with
  | zero =>
    intro nw p hp
    show bb (Fit (p ++ []) ∧ nwL [] nw = k) + 0 ≤ if nw = k then 1 else 0
    by_cases h : nw = k
    · rw [if_pos h]; have := bb_le (Fit (p ++ []) ∧ nwL [] nw = k); omega
    · rw [if_neg h, bb0 (fun q => h q.2)]; omega
  | succ r ih =>
    intro nw p hp
    have hb : ∀ b : Nat, cP (fun l => Fit (p ++ l) ∧ nwL l nw = k) (brn th (enm th r) nw b) ≤ cnt r (nwS nw b) k := by
      intro b
      unfold brn
      by_cases hok : okB th b
      · rw [if_pos hok, cP_map]
        have := ih (nwS nw b) (p ++ [(b : Int)]) (by rw [List.length_append]; simp; omega)
        refine Nat.le_trans (Nat.le_of_eq ?_) this
        congr 1
        funext l
        apply propext
        rw [List.append_assoc, nwS_c]
        rfl
      · rw [if_neg hok]; exact Nat.zero_le _
    show cP _ ((List.range (7 + nw)).flatMap (brn th (enm th r) nw)) ≤ (4 + nw) * cnt r nw k + cnt r (nw + 1) k
    rw [cP_flat, show 7 + nw = (6 + nw) + 1 by omega]
    show sm _ (6 + nw) + cP _ (brn th (enm th r) nw (6 + nw)) ≤ _
    have h1 := hb (6 + nw)
    rw [show nwS nw (6 + nw) = nw + 1 by unfold nwS; rw [if_pos rfl]] at h1
    rw [sm_split]
    have h2 : sm (fun i => cP (fun l => Fit (p ++ l) ∧ nwL l nw = k) (brn th (enm th r) nw (6 + i))) nw ≤ nw * cnt r nw k := by
      refine sm_const (fun i hi => ?_)
      have := hb (6 + i)
      rwa [show nwS nw (6 + i) = nw by unfold nwS; rw [if_neg (by omega)]] at this
    obtain ⟨x, y, q1, q2, q3, q4⟩ := hx p.length (by omega)
    have hz : ∀ b : Nat, (b = x ∨ b = y) → cP (fun l => Fit (p ++ l) ∧ nwL l nw = k) (brn th (enm th r) nw b) = 0 := by
      intro b hbx
      refine cP_0 (fun A hA hF => ?_)
      obtain ⟨-, l', hl', rfl⟩ := brn_mem.mp hA
      have hlen := enm_len hl'
      have e : (p ++ (b : Int) :: l')[p.length]? = some (b : Int) := by simp
      have := q4 (p ++ (b : Int) :: l') (by rw [List.length_append, List.length_cons, hlen]; omega) hF.1
      rcases hbx with rfl | rfl
      · exact this.1 e
      · exact this.2 e
    have h3 : sm (fun b => cP (fun l => Fit (p ++ l) ∧ nwL l nw = k) (brn th (enm th r) nw b)) 6 ≤ 4 * cnt r nw k := by
      refine sm_but2 q1 q2 q3 (fun i hi => ?_) (hz x (Or.inl rfl)) (hz y (Or.inr rfl))
      have := hb i
      rwa [show nwS nw i = nw by unfold nwS; rw [if_neg (by omega)]] at this
    rw [Nat.add_mul]
    omega
theorem cnt_369 : ∀ r, r < 5 → ∀ k, k < 5 → cnt r 0 k ≤ 369 := by decide +kernel
/-- at no time more than 369 are kept -/
theorem kept_le {th : Int → Prop} {Fit : List Int → Prop} {nl : List Int → Nat} {m : Nat} (hm : m ≤ 4) (hx : ∀ s, s < m → ∃ x y : Nat, x < 6 ∧ y < 6 ∧ x ≠ y ∧ ∀ A : List Int, A.length = m → Fit A → A[s]? ≠ some (x : Int) ∧ A[s]? ≠ some (y : Int)) {l rest : List (List Int)} (hl : l ++ rest = enm th m 0) : (l.foldl (stp Fit nl) init0).2.2.length ≤ 369 := by
  have hk := fold_kept (Fit := Fit) (nl := nl) l init0 [] ⟨List.Sublist.refl _, fun A hA => by cases hA⟩
  rw [List.nil_append] at hk
  generalize hs : l.foldl (stp Fit nl) init0 = s at hk ⊢
  have h1 : s.2.2.Sublist (enm th m 0) := hk.1.trans (by rw [← hl]; exact List.sublist_append_left _ _)
  have h2 := cP_sub (P := fun A => Fit ([] ++ A) ∧ nwL A 0 = s.1) h1 (fun A hA => ⟨(hk.2 A hA).1, (hk.2 A hA).2.1⟩)
  have h3 := cnt_ok (th := th) (k := s.1) hx m 0 [] (by simp)
  by_cases hk4 : s.1 < 5
  · have := cnt_369 m (by omega) s.1 hk4
    omega
  · cases hks : s.2.2 with
    | nil => simp
    | cons A ks =>
      have hA : A ∈ s.2.2 := by rw [hks]; exact List.mem_cons_self
      have e1 := (hk.2 A hA).2.1
      have e2 := nwL_le A 0
      have e3 := enm_len (h1.subset hA)
      omega
