/-! graphs on the boxes 0 to 9: walks, distances, counting lines -/
def wk (R : Int → Int → Prop) : Nat → Int → Int → Prop
  | 0, a, b => a = b
  | k + 1, a, b => ∃ c, wk R k a c ∧ R c b
def isD (R : Int → Int → Prop) (a b d : Int) : Prop := (∃ k : Nat, d = k ∧ k ≤ 9 ∧ wk R k a b ∧ ∀ j, j < k → ¬ wk R j a b) ∨ (d = -1 ∧ ∀ k, ¬ wk R k a b)
theorem isD_uniq {R : Int → Int → Prop} {a b d e : Int} (h1 : isD R a b d) (h2 : isD R a b e) : d = e := by
  rcases h1 with ⟨k, rfl, -, hk, hk2⟩ | ⟨rfl, h1⟩ <;> rcases h2 with ⟨j, rfl, -, hj, hj2⟩ | ⟨rfl, h2⟩
  · have : ¬ k < j := fun q => hj2 k q hk
    have : ¬ j < k := fun q => hk2 j q hj
    omega
  · exact (h2 k hk).elim
  · exact (h1 j hj).elim
  · rfl
theorem wk_congr {R R' : Int → Int → Prop} (h : ∀ x y, R x y ↔ R' x y) : ∀ (k : Nat) (a b : Int), wk R k a b ↔ wk R' k a b := by
  intro k
  induction k with
  | zero => intro a b; exact Iff.rfl
  | succ k ih =>
    intro a b
    simp only [wk]
    constructor
    · rintro ⟨c, h1, h2⟩
      exact ⟨c, (ih a c).mp h1, (h c b).mp h2⟩
    · rintro ⟨c, h1, h2⟩
      exact ⟨c, (ih a c).mpr h1, (h c b).mpr h2⟩
theorem wk_map {R R' : Int → Int → Prop} {f : Int → Int} (h : ∀ x y, R x y → R' (f x) (f y)) : ∀ (k : Nat) (a b : Int), wk R k a b → wk R' k (f a) (f b) := by
  intro k
  induction k with
  | zero => intro a b e; exact congrArg f e
  | succ k ih =>
    rintro a b ⟨c, h1, h2⟩
    exact ⟨f c, ih a c h1, h c b h2⟩
/-- the graph stays within the boxes -/
def in10 (R : Int → Int → Prop) : Prop := ∀ x y, R x y → (0 ≤ x ∧ x < 10) ∧ (0 ≤ y ∧ y < 10)
theorem wk_in {R : Int → Int → Prop} (h : in10 R) {k : Nat} {a b : Int} (ha : 0 ≤ a ∧ a < 10) (hw : wk R k a b) : 0 ≤ b ∧ b < 10 := by
  cases k with
  | zero => rw [← (show a = b from hw)]; exact ha
  | succ k => obtain ⟨c, -, h2⟩ := hw; exact (h c b h2).2
noncomputable def bb (p : Prop) : Nat := @ite _ p (Classical.propDecidable p) 1 0
theorem bb1 {p : Prop} (h : p) : bb p = 1 := by unfold bb; exact if_pos h
theorem bb0 {p : Prop} (h : ¬ p) : bb p = 0 := by unfold bb; exact if_neg h
theorem bb_le (p : Prop) : bb p ≤ 1 := by
  by_cases h : p
  · rw [bb1 h]; omega
  · rw [bb0 h]; omega
theorem bb_congr {p q : Prop} (h : p ↔ q) : bb p = bb q := by
  by_cases hp : p
  · rw [bb1 hp, bb1 (h.mp hp)]
  · rw [bb0 hp, bb0 (fun z => hp (h.mpr z))]
def sm (f : Nat → Nat) : Nat → Nat
  | 0 => 0
  | k + 1 => sm f k + f k
theorem sm_congr {f g : Nat → Nat} : ∀ {n : Nat}, (∀ i, i < n → f i = g i) → sm f n = sm g n := by
  intro n
  induction n with
  | zero => intro _; rfl
  | succ n ih => intro h; simp only [sm]; rw [ih (fun i hi => h i (by omega)), h n (by omega)]
theorem sm_add (f g : Nat → Nat) (n : Nat) : sm (fun i => f i + g i) n = sm f n + sm g n := by
  induction n with
  | zero => rfl
  | succ n ih => simp only [sm, ih]; omega
theorem sm_le {f g : Nat → Nat} : ∀ {n : Nat}, (∀ i, i < n → f i ≤ g i) → sm f n ≤ sm g n := by
  intro n
  induction n with
  | zero => intro _; exact Nat.le_refl _
  | succ n ih =>
    intro h
    have h1 := ih (fun i hi => h i (by omega))
    have h2 := h n (by omega)
    simp only [sm]; omega
theorem sm_lt {f g : Nat → Nat} {n : Nat} (h : ∀ i, i < n → f i ≤ g i) {j : Nat} (hj : j < n) (hjl : f j < g j) : sm f n < sm g n := by
  induction n with
  | zero => omega
  | succ n ih =>
    simp only [sm]
    by_cases he : j = n
    · subst he
      have := sm_le (f := f) (g := g) (n := j) (fun i hi => h i (by omega))
      omega
    · have h1 := ih (fun i hi => h i (by omega)) (by omega)
      have h2 := h n (by omega)
      omega
theorem sm_one {n : Nat} {f : Nat → Nat} (h : ∀ i, i < n → f i ≤ 1) : sm f n ≤ n := by
  induction n with
  | zero => exact Nat.le_refl _
  | succ n ih =>
    have h1 := ih (fun i hi => h i (by omega))
    have h2 := h n (by omega)
    simp only [sm]; omega
theorem pop_sm (x : Int) : pop x = ((sm (fun i => bb (tb x (i : Int))) 10 : Nat) : Int) := by
  have e : ∀ n, (List.range n).countP (fun i => x.toNat.testBit i) = sm (fun i => bb (tb x (i : Int))) n := by
    intro n
    induction n with
    | zero => rfl
    | succ n ih =>
      rw [List.range_succ, List.countP_append, ih]
      simp only [sm, List.countP_cons, List.countP_nil]
      by_cases h : x.toNat.testBit n = true
      · rw [bb1 (show tb x (n : Int) from by unfold tb; rw [Int.toNat_natCast]; exact h), if_pos h]
      · rw [bb0 (show ¬ tb x (n : Int) from by unfold tb; rw [Int.toNat_natCast]; exact h), if_neg h]
  unfold pop
  rw [e]
theorem pop_b (x : Int) : 0 ≤ pop x ∧ pop x ≤ 10 := by
  rw [pop_sm]
  have := sm_one (n := 10) (f := fun i => bb (tb x (i : Int))) (fun i _ => bb_le _)
  omega
theorem tb_big {x : Int} {i : Nat} (hx : 0 ≤ x ∧ x < 1024) (hi : 10 ≤ i) : ¬ tb x (i : Int) := by
  unfold tb
  rw [Int.toNat_natCast, Nat.testBit_lt_two_pow (Nat.lt_of_lt_of_le (m := 2 ^ 10) (by omega) (Nat.pow_le_pow_right (by omega) hi))]
  decide
/-- two sets of boxes with the same bits are one -/
theorem tb_ext {x y : Int} (hx : 0 ≤ x ∧ x < 1024) (hy : 0 ≤ y ∧ y < 1024) (h : ∀ i : Int, 0 ≤ i → i < 10 → (tb x i ↔ tb y i)) : x = y := by
  have : x.toNat = y.toNat := by
    apply Nat.eq_of_testBit_eq
    intro i
    by_cases hi : i < 10
    · have := h i (by omega) (by omega)
      unfold tb at this
      rw [Int.toNat_natCast] at this
      cases h1 : x.toNat.testBit i <;> cases h2 : y.toNat.testBit i <;> simp [h1, h2] at this ⊢
    · have h1 := tb_big hx (i := i) (by omega)
      have h2 := tb_big hy (i := i) (by omega)
      unfold tb at h1 h2
      rw [Int.toNat_natCast] at h1 h2
      simp only [Bool.not_eq_true] at h1 h2
      rw [h1, h2]
  omega
theorem pop_lt {x y : Int} (hx : 0 ≤ x ∧ x < 1024) (hy : 0 ≤ y ∧ y < 1024) (h : ∀ i : Int, 0 ≤ i → i < 10 → tb x i → tb y i) (hne : x ≠ y) : pop x < pop y := by
  have : ∃ j : Nat, j < 10 ∧ tb y (j : Int) ∧ ¬ tb x (j : Int) := by
    apply Classical.byContradiction
    intro hno
    apply hne
    apply tb_ext hx hy
    intro i h0 h1
    refine ⟨h i h0 h1, fun q => ?_⟩
    apply Classical.byContradiction
    intro hn
    exact hno ⟨i.toNat, by omega, by rw [Int.toNat_of_nonneg h0]; exact q, by rw [Int.toNat_of_nonneg h0]; exact hn⟩
  obtain ⟨j, hj, q1, q2⟩ := this
  rw [pop_sm, pop_sm]
  have := sm_lt (n := 10) (f := fun i => bb (tb x (i : Int))) (g := fun i => bb (tb y (i : Int))) (fun i hi => by
    by_cases hp : tb x (i : Int)
    · rw [bb1 hp, bb1 (h i (by omega) (by omega) hp)]; omega
    · rw [bb0 hp]; omega) hj (by rw [bb0 q2, bb1 q1]; omega)
  omega
/-- the number of LINES -/
noncomputable def nLn (R : Int → Int → Prop) (n : Nat) : Nat := sm (fun a => sm (fun b => bb (R (a : Int) (b : Int))) a) n
theorem nLn_two {R : Int → Int → Prop} (hs : ∀ x y, R x y → R y x) (hi : ∀ x, ¬ R x x) (n : Nat) : sm (fun a => sm (fun b => bb (R (a : Int) (b : Int))) n) n = 2 * nLn R n := by
  induction n with
  | zero => rfl
  | succ n ih =>
    have e1 : sm (fun a => sm (fun b => bb (R (a : Int) (b : Int))) (n + 1)) n = sm (fun a => sm (fun b => bb (R (a : Int) (b : Int))) n) n + sm (fun a => bb (R (a : Int) (n : Int))) n := by
      rw [← sm_add]; rfl
    have e2 : sm (fun a => bb (R (a : Int) (n : Int))) n = sm (fun b => bb (R (n : Int) (b : Int))) n := sm_congr (fun i _ => bb_congr ⟨hs _ _, hs _ _⟩)
    have e3 : bb (R (n : Int) (n : Int)) = 0 := bb0 (hi _)
    have e4 : nLn R (n + 1) = nLn R n + sm (fun b => bb (R (n : Int) (b : Int))) n := rfl
    show sm (fun a => sm (fun b => bb (R (a : Int) (b : Int))) (n + 1)) n + (sm (fun b => bb (R (n : Int) (b : Int))) n + bb (R (n : Int) (n : Int))) = _
    rw [e1, ih, e2, e3, e4]
    omega
theorem nLn_le (R : Int → Int → Prop) : nLn R 10 ≤ 45 := by
  have : nLn R 10 ≤ sm (fun a => a) 10 := sm_le (fun a _ => sm_one (fun _ _ => bb_le _))
  exact this
theorem nLn_congr {R R' : Int → Int → Prop} (h : ∀ x y, R x y ↔ R' x y) (n : Nat) : nLn R n = nLn R' n := sm_congr (fun a _ => sm_congr (fun b _ => bb_congr (h _ _)))
