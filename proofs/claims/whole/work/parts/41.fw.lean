/-! shortest ways by Floyd and Warshall -/
def fwD (D : Int → Int → Int) : Nat → Int → Int → Int
  | 0 => D
  | c + 1 => fun a b => min (fwD D c a b) (fwD D c a (c : Int) + fwD D c (c : Int) b)
def fwI (R : Int → Int → Prop) (F : Int → Int → Int) (k : Int) : Prop := (∀ a b, 0 ≤ a → a < 10 → 0 ≤ b → b < 10 → (0 ≤ F a b ∧ F a b ≤ 100) ∧ (a = b → F a b = 0) ∧ (a ≠ b → 1 ≤ F a b)) ∧ (∀ a b, R a b → F a b ≤ 1) ∧ (∀ a b c, 0 ≤ a → a < 10 → 0 ≤ b → b < 10 → 0 ≤ c → c < k → F a b ≤ F a c + F c b) ∧ ∀ a x, 0 ≤ a → a < 10 → 0 ≤ x → x < 10 → 0 < F a x → F a x < 100 → ∃ y, (0 ≤ y ∧ y < 10) ∧ R y x ∧ F a y ≤ F a x - 1
theorem fw_step {R : Int → Int → Prop} {F : Int → Int → Int} {k : Int} (hR : in10 R) (hk : 0 ≤ k ∧ k < 10) (h : fwI R F k) : fwI R (fun a b => min (F a b) (F a k + F k b)) (k + 1) := by
  obtain ⟨h1, h2, h3, h4⟩ := h
  have kk := (h1 k k hk.1 hk.2 hk.1 hk.2).2.1 rfl
  refine ⟨fun a b a0 a1 b0 b1 => ?_, fun a b r => ?_, fun a b c a0 a1 b0 b1 c0 c1 => ?_, fun a x a0 a1 x0 x1 p q => ?_⟩
  · have x := h1 a b a0 a1 b0 b1
    have y := h1 a k a0 a1 hk.1 hk.2
    have z := h1 k b hk.1 hk.2 b0 b1
    dsimp only
    refine ⟨by omega, fun e => ?_, fun e => ?_⟩
    · have := x.2.1 e; omega
    · have xe := x.2.2 e
      by_cases hak : a = k
      · have : k ≠ b := fun z => e (hak.trans z)
        have := z.2.2 this
        omega
      · have := y.2.2 hak
        omega
  · have := h2 a b r
    dsimp only
    omega
  · dsimp only
    have ac := h1 a c a0 a1 c0 (by omega)
    have cb := h1 c b c0 (by omega) b0 b1
    have ck := h1 c k c0 (by omega) hk.1 hk.2
    have kc := h1 k c hk.1 hk.2 c0 (by omega)
    by_cases hc : c = k
    · subst hc
      omega
    · have t1 := h3 a b c a0 a1 b0 b1 c0 (by omega)
      have t2 := h3 k b c hk.1 hk.2 b0 b1 c0 (by omega)
      have t3 := h3 a k c a0 a1 hk.1 hk.2 c0 (by omega)
      omega
  · dsimp only at p q ⊢
    by_cases hm : F a x ≤ F a k + F k x
    · rw [Int.min_eq_left hm] at p q ⊢
      obtain ⟨y, y0, r, e⟩ := h4 a x a0 a1 x0 x1 p q
      exact ⟨y, y0, r, by omega⟩
    · rw [Int.min_eq_right (by omega)] at p q ⊢
      have ak := h1 a k a0 a1 hk.1 hk.2
      have ax := h1 a x a0 a1 x0 x1
      have kx := h1 k x hk.1 hk.2 x0 x1
      by_cases hkx : k = x
      · have := kx.2.1 hkx
        rw [hkx] at hm this
        omega
      · obtain ⟨y, y0, r, e⟩ := h4 k x hk.1 hk.2 x0 x1 (by have := kx.2.2 hkx; omega) (by omega)
        exact ⟨y, y0, r, by omega⟩
theorem fw_all {R : Int → Int → Prop} {D : Int → Int → Int} (hR : in10 R) (h0 : fwI R D 0) : ∀ k : Nat, k ≤ 10 → fwI R (fwD D k) k := by
  intro k
  induction k with
  | zero => intro _; exact h0
  | succ k ih =>
    intro hk
    have := fw_step hR (k := (k : Int)) ⟨by omega, by omega⟩ (ih (by omega))
    exact this
theorem fw_le {R : Int → Int → Prop} {F : Int → Int → Int} (hR : in10 R) (h : fwI R F 10) : ∀ (k : Nat) (a b : Int), 0 ≤ a → a < 10 → wk R k a b → F a b ≤ k := by
  intro k
  induction k with
  | zero =>
    intro a b a0 a1 w
    have e : a = b := w
    subst e
    have := (h.1 a a a0 a1 a0 a1).2.1 rfl
    omega
  | succ k ih =>
    rintro a b a0 a1 ⟨c, w, r⟩
    have hc := hR c b r
    have i1 := ih a c a0 a1 w
    have i2 := h.2.1 c b r
    have i3 := h.2.2.1 a b c a0 a1 hc.2.1 hc.2.2 hc.1.1 hc.1.2
    omega
theorem fw_wk {R : Int → Int → Prop} {F : Int → Int → Int} (hR : in10 R) (h : fwI R F 10) : ∀ (k : Nat) (a b : Int), 0 ≤ a → a < 10 → 0 ≤ b → b < 10 → F a b = k → k < 100 → wk R k a b := by
  intro k
  induction k with
  | zero =>
    intro a b a0 a1 b0 b1 e _
    apply Classical.byContradiction
    intro hn
    have := (h.1 a b a0 a1 b0 b1).2.2 hn
    omega
  | succ k ih =>
    intro a b a0 a1 b0 b1 e hk
    obtain ⟨y, y0, r, hy⟩ := h.2.2.2 a b a0 a1 b0 b1 (by omega) (by omega)
    have i2 := h.2.1 y b r
    have i3 := h.2.2.1 a b y a0 a1 b0 b1 y0.1 y0.2
    exact ⟨y, ih a y a0 a1 y0.1 y0.2 (by omega) (by omega), r⟩
/-- a shortest way has nine LINES at most -/
theorem fw_9 {R : Int → Int → Prop} {F : Int → Int → Int} (hR : in10 R) (h : fwI R F 10) {a b : Int} (ha : 0 ≤ a ∧ a < 10) (hb : 0 ≤ b ∧ b < 10) (hlt : F a b < 100) : F a b ≤ 9 := by
  have key : ∀ j : Nat, (j : Int) ≤ F a b → j + 1 ≤ sm (fun x => bb (F a (x : Int) ≤ (j : Int))) 10 ∧ ∃ x : Nat, x < 10 ∧ F a (x : Int) = F a b - j := by
    intro j
    induction j with
    | zero =>
      intro _
      refine ⟨?_, b.toNat, by omega, by rw [Int.toNat_of_nonneg hb.1]; simp⟩
      have := sm_lt (f := fun _ => 0) (g := fun x => bb (F a (x : Int) ≤ ((0 : Nat) : Int))) (n := 10) (fun _ _ => Nat.zero_le _) (j := a.toNat) (by omega) (by
        rw [bb1 (by rw [Int.toNat_of_nonneg ha.1, (h.1 a a ha.1 ha.2 ha.1 ha.2).2.1 rfl]; omega)]; omega)
      have e : sm (fun _ => 0) 10 = 0 := rfl
      omega
    | succ j ih =>
      intro hj
      obtain ⟨i1, x, x1, x2⟩ := ih (by omega)
      obtain ⟨y, y0, r, hy⟩ := h.2.2.2 a x ha.1 ha.2 (by omega) (by omega) (by omega) (by omega)
      have i2 := h.2.1 y x r
      have i3 := h.2.2.1 a x y ha.1 ha.2 (by omega) (by omega) y0.1 y0.2
      refine ⟨?_, y.toNat, by omega, by rw [Int.toNat_of_nonneg y0.1]; omega⟩
      have ex : ∃ z : Nat, z < 10 ∧ F a (z : Int) = (j : Int) + 1 := by
        have all : ∀ d : Nat, (d : Int) ≤ F a b → ∃ z : Nat, z < 10 ∧ F a (z : Int) = F a b - d := by
          intro d
          induction d with
          | zero => intro _; exact ⟨b.toNat, by omega, by rw [Int.toNat_of_nonneg hb.1]; simp⟩
          | succ d ihd =>
            intro hd
            obtain ⟨u, u1, u2⟩ := ihd (by omega)
            obtain ⟨v, v0, r', hv⟩ := h.2.2.2 a u ha.1 ha.2 (by omega) (by omega) (by omega) (by omega)
            have j2 := h.2.1 v u r'
            have j3 := h.2.2.1 a u v ha.1 ha.2 (by omega) (by omega) v0.1 v0.2
            exact ⟨v.toNat, by omega, by rw [Int.toNat_of_nonneg v0.1]; omega⟩
        obtain ⟨z, z1, z2⟩ := all (F a b - (j + 1)).toNat (by omega)
        exact ⟨z, z1, by omega⟩
      obtain ⟨z, z1, z2⟩ := ex
      have := sm_lt (f := fun x => bb (F a (x : Int) ≤ (j : Int))) (g := fun x => bb (F a (x : Int) ≤ ((j + 1 : Nat) : Int))) (n := 10) (fun i _ => by
        by_cases hp : F a (i : Int) ≤ (j : Int)
        · rw [bb1 hp, bb1 (by omega)]; omega
        · rw [bb0 hp]; omega) (j := z) z1 (by rw [bb0 (by omega), bb1 (by omega)]; omega)
      omega
  have hf := (h.1 a b ha.1 ha.2 hb.1 hb.2).1
  have := (key (F a b).toNat (by omega)).1
  have h10 := sm_one (n := 10) (f := fun x => bb (F a (x : Int) ≤ ((F a b).toNat : Int))) (fun _ _ => bb_le _)
  omega
theorem fw_fin {R : Int → Int → Prop} {F : Int → Int → Int} (hR : in10 R) (h : fwI R F 10) : ∀ (k : Nat) (a b : Int), 0 ≤ a → a < 10 → wk R k a b → F a b < 100 := by
  intro k
  induction k with
  | zero =>
    intro a b a0 a1 w
    have := fw_le hR h 0 a b a0 a1 w
    omega
  | succ k ih =>
    rintro a b a0 a1 ⟨c, w, r⟩
    have hc := hR c b r
    have i0 := ih a c a0 a1 w
    have i1 := fw_9 hR h (a := a) (b := c) ⟨a0, a1⟩ hc.1 i0
    have i2 := h.2.1 c b r
    have i3 := h.2.2.1 a b c a0 a1 hc.2.1 hc.2.2 hc.1.1 hc.1.2
    omega
theorem fw_isD {R : Int → Int → Prop} {F : Int → Int → Int} (hR : in10 R) (h : fwI R F 10) {a b : Int} (ha : 0 ≤ a ∧ a < 10) (hb : 0 ≤ b ∧ b < 10) : isD R a b (if F a b < 100 then F a b else -1) := by
  have hf := (h.1 a b ha.1 ha.2 hb.1 hb.2).1
  by_cases hl : F a b < 100
  · rw [if_pos hl]
    have h9 := fw_9 hR h ha hb hl
    exact Or.inl ⟨(F a b).toNat, by omega, by omega, fw_wk hR h _ a b ha.1 ha.2 hb.1 hb.2 (by omega) (by omega), fun j hj w => by have := fw_le hR h j a b ha.1 ha.2 w; omega⟩
  · rw [if_neg hl]
    exact Or.inr ⟨rfl, fun k w => hl (fw_fin hR h k a b ha.1 ha.2 w)⟩
