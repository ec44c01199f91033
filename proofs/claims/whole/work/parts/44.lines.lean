/-! the reference: layLines -/
def plM (M : xM) (t i : Int) : Int := M 7 (t * 6 + i)
def mtL (f : Int → Int) (P : Int → Int → Prop) : Prop := ∀ a b, 0 ≤ a → a < 10 → 0 ≤ b → b < 10 → (f (10 * a + b) = 0 ∨ f (10 * a + b) = 1) ∧ (f (10 * a + b) ≠ 0 ↔ P a b)
def mtD (f : Int → Int) (R : Int → Int → Prop) : Prop := ∀ a b, 0 ≤ a → a < 10 → 0 ≤ b → b < 10 → (0 ≤ f (10 * a + b) ∧ f (10 * a + b) ≤ 100) ∧ isD R a b (if f (10 * a + b) < 100 then f (10 * a + b) else -1)
def f_X6_layLines (s : Int) (M : xM) (Post : xR) : Prop := wM M ∧ (0 ≤ s ∧ s < 64) ∧ (∀ t i, 0 ≤ t → t < M 0 0 → tb s t → 0 ≤ i → i < M 1 t → 0 ≤ plM M t i ∧ plM M t i < 10) ∧ ∀ M' : xM, (∀ c, c ≠ 8 → c ≠ 9 → M' c = M c) → mtL (M' 8) (Adj (SM M) (tb s) (plM M)) → mtD (M' 9) (Adj (SM M) (tb s) (plM M)) → Post 0 M'
def PL (S : dS) (s : Int) (pl : Int → Int → Int) (t i x y : Int) : Prop := (∃ u, 0 ≤ u ∧ u < t ∧ tb s u ∧ LnT S pl u x y) ∨ (tb s t ∧ ∃ j, 0 ≤ j ∧ j + 1 < i ∧ (pl t j = x ∧ pl t (j + 1) = y ∨ pl t j = y ∧ pl t (j + 1) = x))
theorem PL_0 {S : dS} {s : Int} {pl : Int → Int → Int} {x y : Int} : ¬ PL S s pl 0 1 x y := by
  rintro (⟨u, a, b, -⟩ | ⟨-, j, a, b, -⟩) <;> omega
theorem PL_end {S : dS} {s : Int} {pl : Int → Int → Int} {t i x y : Int} (ht : 0 ≤ t) (h : (S.2.1 t ≤ i ∧ (i ≤ S.2.1 t ∨ i = 1)) ∨ ¬ tb s t) : PL S s pl (t + 1) 1 x y ↔ PL S s pl t i x y := by
  constructor
  · rintro (⟨u, a, b, c, d⟩ | ⟨-, j, a, b, -⟩)
    · by_cases hu : u = t
      · subst hu
        rcases h with h | h
        · obtain ⟨j, j0, j1, j2⟩ := d
          exact Or.inr ⟨c, j, j0, by omega, j2⟩
        · exact (h c).elim
      · exact Or.inl ⟨u, a, by omega, c, d⟩
    · omega
  · rintro (⟨u, a, b, c, d⟩ | ⟨c, j, a, b, d⟩)
    · exact Or.inl ⟨u, a, by omega, c, d⟩
    · rcases h with h | h
      · exact Or.inl ⟨t, ht, by omega, c, j, a, by omega, d⟩
      · exact (h c).elim
theorem PL_step {S : dS} {s : Int} {pl : Int → Int → Int} {t i x y : Int} (hi : 1 ≤ i) (h : tb s t) : PL S s pl t (i + 1) x y ↔ PL S s pl t i x y ∨ (pl t (i - 1) = x ∧ pl t i = y ∨ pl t (i - 1) = y ∧ pl t i = x) := by
  constructor
  · rintro (a | ⟨c, j, a, b, d⟩)
    · exact Or.inl (Or.inl a)
    · by_cases hj : j + 1 < i
      · exact Or.inl (Or.inr ⟨c, j, a, hj, d⟩)
      · have e : j = i - 1 := by omega
        subst e
        rw [show i - 1 + 1 = i by omega] at d
        exact Or.inr d
  · rintro ((a | ⟨c, j, a, b, d⟩) | d)
    · exact Or.inl a
    · exact Or.inr ⟨c, j, a, by omega, d⟩
    · exact Or.inr ⟨h, i - 1, by omega, by omega, by rw [show i - 1 + 1 = i by omega]; exact d⟩
theorem PL_all {S : dS} {s : Int} {pl : Int → Int → Int} {t x y : Int} (h : t = S.1) : PL S s pl t 1 x y ↔ Adj S (tb s) pl x y := by
  subst h
  constructor
  · rintro (⟨u, a, b, c, d⟩ | ⟨-, j, a, b, -⟩)
    · exact ⟨u, ⟨a, b⟩, c, d⟩
    · omega
  · rintro ⟨u, ⟨a, b⟩, c, d⟩
    exact Or.inl ⟨u, a, b, c, d⟩
def D0 (f : Int → Int) (a b : Int) : Int := if a = b then 0 else if f (10 * a + b) = 0 then 100 else 1
theorem D0_I {f : Int → Int} {R : Int → Int → Prop} (hR : in10 R) (h : mtL f R) : fwI R (D0 f) 0 := by
  refine ⟨fun a b a0 a1 b0 b1 => ?_, fun a b r => ?_, fun a b c _ _ _ _ _ _ => by omega, fun a x a0 a1 x0 x1 p q => ?_⟩
  · unfold D0
    split
    · exact ⟨by omega, fun _ => rfl, fun z => (z (by assumption)).elim⟩
    · split
      · exact ⟨by omega, fun z => by omega, fun _ => by omega⟩
      · exact ⟨by omega, fun z => by omega, fun _ => by omega⟩
  · have hr := hR a b r
    have := (h a b hr.1.1 hr.1.2 hr.2.1 hr.2.2).2.mpr r
    unfold D0
    split
    · omega
    · omega
  · have hL := h a x a0 a1 x0 x1
    unfold D0 at p q
    by_cases hax : a = x
    · rw [if_pos hax] at p; omega
    · rw [if_neg hax] at p q
      by_cases hz : f (10 * a + x) = 0
      · rw [if_pos hz] at q; omega
      · refine ⟨a, ⟨a0, a1⟩, hL.2.mp hz, ?_⟩
        unfold D0
        rw [if_pos rfl, if_neg hax, if_neg hz]
        omega
theorem fw_row {R : Int → Int → Prop} {D : Int → Int → Int} (hR : in10 R) (h0 : fwI R D 0) {c : Nat} (hc : c < 10) {a : Int} (ha : 0 ≤ a ∧ a < 10) : fwD D (c + 1) a c = fwD D c a c ∧ fwD D (c + 1) c a = fwD D c c a := by
  have h := fw_all hR h0 c (by omega)
  have k := (h.1 c c (by omega) (by omega) (by omega) (by omega)).2.1 rfl
  have k1 := (h.1 a c ha.1 ha.2 (by omega) (by omega)).1
  have k2 := (h.1 c a (by omega) (by omega) ha.1 ha.2).1
  simp only [fwD]
  rw [k]
  omega
def mtF (f : Int → Int) (D : Int → Int → Int) (c : Nat) (a b : Int) : Prop := ∀ x y, 0 ≤ x → x < 10 → 0 ≤ y → y < 10 → ((x < a ∨ x = a ∧ y < b) → f (10 * x + y) = fwD D (c + 1) x y) ∧ (¬ (x < a ∨ x = a ∧ y < b) → f (10 * x + y) = fwD D c x y)
theorem mtF_step {R : Int → Int → Prop} {D : Int → Int → Int} (hR : in10 R) (h0 : fwI R D 0) {c : Nat} (hc : c < 10) {N : xM} {a b v : Int} (ha : 0 ≤ a ∧ a < 10) (hb : 0 ≤ b ∧ b < 10) (h : mtF (N 9) D c a b) (hv : v = min (N 9 (10 * a + b)) (N 9 (10 * a + c) + N 9 (10 * c + b))) : mtF ((xup N 9 (10 * a + b) v) 9) D c a (b + 1) := by
  have e1 : N 9 (10 * a + b) = fwD D c a b := (h a b ha.1 ha.2 hb.1 hb.2).2 (by omega)
  have e2 : N 9 (10 * a + c) = fwD D c a c := by
    have := h a c ha.1 ha.2 (by omega) (by omega)
    by_cases q : (a < a ∨ a = a ∧ (c : Int) < b)
    · rw [this.1 q]; exact (fw_row hR h0 hc ha).1
    · exact this.2 q
  have e3 : N 9 (10 * c + b) = fwD D c c b := by
    have := h c b (by omega) (by omega) hb.1 hb.2
    by_cases q : ((c : Int) < a ∨ (c : Int) = a ∧ b < b)
    · rw [this.1 q]; exact (fw_row hR h0 hc hb).2
    · exact this.2 q
  intro x y x0 x1 y0 y1
  rw [xup_at]
  have hxy := h x y x0 x1 y0 y1
  by_cases hq : x = a ∧ y = b
  · obtain ⟨rfl, rfl⟩ := hq
    rw [if_pos rfl]
    refine ⟨fun _ => ?_, fun z => by omega⟩
    rw [hv, e1, e2, e3]
    rfl
  · rw [if_neg (by omega)]
    refine ⟨fun z => hxy.1 (by omega), fun z => hxy.2 (by omega)⟩
theorem mtF_next {f : Int → Int} {D : Int → Int → Int} {c : Nat} {a b : Int} (hb : b = 10) (h : mtF f D c a b) : mtF f D c (a + 1) 0 := by
  intro x y x0 x1 y0 y1
  have := h x y x0 x1 y0 y1
  exact ⟨fun z => this.1 (by omega), fun z => this.2 (by omega)⟩
abbrev sp_X6_layLines : xT := spV1 0 f_X6_layLines
set_option maxRecDepth 100000 in
set_option maxHeartbeats 4000000 in
theorem b_X6_layLines (as : List xV) (M : xM) (Post : xR) (h : sp_X6_layLines as M Post) : as.length ≤ 6 ∧ ∃ (Inv : xG) (μ : Nat → xL → List xV → xM → Nat) (f0 f1 : Nat), xw LM fldX6 calX6_layLines [] 0 Post iX6_layLines cutX6_layLines Inv f0 0 (xlv as 6) [] M ∧ ∀ pc lv st M', Inv pc lv st M' → xw LM fldX6 calX6_layLines [] 0 Post iX6_layLines cutX6_layLines (fun pc2 lv2 st2 M2 => Inv pc2 lv2 st2 M2 ∧ μ pc2 lv2 st2 M2 < μ pc lv st M') f1 pc lv st M' := by
  obtain ⟨v1, rfl, h⟩ := h
  refine ⟨by simp, (fun pc lv st N => (∃ (k : Int) (o3 o4 o5 : Option xV), pc = 2 ∧ lv = [some (.inr 0), some (.inl v1), some (.inl k), o3, o4, o5] ∧ st = [] ∧ (0 ≤ k ∧ k ≤ 100) ∧ (∀ c, c ≠ 8 → N c = M c) ∧ ∀ j, 0 ≤ j → j < k → N 8 j = 0) ∨ (∃ (t : Int) (o3 o4 o5 : Option xV), pc = 23 ∧ lv = [some (.inr 0), some (.inl v1), some (.inl t), o3, o4, o5] ∧ st = [] ∧ (0 ≤ t ∧ t ≤ M 0 0) ∧ (∀ c, c ≠ 8 → N c = M c) ∧ mtL (N 8) (PL (SM M) v1 (plM M) t 1)) ∨ (∃ (t i : Int) (o4 o5 : Option xV), pc = 33 ∧ lv = [some (.inr 0), some (.inl v1), some (.inl t), some (.inl i), o4, o5] ∧ st = [] ∧ (0 ≤ t ∧ t < M 0 0) ∧ (1 ≤ i ∧ (i ≤ M 1 t ∨ i = 1)) ∧ (∀ c, c ≠ 8 → N c = M c) ∧ mtL (N 8) (PL (SM M) v1 (plM M) t i)) ∨ (∃ (k : Int) (o3 o4 o5 : Option xV), pc = 122 ∧ lv = [some (.inr 0), some (.inl v1), some (.inl k), o3, o4, o5] ∧ st = [] ∧ (0 ≤ k ∧ k ≤ 100) ∧ (∀ c, c ≠ 8 → c ≠ 9 → N c = M c) ∧ mtL (N 8) (Adj (SM M) (tb v1) (plM M)) ∧ ∀ a b, 0 ≤ a → a < 10 → 0 ≤ b → b < 10 → 10 * a + b < k → N 9 (10 * a + b) = D0 (N 8) a b) ∨ (∃ (c : Nat) (o3 o4 o5 : Option xV), pc = 172 ∧ lv = [some (.inr 0), some (.inl v1), some (.inl (c : Int)), o3, o4, o5] ∧ st = [] ∧ c ≤ 10 ∧ (∀ c, c ≠ 8 → c ≠ 9 → N c = M c) ∧ mtL (N 8) (Adj (SM M) (tb v1) (plM M)) ∧ mtF (N 9) (D0 (N 8)) c 0 0) ∨ (∃ (c : Nat) (a : Int) (o4 o5 : Option xV), pc = 180 ∧ lv = [some (.inr 0), some (.inl v1), some (.inl (c : Int)), some (.inl a), o4, o5] ∧ st = [] ∧ c < 10 ∧ (0 ≤ a ∧ a ≤ 10) ∧ (∀ c, c ≠ 8 → c ≠ 9 → N c = M c) ∧ mtL (N 8) (Adj (SM M) (tb v1) (plM M)) ∧ mtF (N 9) (D0 (N 8)) c a 0) ∨ (∃ (c : Nat) (a b : Int) (o5 : Option xV), pc = 189 ∧ lv = [some (.inr 0), some (.inl v1), some (.inl (c : Int)), some (.inl a), some (.inl b), o5] ∧ st = [] ∧ c < 10 ∧ (0 ≤ a ∧ a < 10) ∧ (0 ≤ b ∧ b ≤ 10) ∧ (∀ c, c ≠ 8 → c ≠ 9 → N c = M c) ∧ mtL (N 8) (Adj (SM M) (tb v1) (plM M)) ∧ mtF (N 9) (D0 (N 8)) c a b)), (fun pc lv st N => match pc, lv with | 2, [_, _, some (.inl k), _, _, _] => (100000 + 200 - k).toNat | 23, [_, _, some (.inl t), _, _, _] => (50000 + (7 - t) * 100).toNat | 33, [_, _, some (.inl t), some (.inl i), _, _] => (50000 + (6 - t) * 100 + 50 - i).toNat | 122, [_, _, some (.inl k), _, _, _] => (20000 + 200 - k).toNat | 172, [_, _, some (.inl c), _, _, _] => ((11 - c) * 1000).toNat | 180, [_, _, some (.inl c), some (.inl a), _, _] => ((10 - c) * 1000 + (11 - a) * 20).toNat | 189, [_, _, some (.inl c), some (.inl a), some (.inl b), _] => ((10 - c) * 1000 + (10 - a) * 20 + 11 - b).toNat | _, _ => 0), 400, 400, Eq.mpr (vcX6_layLines_0 ..) ?_, ?_⟩
  · exact Or.inl ⟨0, none, none, none, rfl, rfl, rfl, by omega, fun _ _ => rfl, fun j _ _ => by omega⟩
  · obtain ⟨hw, hs, hb, hp⟩ := h
    have hn := hw.1
    have hR : in10 (Adj (SM M) (tb v1) (plM M)) := by
      rintro x y ⟨t, h1, h2, i, i0, i1, i2⟩
      have b1 := hb t i h1.1 h1.2 h2 i0 (by have : i + 1 < M 1 t := i1; omega)
      have b2 := hb t (i + 1) h1.1 h1.2 h2 (by omega) i1
      rcases i2 with ⟨e1, e2⟩ | ⟨e1, e2⟩ <;> rw [← e1, ← e2]
      · exact ⟨b1, b2⟩
      · exact ⟨b2, b1⟩
    rintro pc lv st N (⟨k, o3, o4, o5, rfl, rfl, rfl, a1, a2, a3⟩ | ⟨t, o3, o4, o5, rfl, rfl, rfl, a1, a2, a3⟩ | ⟨t, i, o4, o5, rfl, rfl, rfl, a1, a2, a3, a4⟩ | ⟨k, o3, o4, o5, rfl, rfl, rfl, a1, a2, a3, a4⟩ | ⟨c, o3, o4, o5, rfl, rfl, rfl, a1, a2, a3, a4⟩ | ⟨c, a, o4, o5, rfl, rfl, rfl, a1, a2, a3, a4, a5⟩ | ⟨c, a, b, o5, rfl, rfl, rfl, a1, a2, a3, a4, a5, a6⟩)
    · refine Eq.mpr (vcX6_layLines_2 ..) ?_
      refine ⟨⟨by omega, by omega⟩, ⟨by omega, by omega⟩, fun q => ⟨Or.inr (Or.inl ⟨0, _, _, _, rfl, rfl, rfl, by omega, a2, fun a b b0 b1 b2 b3 => ?_⟩), by (change Int.toNat _ < Int.toNat _); omega⟩, fun q => ⟨by omega, Or.inl rfl, Or.inl ⟨k + 1, _, _, _, rfl, rfl, rfl, by omega, fun c hc => by rw [xup_ne hc]; exact a2 c hc, fun j j0 j1 => ?_⟩, by (change Int.toNat _ < Int.toNat _); omega⟩⟩
      · rw [a3 (10 * a + b) (by omega) (by omega)]
        exact ⟨Or.inl rfl, fun z => (z rfl).elim, fun z => (PL_0 z).elim⟩
      · rw [xup_at]
        split
        · rfl
        · exact a3 j j0 (by omega)
    · refine Eq.mpr (vcX6_layLines_23 ..) ?_
      rw [a2 0 (by decide)]
      refine ⟨⟨by omega, by omega⟩, ⟨by omega, by omega⟩, fun q => ⟨Or.inr (Or.inr (Or.inr (Or.inl ⟨0, _, _, _, rfl, rfl, rfl, by omega, fun c hc _ => a2 c hc, fun a b b0 b1 b2 b3 => ?_, fun a b _ _ _ _ _ => by omega⟩))), by (change Int.toNat _ < Int.toNat _); omega⟩, fun q => ⟨Or.inr (Or.inr (Or.inl ⟨t, 1, _, _, rfl, rfl, rfl, by omega, by omega, a2, a3⟩)), by (change Int.toNat _ < Int.toNat _); omega⟩⟩
      have := a3 a b b0 b1 b2 b3
      exact ⟨this.1, this.2.trans (PL_all (S := SM M) (show t = M 0 0 by omega))⟩
    · refine Eq.mpr (vcX6_layLines_33 ..) ?_
      have hl := hw.2.1 t (by omega) (by omega)
      have hbit := bs_bit (x := v1) (i := t) ⟨by omega, by omega⟩ ⟨by omega, by omega⟩
      generalize (xi (xi v1 >>> (xi t &&& 31)).toInt &&& xi 1).toInt = z at hbit ⊢
      rw [a3 1 (by decide), a3 7 (by decide)]
      have nxt : (M 1 t ≤ i ∨ ¬ tb v1 t) → mtL (N 8) (PL (SM M) v1 (plM M) (t + 1) 1) := by
        intro hc x y x0 x1 y0 y1
        have := a4 x y x0 x1 y0 y1
        refine ⟨this.1, this.2.trans (PL_end (S := SM M) a1.1 ?_).symm⟩
        rcases hc with z | z
        · exact Or.inl ⟨z, a2.2⟩
        · exact Or.inr z
      refine ⟨⟨by omega, by omega⟩, ⟨by omega, by omega⟩, ⟨by omega, by omega⟩, fun q => ⟨Or.inr (Or.inl ⟨t + 1, _, _, _, rfl, rfl, rfl, by omega, a3, nxt (Or.inl q)⟩), by (change Int.toNat _ < Int.toNat _); omega⟩, fun q => ⟨⟨by omega, by omega⟩, ⟨by omega, by omega⟩, fun q1 => ⟨Or.inr (Or.inl ⟨t + 1, _, _, _, rfl, rfl, rfl, by omega, a3, nxt (Or.inr (hbit.elim (fun y => (q1 y.1).elim) (fun y => y.2)))⟩), by (change Int.toNat _ < Int.toNat _); omega⟩, fun q1 => ?_⟩⟩
      have htb : tb v1 t := hbit.elim (fun y => y.2) (fun y => by omega)
      have p1 := hb t (i - 1) a1.1 a1.2 htb (by omega) (by omega)
      have p2 := hb t i a1.1 a1.2 htb (by omega) q
      have stp := fun x y => PL_step (S := SM M) (s := v1) (pl := plM M) (t := t) (i := i) (x := x) (y := y) a2.1 htb
      rw [show 6 * t + i - 1 = t * 6 + (i - 1) by omega, show 6 * t + i = t * 6 + i by omega]
      change 0 ≤ M 7 (t * 6 + (i - 1)) ∧ M 7 (t * 6 + (i - 1)) < 10 at p1
      change 0 ≤ M 7 (t * 6 + i) ∧ M 7 (t * 6 + i) < 10 at p2
      unfold plM at stp
      generalize ea : M 7 (t * 6 + (i - 1)) = a at p1 stp ⊢
      generalize eb : M 7 (t * 6 + i) = b at p2 stp ⊢
      refine ⟨⟨by omega, by omega⟩, ⟨by omega, by omega⟩, ⟨by omega, by omega⟩, Or.inr rfl, ⟨by omega, by omega⟩, Or.inr rfl, Or.inr (Or.inr (Or.inl ⟨t, i + 1, _, _, rfl, rfl, rfl, a1, by omega, fun c hc => by rw [xup_ne hc, xup_ne hc]; exact a3 c hc, fun x y x0 x1 y0 y1 => ?_⟩)), by (change Int.toNat _ < Int.toNat _); omega⟩
      have hxy := a4 x y x0 x1 y0 y1
      have hst := stp x y
      rw [xup_at, xup_at]
      by_cases c1 : x = b ∧ y = a
      · rw [if_pos (by omega)]
        exact ⟨Or.inr rfl, fun _ => hst.mpr (Or.inr (Or.inr ⟨c1.2.symm, c1.1.symm⟩)), fun _ => by omega⟩
      · rw [if_neg (by omega)]
        by_cases c2 : x = a ∧ y = b
        · rw [if_pos (by omega)]
          exact ⟨Or.inr rfl, fun _ => hst.mpr (Or.inr (Or.inl ⟨c2.1.symm, c2.2.symm⟩)), fun _ => by omega⟩
        · rw [if_neg (by omega)]
          refine ⟨hxy.1, fun z => hst.mpr (Or.inl (hxy.2.mp z)), fun z => ?_⟩
          rcases hst.mp z with y' | ⟨y1', y2'⟩ | ⟨y1', y2'⟩
          · exact hxy.2.mpr y'
          · exact (c2 ⟨y1'.symm, y2'.symm⟩).elim
          · exact (c1 ⟨y2'.symm, y1'.symm⟩).elim
    · refine Eq.mpr (vcX6_layLines_122 ..) ?_
      have upd : ∀ v : Int, k < 100 → v = D0 (N 8) (k / 10) (k % 10) → (∃ (k' : Int) (o3 o4 o5 : Option xV), (122 : Nat) = 122 ∧ True) → (∀ c, c ≠ 8 → c ≠ 9 → (xup N 9 k v) c = M c) ∧ mtL ((xup N 9 k v) 8) (Adj (SM M) (tb v1) (plM M)) ∧ ∀ a b, 0 ≤ a → a < 10 → 0 ≤ b → b < 10 → 10 * a + b < k + 1 → (xup N 9 k v) 9 (10 * a + b) = D0 ((xup N 9 k v) 8) a b := by
        intro v hk hv _
        have e8 : (xup N 9 k v) 8 = N 8 := xup_ne (by decide)
        refine ⟨fun c h1 h2 => by rw [xup_ne h2]; exact a2 c h1 h2, by rw [e8]; exact a3, fun a b b0 b1 b2 b3 b4 => ?_⟩
        rw [e8, xup_at]
        by_cases hq : 10 * a + b = k
        · rw [if_pos hq, hv, show k / 10 = a by omega, show k % 10 = b by omega]
        · rw [if_neg hq]; exact a4 a b b0 b1 b2 b3 (by omega)
      refine ⟨⟨by omega, by omega⟩, ⟨by omega, by omega⟩, fun q => ⟨Or.inr (Or.inr (Or.inr (Or.inr (Or.inl ⟨0, _, _, _, rfl, rfl, rfl, by omega, a2, a3, fun x y x0 x1 y0 y1 => ⟨fun z => by omega, fun _ => a4 x y x0 x1 y0 y1 (by omega)⟩⟩)))), by (change Int.toNat _ < Int.toNat _); omega⟩, fun q => ⟨⟨by omega, by omega, by omega, by omega⟩, ⟨by omega, by omega, by omega, by omega⟩, ⟨by omega, by omega⟩, ⟨by omega, by omega⟩, fun q1 => ⟨⟨by omega, by omega⟩, ?_, fun q2 => ⟨⟨by omega, by omega⟩, ?_⟩, fun q2 => ⟨⟨by omega, by omega⟩, ?_⟩⟩, fun q1 => ⟨⟨by omega, by omega⟩, ?_⟩⟩⟩
      · have := (a3 (k / 10) (k % 10) (by omega) (by omega) (by omega) (by omega)).1
        rw [show 10 * (k / 10) + k % 10 = k by omega] at this
        exact ⟨by omega, by omega⟩
      · have := upd 100 q (by unfold D0; rw [if_neg q1, show 10 * (k / 10) + k % 10 = k by omega, if_pos q2]) ⟨0, none, none, none, rfl, trivial⟩
        exact ⟨Or.inr (Or.inr (Or.inr (Or.inl ⟨k + 1, _, _, _, rfl, rfl, rfl, by omega, this⟩))), by (change Int.toNat _ < Int.toNat _); omega⟩
      · have := upd 1 q (by unfold D0; rw [if_neg q1, show 10 * (k / 10) + k % 10 = k by omega, if_neg q2]) ⟨0, none, none, none, rfl, trivial⟩
        exact ⟨Or.inr (Or.inr (Or.inr (Or.inl ⟨k + 1, _, _, _, rfl, rfl, rfl, by omega, this⟩))), by (change Int.toNat _ < Int.toNat _); omega⟩
      · have := upd 0 q (by unfold D0; rw [if_pos q1]) ⟨0, none, none, none, rfl, trivial⟩
        exact ⟨Or.inr (Or.inr (Or.inr (Or.inl ⟨k + 1, _, _, _, rfl, rfl, rfl, by omega, this⟩))), by (change Int.toNat _ < Int.toNat _); omega⟩
    · refine Eq.mpr (vcX6_layLines_172 ..) ?_
      have h0 := D0_I hR a3
      refine ⟨⟨by omega, by omega⟩, ⟨by omega, by omega⟩, fun q => hp N a2 a3 (fun a b b0 b1 b2 b3 => ?_), fun q => ⟨Or.inr (Or.inr (Or.inr (Or.inr (Or.inr (Or.inl ⟨c, 0, _, _, rfl, rfl, rfl, by omega, by omega, a2, a3, a4⟩))))), by (change Int.toNat _ < Int.toNat _); omega⟩⟩
      have e := (a4 a b b0 b1 b2 b3).2 (by omega)
      have hc : c = 10 := by omega
      subst hc
      have h10 := fw_all hR h0 10 (by omega)
      rw [e]
      exact ⟨(h10.1 a b b0 b1 b2 b3).1, fw_isD hR h10 ⟨b0, b1⟩ ⟨b2, b3⟩⟩
    · refine Eq.mpr (vcX6_layLines_180 ..) ?_
      refine ⟨⟨by omega, by omega⟩, ⟨by omega, by omega⟩, fun q => ⟨Or.inr (Or.inr (Or.inr (Or.inr (Or.inl ⟨c + 1, _, _, _, rfl, rfl, rfl, by omega, a3, a4, fun x y x0 x1 y0 y1 => ⟨fun z => by omega, fun _ => (a5 x y x0 x1 y0 y1).1 (by omega)⟩⟩)))), by (change Int.toNat _ < Int.toNat _); omega⟩, fun q => ⟨Or.inr (Or.inr (Or.inr (Or.inr (Or.inr (Or.inr ⟨c, a, 0, _, rfl, rfl, rfl, a1, by omega, by omega, a3, a4, a5⟩))))), by (change Int.toNat _ < Int.toNat _); omega⟩⟩
    · refine Eq.mpr (vcX6_layLines_189 ..) ?_
      have h0 := D0_I hR a5
      have hc := fw_all hR h0 c (by omega)
      have hc1 := fw_all hR h0 (c + 1) (by omega)
      have val : ∀ x y, 0 ≤ x → x < 10 → 0 ≤ y → y < 10 → 0 ≤ N 9 (10 * x + y) ∧ N 9 (10 * x + y) ≤ 100 := fun x y x0 x1 y0 y1 => by
        have := a6 x y x0 x1 y0 y1
        by_cases z : x < a ∨ x = a ∧ y < b
        · rw [this.1 z]; exact (hc1.1 x y x0 x1 y0 y1).1
        · rw [this.2 z]; exact (hc.1 x y x0 x1 y0 y1).1
      refine ⟨⟨by omega, by omega⟩, ⟨by omega, by omega⟩, fun q => ⟨Or.inr (Or.inr (Or.inr (Or.inr (Or.inr (Or.inl ⟨c, a + 1, _, _, rfl, rfl, rfl, a1, by omega, a4, a5, mtF_next (by omega) a6⟩))))), by (change Int.toNat _ < Int.toNat _); omega⟩, fun q => ?_⟩
      have v1' := val a c (by omega) (by omega) (by omega) (by omega)
      have v2' := val c b (by omega) (by omega) (by omega) (by omega)
      have v3' := val a b (by omega) (by omega) (by omega) (by omega)
      have fin : ∀ (v : Int) (o : Option xV), v = min (N 9 (10 * a + b)) (N 9 (10 * a + c) + N 9 (10 * c + b)) → ∃ (c' : Nat) (a' b' : Int) (o5 : Option xV), (189 : Nat) = 189 ∧ ([some (.inr 0), some (.inl v1), some (.inl (c : Int)), some (.inl a), some (.inl (b + 1)), o] : xL) = [some (.inr 0), some (.inl v1), some (.inl (c' : Int)), some (.inl a'), some (.inl b'), o5] ∧ ([] : List xV) = [] ∧ c' < 10 ∧ (0 ≤ a' ∧ a' < 10) ∧ (0 ≤ b' ∧ b' ≤ 10) ∧ (∀ d, d ≠ 8 → d ≠ 9 → (xup N 9 (10 * a + b) v) d = M d) ∧ mtL ((xup N 9 (10 * a + b) v) 8) (Adj (SM M) (tb v1) (plM M)) ∧ mtF ((xup N 9 (10 * a + b) v) 9) (D0 ((xup N 9 (10 * a + b) v) 8)) c' a' b' := by
        intro v o hv
        have e8 : (xup N 9 (10 * a + b) v) 8 = N 8 := xup_ne (by decide)
        refine ⟨c, a, b + 1, o, rfl, rfl, rfl, a1, a2, by omega, fun d h1 h2 => by rw [xup_ne h2]; exact a4 d h1 h2, by rw [e8]; exact a5, ?_⟩
        rw [e8]
        exact mtF_step hR h0 a1 a2 ⟨by omega, by omega⟩ a6 hv
      refine ⟨⟨by omega, by omega⟩, ⟨by omega, by omega⟩, ⟨by omega, by omega⟩, ⟨by omega, by omega⟩, ⟨by omega, by omega⟩, fun q1 => ⟨⟨by omega, by omega⟩, ⟨by omega, by omega⟩, Or.inr (Or.inr (Or.inr (Or.inr (Or.inr (Or.inr (fin _ _ (by omega))))))), by (change Int.toNat _ < Int.toNat _); omega⟩, fun q1 => ⟨⟨by omega, by omega⟩, Or.inr (Or.inr (Or.inr (Or.inr (Or.inr (Or.inr (fin _ _ (by omega))))))), by (change Int.toNat _ < Int.toNat _); omega⟩⟩
theorem k_X6_layLines {l : Launch} {D : va_G} {T : Nat → ClassId} {ad : Nat → Nat} (hO : xOk ad LM) : xMet l D T ad LM yX6_layLines cX6_layLines 6 none true 0 sp_X6_layLines :=
  xmet (rt := 0) (fld := fldX6) (cals := calX6_layLines) (cst := []) (I := iX6_layLines) (cut := cutX6_layLines) hO (by decide +kernel) ⟨by decide, by decide, by decide⟩ oX6_layLines foX6 (fun _ h => absurd h List.not_mem_nil) (fun _ h => absurd h List.not_mem_nil) b_X6_layLines

