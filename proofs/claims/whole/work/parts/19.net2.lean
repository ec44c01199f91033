/-! Net: way, draw, isShortest, fits, takeUp -/
theorem or2 {x y : Int} (hx : 0 ≤ x ∧ x < 1024) (hy : 0 ≤ y ∧ y < 1024) : (0 ≤ (xi x ||| xi y).toInt ∧ (xi x ||| xi y).toInt < 1024) ∧ ∀ n, tb (xi x ||| xi y).toInt n ↔ tb x n ∨ tb y n := by
  obtain ⟨a, rfl⟩ : ∃ a : Nat, x = a := ⟨x.toNat, by omega⟩
  obtain ⟨b, rfl⟩ : ∃ b : Nat, y = b := ⟨y.toNat, by omega⟩
  rw [bs_or (by omega) (by omega)]
  have := Nat.or_lt_two_pow (x := a) (y := b) (n := 10) (by omega) (by omega)
  exact ⟨⟨by omega, by omega⟩, fun n => tb_or⟩
theorem wS_eq {M N : xM} (h1 : N 1 = M 1) (h2 : N 2 = M 2) (h3 : N 3 = M 3) (h5 : N 5 = M 5) (h6 : N 6 = M 6) : wS N = wS M := by
  simp only [wS, wR, wT, h1, h2, h3, h5, h6]
theorem SX_eq {M N : xM} (h1 : N 1 = M 1) (h2 : N 2 = M 2) (h3 : N 3 = M 3) (h5 : N 5 = M 5) : SX N = SX M := by
  simp only [SX, h1, h2, h3, h5]
theorem plX_eq {M N : xM} (h1 : N 1 = M 1) (h2 : N 2 = M 2) (h3 : N 3 = M 3) (h5 : N 5 = M 5) (h8 : N 8 = M 8) : plX N = plX M := by
  have e : ofX N = ofX M := by
    funext u
    simp only [ofX, h2, h3]
  simp only [plX, SX, h1, h2, h3, h5, h8, e]
theorem Adj_imp {S S' : dS} {q q' : Int → Prop} {pl pl' : Int → Int → Int} (hn : S.1 = S'.1) (hl : ∀ t, 0 ≤ t → t < S.1 → S.2.1 t = S'.2.1 t) (hq : ∀ t, 0 ≤ t → t < S.1 → (q t → q' t)) (hp : ∀ t i, 0 ≤ t → t < S.1 → 0 ≤ i → i < S.2.1 t → pl t i = pl' t i) {a b : Int} (h : Adj S q pl a b) : Adj S' q' pl' a b := by
  obtain ⟨t, ht, h1, i, h2, h3, h4⟩ := h
  refine ⟨t, by rw [← hn]; exact ht, hq t ht.1 ht.2 h1, i, h2, by rw [← hl t ht.1 ht.2]; exact h3, ?_⟩
  rw [← hp t i ht.1 ht.2 h2 (by omega), ← hp t (i + 1) ht.1 ht.2 (by omega) h3]
  exact h4
theorem Adj_iff {S S' : dS} {q q' : Int → Prop} {pl pl' : Int → Int → Int} (hn : S.1 = S'.1) (hl : ∀ t, 0 ≤ t → t < S.1 → S.2.1 t = S'.2.1 t) (hq : ∀ t, 0 ≤ t → t < S.1 → (q t ↔ q' t)) (hp : ∀ t i, 0 ≤ t → t < S.1 → 0 ≤ i → i < S.2.1 t → pl t i = pl' t i) (a b : Int) : Adj S q pl a b ↔ Adj S' q' pl' a b :=
  ⟨Adj_imp hn hl (fun t h1 h2 => (hq t h1 h2).mp) hp, Adj_imp hn.symm (fun t h1 h2 => (hl t h1 (by rw [hn]; exact h2)).symm) (fun t h1 h2 => (hq t h1 (by rw [hn]; exact h2)).mpr) (fun t i h1 h2 h3 h4 => (hp t i h1 (by rw [hn]; exact h2) h3 (by rw [hl t h1 (by rw [hn]; exact h2)]; exact h4)).symm)⟩
theorem FT_imp {S S' : dS} {q q' : Int → Prop} {pl pl' : Int → Int → Int} (hn : S.1 = S'.1) (hl : ∀ t, 0 ≤ t → t < S.1 → S.2.1 t = S'.2.1 t) (hq : ∀ t, 0 ≤ t → t < S.1 → (q t ↔ q' t)) (hp : ∀ t i, 0 ≤ t → t < S.1 → 0 ≤ i → i < S.2.1 t → pl t i = pl' t i) (h : FT S q pl) : FT S' q' pl' := by
  refine ⟨fun t h1 h2 h3 => ?_, fun t h1 h2 h3 => ?_⟩
  · rw [← hn] at h2
    intro i j a b d
    rw [← hl t h1 h2] at d
    rw [← hp t i h1 h2 a (by omega), ← hp t j h1 h2 (by omega) d]
    exact h.1 t h1 h2 ((hq t h1 h2).mpr h3) i j a b d
  · rw [← hn] at h2
    intro k hk
    rw [← hl t h1 h2] at hk ⊢
    rw [← hp t 0 h1 h2 (by omega) (by omega), ← hp t _ h1 h2 (by omega) (by omega), ← wk_congr (Adj_iff hn hl hq hp)]
    exact h.2 t h1 h2 ((hq t h1 h2).mpr h3) k hk
theorem FT_iff {S S' : dS} {q q' : Int → Prop} {pl pl' : Int → Int → Int} (hn : S.1 = S'.1) (hl : ∀ t, 0 ≤ t → t < S.1 → S.2.1 t = S'.2.1 t) (hq : ∀ t, 0 ≤ t → t < S.1 → (q t ↔ q' t)) (hp : ∀ t i, 0 ≤ t → t < S.1 → 0 ≤ i → i < S.2.1 t → pl t i = pl' t i) : FT S q pl ↔ FT S' q' pl' :=
  ⟨FT_imp hn hl hq hp, FT_imp hn.symm (fun t h1 h2 => (hl t h1 (by rw [hn]; exact h2)).symm) (fun t h1 h2 => (hq t h1 (by rw [hn]; exact h2)).symm) (fun t i h1 h2 h3 h4 => (hp t i h1 (by rw [hn]; exact h2) h3 (by rw [hl t h1 (by rw [hn]; exact h2)]; exact h4)).symm)⟩
theorem trWk {S : dS} {q : Int → Prop} {pl : Int → Int → Int} {t : Int} (ht : 0 ≤ t ∧ t < S.1) (hq : q t) : ∀ i : Nat, (i : Int) < S.2.1 t → wk (Adj S q pl) i (pl t 0) (pl t i) := by
  intro i
  induction i with
  | zero => intro _; rfl
  | succ i ih =>
    intro hi
    exact ⟨pl t i, ih (by omega), t, ht, hq, i, by omega, by omega, Or.inl ⟨rfl, rfl⟩⟩
def f_X1_way (a b : Int) (M : xM) (Post : xR) : Prop := ∃ R, JN M R ∧ in10 R ∧ (0 ≤ a ∧ a < 10) ∧ (0 ≤ b ∧ b < 10) ∧ ∀ d, isD R a b d → Post d M
theorem pop_1 {x : Int} (hx : 0 ≤ x ∧ x < 1024) (hne : x ≠ 0) : 1 ≤ pop x := by
  have := pop_lt (x := 0) (y := x) ⟨by omega, by omega⟩ hx (fun i _ _ h => (tb_0 i h).elim) (fun e => hne e.symm)
  have := pop_b 0
  omega
abbrev sp_X1_way : xT := spV2 7 f_X1_way
set_option maxRecDepth 100000 in
set_option maxHeartbeats 4000000 in
theorem b_X1_way (as : List xV) (M : xM) (Post : xR) (h : sp_X1_way as M Post) : as.length ≤ 7 ∧ ∃ (Inv : xG) (μ : Nat → xL → List xV → xM → Nat) (f0 f1 : Nat), xw LX fldX1 (calX1_way sp_X5_hasBit) [] 1 Post iX1_way cutX1_way Inv f0 0 (xlv as 7) [] M ∧ ∀ pc lv st M', Inv pc lv st M' → xw LX fldX1 (calX1_way sp_X5_hasBit) [] 1 Post iX1_way cutX1_way (fun pc2 lv2 st2 M2 => Inv pc2 lv2 st2 M2 ∧ μ pc2 lv2 st2 M2 < μ pc lv st M') f1 pc lv st M' := by
  obtain ⟨v1, v2, rfl, h⟩ := h
  refine ⟨by simp, (fun pc lv st N => (∃ (R : Int → Int → Prop) (x : Int) (k : Nat) (o5 o6 : Option xV), pc = 7 ∧ lv = [some (.inr 7), some (.inl v1), some (.inl v2), some (.inl x), some (.inl (k : Int)), o5, o6] ∧ st = [] ∧ M = N ∧ JN M R ∧ in10 R ∧ (∀ d, isD R v1 v2 d → Post d M) ∧ (0 ≤ x ∧ x < 1024) ∧ (∀ y, 0 ≤ y → y < 10 → (tb x y ↔ ∃ j, j ≤ k ∧ wk R j v1 y)) ∧ (∀ j, j < k → ¬ wk R j v1 v2) ∧ (k : Int) + 1 ≤ pop x) ∨ (∃ (R : Int → Int → Prop) (x : Int) (k : Nat) (z i : Int), pc = 31 ∧ lv = [some (.inr 7), some (.inl v1), some (.inl v2), some (.inl x), some (.inl (k : Int)), some (.inl z), some (.inl i)] ∧ st = [] ∧ M = N ∧ JN M R ∧ in10 R ∧ (∀ d, isD R v1 v2 d → Post d M) ∧ (0 ≤ x ∧ x < 1024) ∧ (∀ y, 0 ≤ y → y < 10 → (tb x y ↔ ∃ j, j ≤ k ∧ wk R j v1 y)) ∧ k < 10 ∧ (k : Int) + 1 ≤ pop x ∧ ¬ tb x v2 ∧ (0 ≤ z ∧ z < 1024) ∧ (0 ≤ i ∧ i ≤ 10) ∧ ∀ y, 0 ≤ y → y < 10 → (tb z y ↔ tb x y ∨ ∃ b, 0 ≤ b ∧ b < i ∧ tb x b ∧ R b y))), (fun pc lv st N => match pc, lv with | 7, [_, _, _, _, some (.inl k), _, _] => ((11 - k) * 100).toNat | 31, [_, _, _, _, some (.inl k), _, some (.inl i)] => ((10 - k) * 100 + 50 - i).toNat | _, _ => 0), 400, 400, Eq.mpr (vcX1_way_0 ..) ?_, ?_⟩
  · obtain ⟨R, hJ, hR, ha, hb, hp⟩ := h
    obtain ⟨a, rfl⟩ : ∃ a : Nat, v1 = a := ⟨v1.toNat, by omega⟩
    have h2 : 2 ^ a < 2 ^ 10 := Nat.pow_lt_pow_right (by omega) (by omega)
    have h3 : 0 < 2 ^ a := Nat.two_pow_pos a
    refine Or.inl ⟨R, _, 0, none, none, rfl, rfl, rfl, rfl, hJ, hR, hp, ?_, fun y q1 q2 => ?_, fun j hj => by omega, ?_⟩
    all_goals rw [bs_one (by omega)]
    · omega
    · rw [tb_pow q1]
      constructor
      · intro e; exact ⟨0, by omega, e.symm⟩
      · rintro ⟨j, hj, hw⟩
        rw [show j = 0 by omega] at hw
        exact hw.symm
    · have := pop_1 (x := ((2 ^ a : Nat) : Int)) (by omega) (by omega)
      simpa using this
  · obtain ⟨-, -, -, ha, hb, -⟩ := h
    rintro pc lv st N (⟨R, x, k, o5, o6, rfl, rfl, rfl, rfl, hJ, hR, hp, h1, h2, h3, h4⟩ | ⟨R, x, k, z, i, rfl, rfl, rfl, rfl, hJ, hR, hp, h1, h2, h3, h4, h5, h6, h7, h8⟩)
    · refine Eq.mpr (vcX1_way_7 ..) ?_
      have hpb := pop_b x
      refine ⟨⟨by omega, by omega⟩, ⟨by omega, by omega⟩, fun q => by omega, fun q => ⟨_, _, rfl, ⟨by omega, by omega⟩, ⟨by omega, by omega⟩, fun r hr => ⟨⟨by omega, by omega⟩, fun q1 => ⟨Or.inr ⟨R, x, k, x, 0, rfl, rfl, rfl, rfl, hJ, hR, hp, h1, h2, by omega, h4, ?_, h1, by omega, fun y _ _ => ⟨Or.inl, ?_⟩⟩, by (change Int.toNat _ < Int.toNat _); omega⟩, fun q1 => hp k (Or.inl ⟨k, rfl, by omega, ?_, h3⟩)⟩⟩⟩
      · rcases hr with ⟨a, _⟩ | ⟨_, a⟩
        · omega
        · exact a
      · rintro (a | ⟨b, a1, a2, -⟩)
        · exact a
        · omega
      · have ht : tb x v2 := by
          rcases hr with ⟨_, a⟩ | ⟨a, _⟩
          · exact a
          · omega
        obtain ⟨j, hj, hw⟩ := (h2 v2 hb.1 hb.2).mp ht
        by_cases hjk : j = k
        · rw [← hjk]; exact hw
        · exact (h3 j (by omega) hw).elim
    · refine Eq.mpr (vcX1_way_31 ..) ?_
      refine ⟨⟨by omega, by omega⟩, ⟨by omega, by omega⟩, fun q => ⟨⟨by omega, by omega⟩, ⟨by omega, by omega⟩, fun q1 => ⟨Or.inl ⟨R, z, k + 1, _, _, rfl, rfl, rfl, rfl, hJ, hR, hp, h6, fun y a1 a2 => ?_, fun j hj hw => h5 ((h2 v2 hb.1 hb.2).mpr ⟨j, by omega, hw⟩), ?_⟩, by (change Int.toNat _ < Int.toNat _); omega⟩, fun q1 => hp (-1) (Or.inr ⟨rfl, fun j hw => ?_⟩)⟩, fun q => ⟨_, _, rfl, ⟨by omega, by omega⟩, ⟨by omega, by omega⟩, fun r hr => ⟨⟨by omega, by omega⟩, fun q1 => ⟨Or.inr ⟨R, x, k, _, i + 1, rfl, rfl, rfl, rfl, hJ, hR, hp, h1, h2, h3, h4, h5, ?_, by omega, fun y a1 a2 => ?_⟩, by (change Int.toNat _ < Int.toNat _); omega⟩, fun q1 => ⟨⟨by omega, by omega⟩, Or.inr ⟨R, x, k, _, i + 1, rfl, rfl, rfl, rfl, hJ, hR, hp, h1, h2, h3, h4, h5, ?_, by omega, fun y a1 a2 => ?_⟩, by (change Int.toNat _ < Int.toNat _); omega⟩⟩⟩⟩
      · rw [h8 y a1 a2]
        constructor
        · rintro (a | ⟨b, b1, b2, b3, b4⟩)
          · obtain ⟨j, hj, hw⟩ := (h2 y a1 a2).mp a
            exact ⟨j, by omega, hw⟩
          · obtain ⟨j, hj, hw⟩ := (h2 b b1 (by omega)).mp b3
            exact ⟨j + 1, by omega, b, hw, b4⟩
        · rintro ⟨j, hj, hw⟩
          by_cases hjk : j ≤ k
          · exact Or.inl ((h2 y a1 a2).mpr ⟨j, hjk, hw⟩)
          · have hj1 : j = k + 1 := by omega
            subst hj1
            obtain ⟨b, hw1, hr1⟩ := hw
            have hb1 := (hR b y hr1).1
            exact Or.inr ⟨b, hb1.1, by omega, (h2 b hb1.1 hb1.2).mpr ⟨k, by omega, hw1⟩, hr1⟩
      · have := pop_lt h1 h6 (fun y a1 a2 a3 => (h8 y a1 a2).mpr (Or.inl a3)) (fun e => q1 e.symm)
        omega
      · have all : ∀ (j : Nat) (y : Int), wk R j v1 y → tb x y := by
          intro j
          induction j with
          | zero =>
            intro y hw
            rw [← (show v1 = y from hw)]
            exact (h2 v1 ha.1 ha.2).mpr ⟨0, by omega, rfl⟩
          | succ j ih =>
            rintro y ⟨b, hw1, hr1⟩
            have hb1 := hR b y hr1
            rw [← q1]
            exact (h8 y hb1.2.1 hb1.2.2).mpr (Or.inr ⟨b, hb1.1.1, by omega, ih b hw1, hr1⟩)
        exact h5 (all j v2 hw)
      · rw [or0 ⟨by omega, by omega⟩]; exact h6
      · rw [or0 ⟨by omega, by omega⟩, h8 y a1 a2]
        have hnt : ¬ tb x i := by
          rcases hr with ⟨a, _⟩ | ⟨_, a⟩
          · omega
          · exact a
        constructor
        · rintro (a | ⟨b, b1, b2, b3⟩)
          · exact Or.inl a
          · exact Or.inr ⟨b, b1, by omega, b3⟩
        · rintro (a | ⟨b, b1, b2, b3, b4⟩)
          · exact Or.inl a
          · by_cases hbi : b = i
            · subst hbi; exact (hnt b3).elim
            · exact Or.inr ⟨b, b1, by omega, b3, b4⟩
      · exact (or2 h6 (hJ.1 i (by omega) q)).1
      · rw [(or2 h6 (hJ.1 i (by omega) q)).2 y, h8 y a1 a2, hJ.2 i y (by omega) q a1 a2]
        have hnt : tb x i := by
          rcases hr with ⟨_, a⟩ | ⟨a, _⟩
          · exact a
          · omega
        constructor
        · rintro ((a | ⟨b, b1, b2, b3⟩) | a)
          · exact Or.inl a
          · exact Or.inr ⟨b, b1, by omega, b3⟩
          · exact Or.inr ⟨i, by omega, by omega, hnt, a⟩
        · rintro (a | ⟨b, b1, b2, b3, b4⟩)
          · exact Or.inl (Or.inl a)
          · by_cases hbi : b = i
            · subst hbi; exact Or.inr b4
            · exact Or.inl (Or.inr ⟨b, b1, by omega, b3, b4⟩)
theorem k_X1_way {l : Launch} {D : va_G} {T : Nat → ClassId} {ad : Nat → Nat} (hO : xOk ad LX) : xMet l D T ad LX yX1_way cX1_way 7 (some .int) false 1 sp_X1_way :=
  xmet (rt := 1) (fld := fldX1) (cals := (calX1_way sp_X5_hasBit)) (cst := []) (I := iX1_way) (cut := cutX1_way) hO (by decide +kernel) ⟨by decide, by decide, by decide⟩ oX1_way foX1 (fun _ h => absurd h List.not_mem_nil) (List.forall_mem_cons.mpr ⟨⟨yX5_hasBit, cX5_hasBit, 2, (some .boolean), 0, 2, by decide, yoX5_hasBit, k_X5_hasBit hO, loX1_58, Or.inl ⟨rfl, rfl⟩⟩, fun _ h => absurd h List.not_mem_nil⟩) b_X1_way
def f_X1_isShortest (t : Int) (M : xM) (Post : xR) : Prop := wS M ∧ (0 ≤ t ∧ t < M 1 2) ∧ ∃ R, JN M R ∧ in10 R ∧ wk R (M 3 t - 1).toNat (M 5 (M 2 (t * 6))) (M 5 (M 2 (t * 6 + (M 3 t - 1)))) ∧ ∀ r, (r = 1 ∧ (∀ k : Nat, (k : Int) < M 3 t - 1 → ¬ wk R k (M 5 (M 2 (t * 6))) (M 5 (M 2 (t * 6 + (M 3 t - 1))))) ∨ r = 0 ∧ ¬ (∀ k : Nat, (k : Int) < M 3 t - 1 → ¬ wk R k (M 5 (M 2 (t * 6))) (M 5 (M 2 (t * 6 + (M 3 t - 1)))))) → Post r M
abbrev sp_X1_isShortest : xT := spV1 7 f_X1_isShortest
set_option maxRecDepth 100000 in
set_option maxHeartbeats 4000000 in
theorem b_X1_isShortest (as : List xV) (M : xM) (Post : xR) (h : sp_X1_isShortest as M Post) : as.length ≤ 5 ∧ xw LX fldX1 (calX1_isShortest sp_X2_length sp_X2_hopAt sp_X4_box sp_X1_way) [] 2 Post iX1_isShortest cutX1_isShortest (fun _ _ _ _ => False) 400 0 (xlv as 5) [] M := by
  obtain ⟨v1, rfl, h⟩ := h
  refine ⟨by simp, ?_⟩
  refine Eq.mpr (vcX1_isShortest_0 ..) ?_
  obtain ⟨hw, ht, R, hJ, hR, hk, hp⟩ := h
  have hn := hw.1.1
  have hl := hw.1.2.1 v1 ht.1 (by omega)
  obtain ⟨h1, h2, h3⟩ := hw.2.2.2 v1 ht.1 ht.2
  have h4 := hw.1.2.2 (v1 * 6) (by omega) (by omega)
  have h5 := hw.1.2.2 (v1 * 6 + (M 3 v1 - 1)) (by omega) (by omega)
  have h6 := hw.2.1.1 (M 2 (v1 * 6)) (by omega) (by omega)
  have h7 := hw.2.1.1 (M 2 (v1 * 6 + (M 3 v1 - 1))) (by omega) (by omega)
  refine ⟨_, rfl, ⟨by omega, by omega⟩, _, _, rfl, ⟨by omega, by omega⟩, ⟨by omega, by omega⟩, ?_⟩
  rw [Int.add_zero]
  refine ⟨_, rfl, ⟨by omega, by omega⟩, _, _, rfl, ⟨by omega, by omega⟩, ⟨by omega, by omega⟩, _, rfl, ⟨by omega, by omega⟩, _, _, rfl, R, hJ, hR, ⟨by omega, by omega⟩, ⟨by omega, by omega⟩, fun d hd => ?_⟩
  rcases hd with ⟨k, rfl, hk9, hk1, hk2⟩ | ⟨rfl, hk1⟩
  · refine ⟨⟨by omega, by omega⟩, ⟨by omega, by omega⟩, fun q => ⟨by omega, hp 0 (Or.inr ⟨rfl, fun z => z k q hk1⟩)⟩, fun q => ⟨by omega, hp 1 (Or.inl ⟨rfl, fun j hj => hk2 j (by omega)⟩)⟩⟩
  · exact (hk1 _ hk).elim
theorem k_X1_isShortest {l : Launch} {D : va_G} {T : Nat → ClassId} {ad : Nat → Nat} (hO : xOk ad LX) : xMet l D T ad LX yX1_isShortest cX1_isShortest 5 (some .boolean) false 2 sp_X1_isShortest :=
  xmet0 (rt := 2) (fld := fldX1) (cals := (calX1_isShortest sp_X2_length sp_X2_hopAt sp_X4_box sp_X1_way)) (cst := []) (I := iX1_isShortest) (cut := cutX1_isShortest) hO (by decide +kernel) ⟨by decide, by decide, by decide⟩ oX1_isShortest foX1 (fun _ h => absurd h List.not_mem_nil) (List.forall_mem_cons.mpr ⟨⟨yX2_length, cX2_length, 2, (some .int), 0, 1, by decide, yoX2_length, k_X2_length hO, loX1_72, Or.inr ⟨rfl, rfl, 1, 2, [some 2, some 3, none], TX2, 3, rfl, rfl, spV1_r⟩⟩, List.forall_mem_cons.mpr ⟨⟨yX2_hopAt, cX2_hopAt, 4, (some .int), 0, 2, by decide, yoX2_hopAt, k_X2_hopAt hO, loX1_75, Or.inr ⟨rfl, rfl, 1, 2, [some 2, some 3, none], TX2, 3, rfl, rfl, spV2_r⟩⟩, List.forall_mem_cons.mpr ⟨⟨yX4_box, cX4_box, 2, (some .int), 0, 1, by decide, yoX4_box, k_X4_box hO, loX1_78, Or.inr ⟨rfl, rfl, 4, 4, [some 5, some 6, none], TX4, 3, rfl, rfl, spV1_r⟩⟩, List.forall_mem_cons.mpr ⟨⟨yX1_way, cX1_way, 7, (some .int), 1, 2, by decide, yoX1_way, k_X1_way hO, loX1_83, Or.inr ⟨rfl, rfl, 7, 1, [some 1, some 4, some 8, some 9], TX1, 4, rfl, rfl, spV2_r⟩⟩, fun _ h => absurd h List.not_mem_nil⟩⟩⟩⟩) b_X1_isShortest

