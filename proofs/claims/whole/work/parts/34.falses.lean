/-! falses -/
theorem andn {a b : Nat} (ha : a < 64) (hb : b < 64) : (xi (a : Int) &&& xi (xi (b : Int) ^^^ xi (-1)).toInt).toInt = ((a &&& (63 ^^^ b) : Nat) : Int) := by
  rw [xi_to]
  have e : xi (a : Int) &&& (xi (b : Int) ^^^ xi (-1)) = nI (a &&& (63 ^^^ b)) := by
    rw [xi_nI, xi_nI]
    apply Int32.toBitVec_inj.1
    show BitVec.ofNat 32 a &&& (BitVec.ofNat 32 b ^^^ (xi (-1)).toBitVec) = BitVec.ofNat 32 (a &&& (63 ^^^ b))
    rw [show (xi (-1)).toBitVec = BitVec.allOnes 32 by decide +kernel]
    apply BitVec.eq_of_getLsbD_eq
    intro i hi
    simp only [BitVec.getLsbD_and, BitVec.getLsbD_xor, BitVec.getLsbD_ofNat, BitVec.getLsbD_allOnes, hi, decide_true, Bool.true_and, Nat.testBit_and, Nat.testBit_xor]
    by_cases h6 : i < 6
    · have : Nat.testBit 63 i = true := by
        have := Nat.testBit_two_pow_sub_one 6 i
        rw [show (2 : Nat) ^ 6 - 1 = 63 from rfl] at this
        rw [this, decide_eq_true h6]
      rw [this]
      cases Nat.testBit a i <;> cases Nat.testBit b i <;> rfl
    · have : Nat.testBit a i = false := Nat.testBit_lt_two_pow (Nat.lt_of_lt_of_le (m := 2 ^ 6) ha (Nat.pow_le_pow_right (by omega) (by omega)))
      rw [this]
      rfl
  rw [e, bs_n]
  exact Nat.lt_of_le_of_lt Nat.and_le_left (by omega)
theorem andn_ok {a b : Int} (ha : 0 ≤ a ∧ a < 64) (hb : 0 ≤ b ∧ b < 64) : (0 ≤ (xi a &&& xi (xi b ^^^ xi (-1)).toInt).toInt ∧ (xi a &&& xi (xi b ^^^ xi (-1)).toInt).toInt < 64) ∧ ∀ t, 0 ≤ t → t < 6 → (tb (xi a &&& xi (xi b ^^^ xi (-1)).toInt).toInt t ↔ tb a t ∧ ¬ tb b t) := by
  obtain ⟨x, rfl⟩ : ∃ x : Nat, a = x := ⟨a.toNat, by omega⟩
  obtain ⟨y, rfl⟩ : ∃ y : Nat, b = y := ⟨b.toNat, by omega⟩
  rw [andn (by omega) (by omega)]
  have h1 : x &&& (63 ^^^ y) ≤ x := Nat.and_le_left
  refine ⟨by omega, fun t h0 h6 => ?_⟩
  unfold tb
  simp only [Int.toNat_natCast, Nat.testBit_and, Nat.testBit_xor]
  have : Nat.testBit 63 t.toNat = true := by
    have := Nat.testBit_two_pow_sub_one 6 t.toNat
    rw [show (2 : Nat) ^ 6 - 1 = 63 from rfl] at this
    rw [this, decide_eq_true (by omega)]
  rw [this]
  cases Nat.testBit x t.toNat <;> cases Nat.testBit y t.toNat <;> simp
/-- without the TRACES of g some NET FITS: the loosest -/
def FR (S : dS) (g : Int) : Prop := FT S (fun t => ¬ tb g t) (Pl S (fun s => 6 + s) (offS S))
def allV (S : dS) : Int := ((2 ^ S.1.toNat : Nat) : Int) - 1
def flR (S : dS) (v : Int) : Prop := ((LNs S).2.2.length ≠ 0 ∧ v = 0) ∨ ((LNs S).2.2.length = 0 ∧ (1 ≤ v ∧ v ≤ allV S) ∧ FR S v ∧ ∀ g, 1 ≤ g → g ≤ allV S → FR S g → pop v < pop g ∨ pop v = pop g ∧ v ≤ g)
theorem IX_89 {M N : xM} (hI : IX M) (h : ∀ c, c ≠ 8 → c ≠ 9 → N c = M c) : IX N := by
  have h8 : ∀ c, c < 8 → N c = M c := fun c hc => h c (by omega) (by omega)
  have e10 : N 10 = M 10 := h 10 (by decide) (by decide)
  have e12 : N 12 = M 12 := h 12 (by decide) (by decide)
  refine IX_8 hI h8 ?_ ?_
  · unfold cF
    rw [SX_8 h8, e10, stO_eq e10 (h 11 (by decide) (by decide))]
    exact hI.2.2.1
  · unfold cV
    rw [SX_8 h8, e10, e12]
    rcases hI.2.2.2 with z | ⟨z1, z2, z3⟩
    · exact Or.inl z
    · exact Or.inr ⟨z1, z2, svO_eq e12 (h 13 (by decide) (by decide)) (h 14 (by decide) (by decide)) z3⟩
theorem LN_n0 {S : dS} (hw : wfS S) (h : S.1 = 0) : (LNs S).2.2.length ≠ 0 := by
  have hm : mS S = 0 := by unfold mS; rw [h]; rfl
  have hF : Fit S [] := ⟨fun t h1 h2 => by omega, fun t h1 h2 => by omega⟩
  unfold LNs
  rw [hm]
  show (stp (Fit S) (nlL S) init0 []).2.2.length ≠ 0
  rw [stp_yes ⟨hF, Or.inl (by decide)⟩, if_pos (Or.inl (by decide))]
  exact Nat.one_ne_zero
theorem pop_le6 {x : Int} (hx : 0 ≤ x ∧ x < 64) : pop x ≤ 6 := by
  rw [pop_6 hx (P := tb x) (fun _ _ _ => Iff.rfl)]
  have := sm_one (n := 6) (f := fun b => bb (tb x (b : Int))) (fun _ _ => bb_le _)
  omega
theorem FR_all {S : dS} (hw : wfS S) : FR S (allV S) := by
  have key : ∀ t, 0 ≤ t → t < S.1 → tb (allV S) t := fun t a b => (tb_all hw.1.1 a).mpr b
  exact ⟨fun t a b c => (c (key t a b)).elim, fun t a b c => (c (key t a b)).elim⟩
def f_X5_falses (M : xM) (Post : xR) : Prop := IX M ∧ ∀ v, flR (SX M) v → qX M Post v
abbrev sp_X5_falses : xT := spV0 0 f_X5_falses
set_option maxRecDepth 100000 in
set_option maxHeartbeats 4000000 in
theorem b_X5_falses (as : List xV) (M : xM) (Post : xR) (h : sp_X5_falses as M Post) : as.length ≤ 4 ∧ ∃ (Inv : xG) (μ : Nat → xL → List xV → xM → Nat) (f0 f1 : Nat), xw LX fldX5 (calX5_falses sp_X0_many sp_X2_all sp_J6_bitCount_0f7a4 sp_X0_someFits) [] 1 Post iX5_falses cutX5_falses Inv f0 0 (xlv as 4) [] M ∧ ∀ pc lv st M', Inv pc lv st M' → xw LX fldX5 (calX5_falses sp_X0_many sp_X2_all sp_J6_bitCount_0f7a4 sp_X0_someFits) [] 1 Post iX5_falses cutX5_falses (fun pc2 lv2 st2 M2 => Inv pc2 lv2 st2 M2 ∧ μ pc2 lv2 st2 M2 < μ pc lv st M') f1 pc lv st M' := by
  obtain ⟨rfl, h⟩ := h
  refine ⟨by simp, (fun pc lv st N => (∃ (s : Int) (o3 : Option xV), pc = 22 ∧ lv = [some (.inr 0), some (.inl (allV (SX M))), some (.inl s), o3] ∧ st = [] ∧ (1 ≤ s ∧ s ≤ 7) ∧ (LNs (SX M)).2.2.length = 0 ∧ (∀ c, c < 8 → N c = M c) ∧ IX N ∧ ∀ g, 1 ≤ g → g ≤ allV (SX M) → pop g < s → ¬ FR (SX M) g) ∨ (∃ (s g0 : Int), pc = 30 ∧ lv = [some (.inr 0), some (.inl (allV (SX M))), some (.inl s), some (.inl g0)] ∧ st = [] ∧ (1 ≤ s ∧ s ≤ 6) ∧ (1 ≤ g0 ∧ g0 ≤ 64) ∧ (LNs (SX M)).2.2.length = 0 ∧ (∀ c, c < 8 → N c = M c) ∧ IX N ∧ (∀ g, 1 ≤ g → g ≤ allV (SX M) → pop g < s → ¬ FR (SX M) g) ∧ ∀ g, 1 ≤ g → g < g0 → g ≤ allV (SX M) → pop g = s → ¬ FR (SX M) g)), (fun pc lv st N => match pc, lv with | 22, [_, _, some (.inl s), _] => ((8 - s) * 1000).toNat | 30, [_, _, some (.inl s), some (.inl g)] => ((7 - s) * 1000 + 500 - g).toNat | _, _ => 0), 400, 400, Eq.mpr (vcX5_falses_0 ..) ?_, ?_⟩
  · obtain ⟨hI, hp⟩ := h
    have h369 := LN_369 (wfS_of hI.1)
    refine many_q hI (fun M1 f1 hI1 _ _ => ⟨⟨by omega, by omega⟩, fun q => ⟨rfl, hI1.1.1.1, Or.inl ⟨1, none, rfl, ?_, rfl, by omega, by omega, f1, hI1, fun g a b c => ?_⟩⟩, fun q => hp 0 (Or.inl ⟨by omega, rfl⟩) M1 f1 hI1⟩)
    · rw [f1 1 (by decide)]
      rfl
    · have hab := all_b hI.1.1.1
      have b : g ≤ ((2 ^ (M 1 2).toNat : Nat) : Int) - 1 := b
      have := pop_1 (x := g) (by omega) (by omega)
      omega
  · obtain ⟨hI, hp⟩ := h
    have hw := wfS_of hI.1
    have hab : 0 ≤ allV (SX M) ∧ allV (SX M) < 64 := all_b hI.1.1.1
    rintro pc lv st N (⟨s, o3, rfl, rfl, rfl, h1, h2, h3, h4, h5⟩ | ⟨s, g0, rfl, rfl, rfl, h1, h2, h3, h4, h5, h6, h7⟩)
    · refine Eq.mpr (vcX5_falses_22 ..) ?_
      refine ⟨⟨by omega, by omega⟩, ⟨by omega, by omega⟩, fun q => ?_, fun q => ⟨Or.inr ⟨s, 1, rfl, rfl, rfl, by omega, by omega, h2, h3, h4, h5, fun g _ _ => by omega⟩, by (change Int.toNat _ < Int.toNat _); omega⟩⟩
      by_cases h0 : allV (SX M) = 0
      · exfalso
        refine LN_n0 hw ?_ h2
        have hn := hw.1
        unfold allV at h0
        have h2p : 2 ^ (SX M).1.toNat = 1 := by omega
        have : (SX M).1.toNat = 0 := by
          apply Classical.byContradiction
          intro hz
          have : 2 ^ 1 ≤ 2 ^ (SX M).1.toNat := Nat.pow_le_pow_right (by omega) (by omega)
          omega
        omega
      · have := pop_le6 hab
        exact (h5 (allV (SX M)) (by omega) (by omega) (by omega) (FR_all hw)).elim
    · refine Eq.mpr (vcX5_falses_30 ..) ?_
      have eS := SX_8 h4
      refine ⟨⟨by omega, by omega⟩, ⟨by omega, by omega⟩, fun q => ⟨Or.inl ⟨s + 1, _, rfl, rfl, rfl, by omega, h3, h4, h5, fun g a b c => ?_⟩, by (change Int.toNat _ < Int.toNat _); omega⟩, fun q => ⟨_, rfl, ⟨by omega, by omega⟩, ?_⟩⟩
      · by_cases hz : pop g < s
        · exact h6 g a b hz
        · exact h7 g a (by omega) b (by omega)
      · have hpb := pop_b g0
        refine ⟨⟨by omega, by omega⟩, ⟨by omega, by omega⟩, fun q1 => ⟨Or.inr ⟨s, g0 + 1, rfl, rfl, rfl, h1, by omega, h3, h4, h5, h6, fun g a b c d => ?_⟩, by (change Int.toNat _ < Int.toNat _); omega⟩, fun q1 => ?_⟩
        · by_cases hg : g = g0
          · subst hg; omega
          · exact h7 g a (by omega) c d
        · have ha := andn_ok (a := allV (SX M)) (b := g0) hab (by omega)
          refine ⟨_, rfl, h5.1, ha.1, fun r N2 k1 k2 k3 => ?_⟩
          generalize (xi (allV (SX M)) &&& xi (xi g0 ^^^ xi (-1)).toInt).toInt = z at ha k3
          have k8 : ∀ c, c < 8 → N2 c = M c := fun c hc => by rw [k1 c (by omega) (by omega)]; exact h4 c hc
          have eS2 := SX_8 k8
          have hI2 : IX N2 := IX_89 h5 k1
          have hm4 := mS_4 hw
          have hiff : FT (SX M) (tb z) (plX N2) ↔ FR (SX M) g0 := by
            refine FT_iff rfl (fun _ _ _ => rfl) (fun t a b => ?_) (fun t i a b c d => ?_)
            · have hn := hw.1
              rw [ha.2 t a (by omega)]
              have : tb (allV (SX M)) t := (tb_all hn.1 a).mpr b
              exact ⟨fun y => y.2, fun y => ⟨this, y⟩⟩
            · have e : plX N2 t i = Pl (SX M) (N2 8) (offS (SX M)) t i := by
                show Pl (SX N2) (N2 8) (offS (SX N2)) t i = _
                rw [eS2]
              rw [e]
              exact Pl_congr (fun u u0 u1 => k2 u u0 (by omega)) ⟨a, b⟩ ⟨c, d⟩
          rw [eS] at k3
          refine ⟨⟨by omega, by omega⟩, fun q2 => ⟨Or.inr ⟨s, g0 + 1, rfl, rfl, rfl, h1, by omega, h3, k8, hI2, h6, fun g a b c d => ?_⟩, by (change Int.toNat _ < Int.toNat _); omega⟩, fun q2 => ?_⟩
          · by_cases hg : g = g0
            · subst hg
              rcases k3 with ⟨y, _⟩ | ⟨_, y⟩
              · omega
              · exact fun f => y (hiff.mpr f)
            · exact h7 g a (by omega) c d
          · rcases k3 with ⟨_, y, _⟩ | ⟨y, _⟩
            · refine hp g0 (Or.inr ⟨h3, ⟨by omega, q⟩, hiff.mp y, fun g a b c => ?_⟩) N2 k8 hI2
              by_cases h8 : pop g < s
              · exact (h6 g a b h8 c).elim
              · by_cases h9 : pop g = s
                · right
                  refine ⟨by omega, ?_⟩
                  apply Classical.byContradiction
                  intro hz
                  exact h7 g a (by omega) b h9 c
                · left; omega
            · omega
theorem k_X5_falses {l : Launch} {D : va_G} {T : Nat → ClassId} {ad : Nat → Nat} (hO : xOk ad LX) : xMet l D T ad LX yX5_falses cX5_falses 4 (some .int) false 11 sp_X5_falses :=
  xmet (rt := 1) (fld := fldX5) (cals := (calX5_falses sp_X0_many sp_X2_all sp_J6_bitCount_0f7a4 sp_X0_someFits)) (cst := []) (I := iX5_falses) (cut := cutX5_falses) hO (by decide +kernel) ⟨by decide, by decide, by decide⟩ oX5_falses foX5 (fun _ h => absurd h List.not_mem_nil) (List.forall_mem_cons.mpr ⟨⟨yX0_many, cX0_many, 1, (some .int), 10, 0, by decide, yoX0_many, k_X0_many hO, loX5_111, Or.inr ⟨rfl, rfl, 10, 0, [some 1, some 4, some 7, some 11, none, none, none, none, none, none], TX0, 10, rfl, rfl, spV0_r⟩⟩, List.forall_mem_cons.mpr ⟨⟨yX2_all, cX2_all, 1, (some .int), 0, 0, by decide, yoX2_all, k_X2_all hO, loX5_148, Or.inr ⟨rfl, rfl, 1, 2, [some 2, some 3, none], TX2, 3, rfl, rfl, spV0_r⟩⟩, List.forall_mem_cons.mpr ⟨⟨yJ6_bitCount_0f7a4, cJ6_bitCount_0f7a4, 1, (some .int), 0, 1, by decide, yoJ6_bitCount_0f7a4, k_J6_bitCount_0f7a4 hO, loX5_151, Or.inl ⟨rfl, rfl⟩⟩, List.forall_mem_cons.mpr ⟨⟨yX0_someFits, cX0_someFits, 2, (some .boolean), 4, 1, by decide, yoX0_someFits, k_X0_someFits hO, loX5_156, Or.inr ⟨rfl, rfl, 10, 0, [some 1, some 4, some 7, some 11, none, none, none, none, none, none], TX0, 10, rfl, rfl, spV1_r⟩⟩, fun _ h => absurd h List.not_mem_nil⟩⟩⟩⟩) b_X5_falses

