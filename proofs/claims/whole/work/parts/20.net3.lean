/-! Net: draw, fits, takeUp -/
def f_X1_draw (t fs : Int) (M : xM) (Post : xR) : Prop := wS M ∧ wA M ∧ (0 ≤ t ∧ t < M 1 2) ∧ fs = ofX M t ∧ wJ M ∧ ∀ (r : Int) (M' : xM), (∀ c, c ≠ 9 → M' c = M c) → wJ M' → (r = 1 ∧ Dst (SX M) (plX M) t ∧ (∀ x y, 0 ≤ x → x < 10 → 0 ≤ y → y < 10 → (tb (M' 9 x) y ↔ tb (M 9 x) y ∨ LnT (SX M) (plX M) t x y)) ∨ r = 0 ∧ ¬ Dst (SX M) (plX M) t) → Post r M'
abbrev sp_X1_draw : xT := spV2 7 f_X1_draw
set_option maxRecDepth 100000 in
set_option maxHeartbeats 4000000 in
theorem b_X1_draw (as : List xV) (M : xM) (Post : xR) (h : sp_X1_draw as M Post) : as.length ≤ 9 ∧ ∃ (Inv : xG) (μ : Nat → xL → List xV → xM → Nat) (f0 f1 : Nat), xw LX fldX1 (calX1_draw sp_X2_length sp_X2_hopAt sp_X1_silentBox sp_X4_box sp_X5_hasBit sp_X1_join) [] 2 Post iX1_draw cutX1_draw Inv f0 0 (xlv as 9) [] M ∧ ∀ pc lv st M', Inv pc lv st M' → xw LX fldX1 (calX1_draw sp_X2_length sp_X2_hopAt sp_X1_silentBox sp_X4_box sp_X5_hasBit sp_X1_join) [] 2 Post iX1_draw cutX1_draw (fun pc2 lv2 st2 M2 => Inv pc2 lv2 st2 M2 ∧ μ pc2 lv2 st2 M2 < μ pc lv st M') f1 pc lv st M' := by
  obtain ⟨v1, v2, rfl, h⟩ := h
  refine ⟨by simp, (fun pc lv st N => ∃ (i b x : Int) (o7 o8 : Option xV), pc = 11 ∧ lv = [some (.inr 7), some (.inl v1), some (.inl v2), some (.inl (v2 + cS (M 2) (v1 * 6) i.toNat)), some (.inl b), some (.inl x), some (.inl i), o7, o8] ∧ st = [] ∧ (0 ≤ i ∧ i ≤ M 3 v1) ∧ (i = 0 → b = -1) ∧ (0 < i → b = plX M v1 (i - 1)) ∧ (0 ≤ x ∧ x < 1024) ∧ (∀ y, 0 ≤ y → y < 10 → (tb x y ↔ ∃ j, 0 ≤ j ∧ j < i ∧ plX M v1 j = y)) ∧ (∀ j k, 0 ≤ j → j < k → k < i → plX M v1 j ≠ plX M v1 k) ∧ (∀ c, c ≠ 9 → N c = M c) ∧ wJ N ∧ ∀ u w, 0 ≤ u → u < 10 → 0 ≤ w → w < 10 → (tb (N 9 u) w ↔ tb (M 9 u) w ∨ ∃ j, 0 ≤ j ∧ j + 1 < i ∧ (plX M v1 j = u ∧ plX M v1 (j + 1) = w ∨ plX M v1 j = w ∧ plX M v1 (j + 1) = u))), (fun pc lv st N => match lv with | [_, _, _, _, _, _, some (.inl i), _, _] => (10 - i).toNat | _ => 0), 400, 400, Eq.mpr (vcX1_draw_0 ..) ?_, ?_⟩
  · obtain ⟨hw, hA, ht, hf, hJ, hp⟩ := h
    have hl := hw.1.2.1 v1 ht.1 (by have := hw.1.1; omega)
    refine ⟨0, -1, 0, none, none, rfl, ?_, rfl, by omega, fun _ => rfl, fun q => by omega, by omega, fun y _ _ => ⟨fun q => (tb_0 y q).elim, ?_⟩, fun j k _ _ _ => by omega, fun _ _ => rfl, hJ, fun u w _ _ _ _ => ⟨Or.inl, ?_⟩⟩
    · show [some (.inr 7), some (.inl v1), some (.inl v2), some (.inl v2), some (.inl (-1)), some (.inl 0), some (.inl 0), none, none] = ([some (.inr 7), some (.inl v1), some (.inl v2), some (.inl (v2 + 0)), some (.inl (-1)), some (.inl 0), some (.inl 0), none, none] : xL)
      rw [Int.add_zero]
    · rintro ⟨j, q1, q2, -⟩
      omega
    · rintro (a | ⟨j, q1, q2, -⟩)
      · exact a
      · omega
  · obtain ⟨hw, hA, ht, hf, hJ, hp⟩ := h
    rintro pc lv st N ⟨i, b, x, o7, o8, rfl, rfl, rfl, h1, h2, h3, h4, h5, h6, h7, h8, h9⟩
    have hn := hw.1.1
    have hl := hw.1.2.1 v1 ht.1 (by omega)
    have e2 : N 2 = M 2 := h7 2 (by decide)
    have e3 : N 3 = M 3 := h7 3 (by decide)
    have e5 : N 5 = M 5 := h7 5 (by decide)
    have e8 : N 8 = M 8 := h7 8 (by decide)
    have main : ∀ K : xG, (∀ (x' : Int) (o7 o8 : Option xV) (N2 : xM), i < M 3 v1 → plX M v1 i = plX M v1 i → (0 ≤ x' ∧ x' < 1024) → (∀ y, 0 ≤ y → (tb x' y ↔ tb x y ∨ y = plX M v1 i)) → ¬ tb x (plX M v1 i) → (∀ c, c ≠ 9 → N2 c = N c) → wJ N2 → (∀ u w, 0 ≤ u → u < 10 → 0 ≤ w → w < 10 → (tb (N2 9 u) w ↔ tb (N 9 u) w ∨ 0 ≤ b ∧ (u = b ∧ w = plX M v1 i ∨ u = plX M v1 i ∧ w = b))) → K 11 [some (.inr 7), some (.inl v1), some (.inl v2), some (.inl (v2 + cS (M 2) (v1 * 6) (i + 1).toNat)), some (.inl (plX M v1 i)), some (.inl x'), some (.inl (i + 1)), o7, o8] [] N2) → xw LX fldX1 (calX1_draw sp_X2_length sp_X2_hopAt sp_X1_silentBox sp_X4_box sp_X5_hasBit sp_X1_join) [] 2 Post iX1_draw cutX1_draw K 400 11 [some (.inr 7), some (.inl v1), some (.inl v2), some (.inl (v2 + cS (M 2) (v1 * 6) i.toNat)), some (.inl b), some (.inl x), some (.inl i), o7, o8] [] N := by
      intro K hK
      refine Eq.mpr (vcX1_draw_11 ..) ?_
      have hb : -1 ≤ b ∧ b < 10 := by
        by_cases hi : i = 0
        · rw [h2 hi]; omega
        · rw [h3 (by omega)]
          have := plX_b hw hA ht (i := i - 1) (by omega)
          omega
      have key : ∀ (z v3 : Int) (o7 o8 : Option xV), i < M 3 v1 → z = plX M v1 i → v3 = v2 + cS (M 2) (v1 * 6) (i + 1).toNat → sp_X5_hasBit [.inl x, .inl z] N (fun r4 M4 => rg r4 ∧ (r4 = 0 → sp_X1_join [.inr 7, .inl b, .inl z] M4 (fun _ M5 => K 11 [some (.inr 7), some (.inl v1), some (.inl v2), some (.inl v3), some (.inl z), some (.inl (xi x ||| xi (xi 1 <<< (xi z &&& 31)).toInt).toInt), some (.inl (i + 1)), o7, o8] [] M5)) ∧ (r4 ≠ 0 → ((0 : Int) = 0 ∨ (0 : Int) = 1) ∧ Post 0 M4)) := by
        intro z v3 o7 o8 hi hz hv
        have hzb := plX_b hw hA ht (i := i) (by omega)
        rw [← hz] at hzb
        have ho := or1 (x := x) (h := z) 10 (by omega) ⟨h4.1, by rw [h1024]; omega⟩ ⟨by omega, by omega⟩
        rw [h1024] at ho
        refine ⟨_, _, rfl, ⟨by omega, by omega⟩, ⟨by omega, by omega⟩, fun r hr => ⟨⟨by omega, by omega⟩, fun q => ⟨_, _, rfl, hb, hzb, h8, fun N2 g1 g2 g3 => ?_⟩, fun q => ⟨by omega, hp 0 N h7 h8 (Or.inr ⟨rfl, fun hd => ?_⟩)⟩⟩⟩
        · subst hz
          subst hv
          refine hK _ _ _ N2 hi rfl ho.1 (fun y hy => ho.2 y hy) ?_ g1 g2 g3
          rcases hr with ⟨a, _⟩ | ⟨_, a⟩
          · omega
          · exact a
        · have htb : tb x z := by
            rcases hr with ⟨_, a⟩ | ⟨a, _⟩
            · exact a
            · omega
          obtain ⟨j, q1, q2, q3⟩ := (h5 z hzb.1 hzb.2).mp htb
          exact hd j i q1 q2 hi (q3.trans hz)
      have hh : i < M 3 v1 → -1 ≤ M 2 (v1 * 6 + i) ∧ M 2 (v1 * 6 + i) ≤ 5 := fun hi => hw.1.2.2 (v1 * 6 + i) (by omega) (by omega)
      have cs1 : (i + 1).toNat = i.toNat + 1 := by omega
      refine ⟨_, rfl, ⟨by omega, by omega⟩, ?_⟩
      rw [e3]
      refine ⟨⟨by omega, by omega⟩, ⟨by omega, by omega⟩, fun q => ⟨by omega, hp 1 N h7 h8 (Or.inl ⟨rfl, ?_, ?_⟩)⟩, fun q => ⟨_, _, rfl, ⟨by omega, by omega⟩, ⟨by omega, by omega⟩, ?_⟩⟩
      · have hi : i = M 3 v1 := by omega
        intro j k a1 a2 a3
        exact h6 j k a1 a2 (by rw [hi]; exact a3)
      · have hi : i = M 3 v1 := by omega
        subst hi
        exact h9
      · have hh := hh q
        rw [e2]
        refine ⟨⟨by omega, by omega⟩, ⟨by omega, by omega⟩, fun q1 => ⟨_, rfl, ⟨by omega, by omega⟩, ⟨by omega, by omega⟩, ⟨by omega, by omega⟩, fun _ => ?_, fun q2 => (q1 q2).elim⟩, fun q1 => ⟨_, rfl, ?_, ⟨by omega, by omega⟩, ⟨by omega, by omega⟩, fun q2 => (q2 q1).elim, fun _ => ?_⟩⟩
        · rw [e5]
          refine key _ _ _ _ q ?_ ?_
          · show M 5 (M 2 (v1 * 6 + i)) = if M 2 (v1 * 6 + i) = -1 then _ else M 5 (M 2 (v1 * 6 + i))
            rw [if_neg q1]
          · rw [cs1]
            simp only [cS]
            rw [if_neg (by rw [Int.toNat_of_nonneg h1.1]; exact q1)]
            omega
        · have := sil_lt (f := M 2) (g := M 3) (n := M 1 2) ht ⟨h1.1, q⟩ q1
          have h44 := hw.2.2.1
          rw [hf]
          unfold ofX
          omega
        · rw [e8]
          refine key _ _ _ _ q ?_ ?_
          · show M 8 (v2 + cS (M 2) (v1 * 6) i.toNat) = if M 2 (v1 * 6 + i) = -1 then M 8 (ofX M v1 + cS (M 2) (v1 * 6) i.toNat) else _
            rw [if_pos q1, hf]
          · rw [cs1]
            simp only [cS]
            rw [if_pos (by rw [Int.toNat_of_nonneg h1.1]; exact q1)]
            omega
    refine main _ (fun x' o7 o8 N2 hi _ k1 k2 k3 k4 k5 k6 => ⟨⟨i + 1, plX M v1 i, x', o7, o8, rfl, rfl, rfl, by omega, fun q => by omega, fun _ => by rw [Int.add_sub_cancel], k1, fun y a1 a2 => ?_, fun j k a1 a2 a3 => ?_, fun c hc => by rw [k4 c hc]; exact h7 c hc, k5, fun u w a1 a2 a3 a4 => ?_⟩, by (change Int.toNat _ < Int.toNat _); omega⟩)
    · rw [k2 y a1, h5 y a1 a2]
      constructor
      · rintro (⟨j, b1, b2, b3⟩ | a)
        · exact ⟨j, b1, by omega, b3⟩
        · exact ⟨i, by omega, by omega, a.symm⟩
      · rintro ⟨j, b1, b2, b3⟩
        by_cases hj : j = i
        · subst hj; exact Or.inr b3.symm
        · exact Or.inl ⟨j, b1, by omega, b3⟩
    · by_cases hk : k = i
      · subst hk
        intro e
        have := plX_b hw hA ht (i := k) (by omega)
        exact k3 ((h5 _ this.1 this.2).mpr ⟨j, a1, a2, e⟩)
      · exact h6 j k a1 a2 (by omega)
    · rw [k6 u w a1 a2 a3 a4, h9 u w a1 a2 a3 a4]
      constructor
      · rintro ((a | ⟨j, b1, b2, b3⟩) | ⟨b0, a⟩)
        · exact Or.inl a
        · exact Or.inr ⟨j, b1, by omega, b3⟩
        · have hi0 : 0 < i := by
            apply Classical.byContradiction
            intro hz
            rw [h2 (by omega)] at b0
            omega
          have hb' := h3 hi0
          refine Or.inr ⟨i - 1, by omega, by omega, ?_⟩
          rw [Int.sub_add_cancel, ← hb']
          rcases a with ⟨rfl, rfl⟩ | ⟨rfl, rfl⟩
          · exact Or.inl ⟨rfl, rfl⟩
          · exact Or.inr ⟨rfl, rfl⟩
      · rintro (a | ⟨j, b1, b2, b3⟩)
        · exact Or.inl (Or.inl a)
        · by_cases hj : j + 1 < i
          · exact Or.inl (Or.inr ⟨j, b1, hj, b3⟩)
          · have hji : j = i - 1 := by omega
            have hb' := h3 (by omega)
            rw [hji, Int.sub_add_cancel, ← hb'] at b3
            have hpb := plX_b hw hA ht (i := i - 1) (by omega)
            refine Or.inr ⟨by omega, ?_⟩
            rcases b3 with ⟨c1, c2⟩ | ⟨c1, c2⟩
            · exact Or.inl ⟨c1.symm, c2.symm⟩
            · exact Or.inr ⟨c2.symm, c1.symm⟩
theorem k_X1_draw {l : Launch} {D : va_G} {T : Nat → ClassId} {ad : Nat → Nat} (hO : xOk ad LX) : xMet l D T ad LX yX1_draw cX1_draw 9 (some .boolean) false 2 sp_X1_draw :=
  xmet (rt := 2) (fld := fldX1) (cals := (calX1_draw sp_X2_length sp_X2_hopAt sp_X1_silentBox sp_X4_box sp_X5_hasBit sp_X1_join)) (cst := []) (I := iX1_draw) (cut := cutX1_draw) hO (by decide +kernel) ⟨by decide, by decide, by decide⟩ oX1_draw foX1 (fun _ h => absurd h List.not_mem_nil) (List.forall_mem_cons.mpr ⟨⟨yX2_length, cX2_length, 2, (some .int), 0, 1, by decide, yoX2_length, k_X2_length hO, loX1_72, Or.inr ⟨rfl, rfl, 1, 2, [some 2, some 3, none], TX2, 3, rfl, rfl, spV1_r⟩⟩, List.forall_mem_cons.mpr ⟨⟨yX2_hopAt, cX2_hopAt, 4, (some .int), 0, 2, by decide, yoX2_hopAt, k_X2_hopAt hO, loX1_75, Or.inr ⟨rfl, rfl, 1, 2, [some 2, some 3, none], TX2, 3, rfl, rfl, spV2_r⟩⟩, List.forall_mem_cons.mpr ⟨⟨yX1_silentBox, cX1_silentBox, 2, (some .int), 0, 1, by decide, yoX1_silentBox, k_X1_silentBox hO, loX1_86, Or.inr ⟨rfl, rfl, 7, 1, [some 1, some 4, some 8, some 9], TX1, 4, rfl, rfl, spV1_r⟩⟩, List.forall_mem_cons.mpr ⟨⟨yX4_box, cX4_box, 2, (some .int), 0, 1, by decide, yoX4_box, k_X4_box hO, loX1_78, Or.inr ⟨rfl, rfl, 4, 4, [some 5, some 6, none], TX4, 3, rfl, rfl, spV1_r⟩⟩, List.forall_mem_cons.mpr ⟨⟨yX5_hasBit, cX5_hasBit, 2, (some .boolean), 0, 2, by decide, yoX5_hasBit, k_X5_hasBit hO, loX1_58, Or.inl ⟨rfl, rfl⟩⟩, List.forall_mem_cons.mpr ⟨⟨yX1_join, cX1_join, 3, none, 1, 2, by decide, yoX1_join, k_X1_join hO, loX1_89, Or.inr ⟨rfl, rfl, 7, 1, [some 1, some 4, some 8, some 9], TX1, 4, rfl, rfl, spV2_r⟩⟩, fun _ h => absurd h List.not_mem_nil⟩⟩⟩⟩⟩⟩) b_X1_draw
theorem LnT_b {M : xM} (hw : wS M) (hA : wA M) {t a b : Int} (ht : 0 ≤ t ∧ t < M 1 2) (h : LnT (SX M) (plX M) t a b) : (0 ≤ a ∧ a < 10) ∧ (0 ≤ b ∧ b < 10) := by
  obtain ⟨i, h1, h2, h3⟩ := h
  have e1 := plX_b hw hA ht (i := i) ⟨h1, by have : i + 1 < M 3 t := h2; omega⟩
  have e2 := plX_b hw hA ht (i := i + 1) ⟨by omega, h2⟩
  rcases h3 with ⟨rfl, rfl⟩ | ⟨rfl, rfl⟩
  · exact ⟨e1, e2⟩
  · exact ⟨e2, e1⟩
theorem Adj_in {M : xM} (hw : wS M) (hA : wA M) (q : Int → Prop) : in10 (Adj (SX M) q (plX M)) := fun _ _ ⟨_, ht, _, h⟩ => LnT_b hw hA ht h
theorem ofX_succ {M : xM} {t : Int} (ht : 0 ≤ t) : ofX M (t + 1) = ofX M t + cS (M 2) (t * 6) (M 3 t).toNat := by
  obtain ⟨a, rfl⟩ : ∃ a : Nat, t = a := ⟨t.toNat, by omega⟩
  unfold ofX
  rw [show ((a : Int) + 1).toNat = a + 1 by omega, Int.toNat_natCast]
  rfl
def f_X1_fits (s : Int) (M : xM) (Post : xR) : Prop := wS M ∧ wA M ∧ (0 ≤ s ∧ s < 64) ∧ ∀ (r : Int) (M' : xM), (∀ c, c ≠ 9 → M' c = M c) → wJ M' → (r = 1 ∧ FT (SX M) (tb s) (plX M) ∧ JN M' (Adj (SX M) (tb s) (plX M)) ∨ r = 0 ∧ ¬ FT (SX M) (tb s) (plX M)) → Post r M'
abbrev sp_X1_fits : xT := spV1 7 f_X1_fits
set_option maxRecDepth 100000 in
set_option maxHeartbeats 4000000 in
theorem b_X1_fits (as : List xV) (M : xM) (Post : xR) (h : sp_X1_fits as M Post) : as.length ≤ 4 ∧ ∃ (Inv : xG) (μ : Nat → xL → List xV → xM → Nat) (f0 f1 : Nat), xw LX fldX1 (calX1_fits sp_J7_fill_53178 sp_X2_traces sp_X5_hasBit sp_X1_draw sp_X2_silentsIn sp_X1_isShortest) [] 2 Post iX1_fits cutX1_fits Inv f0 0 (xlv as 4) [] M ∧ ∀ pc lv st M', Inv pc lv st M' → xw LX fldX1 (calX1_fits sp_J7_fill_53178 sp_X2_traces sp_X5_hasBit sp_X1_draw sp_X2_silentsIn sp_X1_isShortest) [] 2 Post iX1_fits cutX1_fits (fun pc2 lv2 st2 M2 => Inv pc2 lv2 st2 M2 ∧ μ pc2 lv2 st2 M2 < μ pc lv st M') f1 pc lv st M' := by
  obtain ⟨v1, rfl, h⟩ := h
  refine ⟨by simp, (fun pc lv st N => (∃ (t : Int), pc = 12 ∧ lv = [some (.inr 7), some (.inl v1), some (.inl (ofX M t)), some (.inl t)] ∧ st = [] ∧ (0 ≤ t ∧ t ≤ M 1 2) ∧ (∀ c, c ≠ 9 → N c = M c) ∧ wJ N ∧ (∀ s, 0 ≤ s → s < t → tb v1 s → Dst (SX M) (plX M) s) ∧ ∀ u w, 0 ≤ u → u < 10 → 0 ≤ w → w < 10 → (tb (N 9 u) w ↔ ∃ s, (0 ≤ s ∧ s < t) ∧ tb v1 s ∧ LnT (SX M) (plX M) s u w)) ∨ (∃ (t z : Int), pc = 61 ∧ lv = [some (.inr 7), some (.inl v1), some (.inl z), some (.inl t)] ∧ st = [] ∧ (0 ≤ t ∧ t ≤ M 1 2) ∧ (∀ c, c ≠ 9 → N c = M c) ∧ JN N (Adj (SX M) (tb v1) (plX M)) ∧ (∀ s, 0 ≤ s → s < M 1 2 → tb v1 s → Dst (SX M) (plX M) s) ∧ ∀ s, 0 ≤ s → s < t → tb v1 s → Sht (SX M) (tb v1) (plX M) s)), (fun pc lv st N => match pc, lv with | 12, [_, _, _, some (.inl t)] => (200 - t).toNat | 61, [_, _, _, some (.inl t)] => (100 - t).toNat | _, _ => 0), 400, 400, Eq.mpr (vcX1_fits_0 ..) ?_, ?_⟩
  · obtain ⟨hw, hA, hs, hp⟩ := h
    refine ⟨0, Or.inr (Or.inl ⟨rfl, fun N g1 g2 => Or.inl ⟨0, rfl, rfl, rfl, ⟨by omega, hw.1.1.1⟩, g1, fun x q1 q2 => ?_, fun s _ _ => by omega, fun u w q1 q2 _ _ => ?_⟩⟩)⟩
    · rw [g2 x q1 (by omega)]; omega
    · rw [g2 u q1 (by omega)]
      refine ⟨fun q => (tb_0 w q).elim, ?_⟩
      rintro ⟨s, q3, -⟩
      omega
  · obtain ⟨hw, hA, hs, hp⟩ := h
    have hn := hw.1.1
    rintro pc lv st N (⟨t, rfl, rfl, rfl, h1, h2, h3, h4, h5⟩ | ⟨t, z, rfl, rfl, rfl, h1, h2, h3, h4, h5⟩)
    all_goals
      have e1 : N 1 = M 1 := h2 1 (by decide)
      have e2 : N 2 = M 2 := h2 2 (by decide)
      have e3 : N 3 = M 3 := h2 3 (by decide)
      have e5 : N 5 = M 5 := h2 5 (by decide)
      have e6 : N 6 = M 6 := h2 6 (by decide)
      have e8 : N 8 = M 8 := h2 8 (by decide)
      have hwN : wS N := by rw [wS_eq e1 e2 e3 e5 e6]; exact hw
      have ePl : plX N = plX M := plX_eq e1 e2 e3 e5 e8
      have eS : SX N = SX M := SX_eq e1 e2 e3 e5
    · refine Eq.mpr (vcX1_fits_12 ..) ?_
      have hAN : wA N := by unfold wA; rw [e8]; exact hA
      have eo : ofX N t = ofX M t := by unfold ofX; rw [e2, e3]
      refine ⟨rfl, ?_⟩
      unfold f_X2_traces
      rw [e1]
      refine ⟨⟨by omega, by omega⟩, ⟨by omega, by omega⟩, fun q => ⟨Or.inr ⟨0, _, rfl, rfl, rfl, by omega, h2, ⟨h3, ?_⟩, fun s q1 q2 q3 => h4 s q1 (by omega) q3, fun s q1 q2 => by omega⟩, by (change Int.toNat _ < Int.toNat _); omega⟩, fun q => ⟨_, _, rfl, ⟨by omega, by omega⟩, ⟨by omega, by omega⟩, fun r hr => ⟨⟨by omega, by omega⟩, fun q1 => ⟨_, rfl, hwN.1, ⟨by omega, by omega⟩, ⟨Or.inl ⟨t + 1, rfl, ?_, rfl, by omega, h2, h3, fun s a1 a2 a3 => ?_, fun u w a1 a2 a3 a4 => ?_⟩, by (change Int.toNat _ < Int.toNat _); omega⟩⟩, fun q1 => ⟨_, _, rfl, hwN, hAN, ⟨h1.1, by rw [e1]; exact q⟩, eo.symm, h3, fun r4 N4 g1 g2 g3 => ⟨⟨by omega, by omega⟩, fun q4 => ?_, fun q4 => ⟨by omega, hp 0 N4 (fun c hc => by rw [g1 c hc]; exact h2 c hc) g2 (Or.inr ⟨rfl, fun hF => ?_⟩)⟩⟩⟩⟩⟩⟩
      · have ht : t = M 1 2 := by omega
        subst ht
        exact h5
      · rw [ofX_succ h1.1, e2, e3]
      · by_cases hst : s = t
        · subst hst
          rcases hr with ⟨a, _⟩ | ⟨_, a⟩
          · omega
          · exact (a a3).elim
        · exact h4 s a1 (by omega) a3
      · rw [h5 u w a1 a2 a3 a4]
        constructor
        · rintro ⟨s, b1, b2⟩
          exact ⟨s, by omega, b2⟩
        · rintro ⟨s, b1, b2, b3⟩
          by_cases hst : s = t
          · subst hst
            rcases hr with ⟨a, _⟩ | ⟨_, a⟩
            · omega
            · exact (a b2).elim
          · exact ⟨s, by omega, b2, b3⟩
      · rw [ePl, eS] at g3
        rcases g3 with ⟨_, g3, g4⟩ | ⟨a, _⟩
        · have f1 : N4 1 = M 1 := by rw [g1 1 (by decide)]; exact e1
          have f2 : N4 2 = M 2 := by rw [g1 2 (by decide)]; exact e2
          have f3 : N4 3 = M 3 := by rw [g1 3 (by decide)]; exact e3
          have f5 : N4 5 = M 5 := by rw [g1 5 (by decide)]; exact e5
          have f6 : N4 6 = M 6 := by rw [g1 6 (by decide)]; exact e6
          have hwN4 : wS N4 := by rw [wS_eq f1 f2 f3 f5 f6]; exact hw
          refine ⟨_, rfl, hwN4.1, ⟨by omega, by omega⟩, ⟨Or.inl ⟨t + 1, rfl, ?_, rfl, by omega, fun c hc => by rw [g1 c hc]; exact h2 c hc, g2, fun s a1 a2 a3 => ?_, fun u w a1 a2 a3 a4 => ?_⟩, by (change Int.toNat _ < Int.toNat _); omega⟩⟩
          · rw [ofX_succ h1.1, f2, f3]
          · by_cases hst : s = t
            · subst hst; exact g3
            · exact h4 s a1 (by omega) a3
          · rw [g4 u w a1 a2 a3 a4, h5 u w a1 a2 a3 a4]
            have htb : tb v1 t := by
              rcases hr with ⟨_, a⟩ | ⟨a, _⟩
              · exact a
              · omega
            constructor
            · rintro (⟨s, b1, b2⟩ | a)
              · exact ⟨s, by omega, b2⟩
              · exact ⟨t, by omega, htb, a⟩
            · rintro ⟨s, b1, b2, b3⟩
              by_cases hst : s = t
              · subst hst; exact Or.inr b3
              · exact Or.inl ⟨s, by omega, b2, b3⟩
        · omega
      · rw [ePl, eS] at g3
        have htb : tb v1 t := by
          rcases hr with ⟨_, a⟩ | ⟨a, _⟩
          · exact a
          · omega
        rcases g3 with ⟨a, _⟩ | ⟨_, a⟩
        · omega
        · exact a (hF.1 t h1.1 q htb)
    · refine Eq.mpr (vcX1_fits_61 ..) ?_
      refine ⟨rfl, ?_⟩
      unfold f_X2_traces
      rw [e1]
      refine ⟨⟨by omega, by omega⟩, ⟨by omega, by omega⟩, fun q => ⟨by omega, hp 1 N h2 h3.1 (Or.inl ⟨rfl, ⟨h4, fun s q1 q2 q3 => h5 s q1 (by have : s < M 1 2 := q2; omega) q3⟩, h3⟩)⟩, fun q => ⟨_, _, rfl, ⟨by omega, by omega⟩, ⟨by omega, by omega⟩, fun r hr => ⟨⟨by omega, by omega⟩, fun q1 => ⟨Or.inr ⟨t + 1, z, rfl, rfl, rfl, by omega, h2, h3, h4, fun s a1 a2 a3 => ?_⟩, by (change Int.toNat _ < Int.toNat _); omega⟩, fun q1 => ?_⟩⟩⟩
      · by_cases hst : s = t
        · subst hst
          rcases hr with ⟨a, _⟩ | ⟨_, a⟩
          · omega
          · exact (a a3).elim
        · exact h5 s a1 (by omega) a3
      · have htb : tb v1 t := by
          rcases hr with ⟨_, a⟩ | ⟨a, _⟩
          · exact a
          · omega
        obtain ⟨l1, l2, l3⟩ := hw.2.2.2 t h1.1 q
        have p0 : plX M t 0 = M 5 (M 2 (t * 6)) := by
          show (if M 2 (t * 6 + 0) = -1 then _ else M 5 (M 2 (t * 6 + 0))) = _
          rw [Int.add_zero, if_neg l2]
        have p1 : plX M t (M 3 t - 1) = M 5 (M 2 (t * 6 + (M 3 t - 1))) := by
          show (if M 2 (t * 6 + (M 3 t - 1)) = -1 then _ else M 5 (M 2 (t * 6 + (M 3 t - 1)))) = _
          rw [if_neg l3]
        have hwk := trWk (S := SX M) (q := tb v1) (pl := plX M) (t := t) ⟨h1.1, q⟩ htb (M 3 t - 1).toNat (by show _ < M 3 t; omega)
        rw [Int.toNat_of_nonneg (by omega), p0, p1] at hwk
        refine ⟨_, rfl, hwN, ⟨h1.1, by rw [e1]; exact q⟩, Adj (SX M) (tb v1) (plX M), h3, Adj_in hw hA _, by rw [e2, e3, e5]; exact hwk, fun r3 hr3 => ?_⟩
        rw [e2, e3, e5, ← p0, ← p1] at hr3
        refine ⟨⟨by omega, by omega⟩, fun q3 => ⟨Or.inr ⟨t + 1, z, rfl, rfl, rfl, by omega, h2, h3, h4, fun s a1 a2 a3 => ?_⟩, by (change Int.toNat _ < Int.toNat _); omega⟩, fun q3 => ⟨by omega, hp 0 N h2 h3.1 (Or.inr ⟨rfl, fun hF => ?_⟩)⟩⟩
        · by_cases hst : s = t
          · subst hst
            rcases hr3 with ⟨_, a⟩ | ⟨a, _⟩
            · exact a
            · omega
          · exact h5 s a1 (by omega) a3
        · rcases hr3 with ⟨a, _⟩ | ⟨_, a⟩
          · omega
          · exact a (hF.2 t h1.1 q htb)
theorem k_X1_fits {l : Launch} {D : va_G} {T : Nat → ClassId} {ad : Nat → Nat} (hO : xOk ad LX) : xMet l D T ad LX yX1_fits cX1_fits 4 (some .boolean) false 3 sp_X1_fits :=
  xmet (rt := 2) (fld := fldX1) (cals := (calX1_fits sp_J7_fill_53178 sp_X2_traces sp_X5_hasBit sp_X1_draw sp_X2_silentsIn sp_X1_isShortest)) (cst := []) (I := iX1_fits) (cut := cutX1_fits) hO (by decide +kernel) ⟨by decide, by decide, by decide⟩ oX1_fits foX1 (fun _ h => absurd h List.not_mem_nil) (List.forall_mem_cons.mpr ⟨⟨yJ7_fill_53178, cJ7_fill_53178, 4, none, 0, 2, by decide, yoJ7_fill_53178, k_J7_fill_53178 hO, loX1_49, Or.inl ⟨rfl, rfl⟩⟩, List.forall_mem_cons.mpr ⟨⟨yX2_traces, cX2_traces, 1, (some .int), 0, 0, by decide, yoX2_traces, k_X2_traces hO, loX1_55, Or.inr ⟨rfl, rfl, 1, 2, [some 2, some 3, none], TX2, 3, rfl, rfl, spV0_r⟩⟩, List.forall_mem_cons.mpr ⟨⟨yX5_hasBit, cX5_hasBit, 2, (some .boolean), 0, 2, by decide, yoX5_hasBit, k_X5_hasBit hO, loX1_58, Or.inl ⟨rfl, rfl⟩⟩, List.forall_mem_cons.mpr ⟨⟨yX1_draw, cX1_draw, 9, (some .boolean), 2, 2, by decide, yoX1_draw, k_X1_draw hO, loX1_62, Or.inr ⟨rfl, rfl, 7, 1, [some 1, some 4, some 8, some 9], TX1, 4, rfl, rfl, spV2_r⟩⟩, List.forall_mem_cons.mpr ⟨⟨yX2_silentsIn, cX2_silentsIn, 4, (some .int), 1, 1, by decide, yoX2_silentsIn, k_X2_silentsIn hO, loX1_65, Or.inr ⟨rfl, rfl, 1, 2, [some 2, some 3, none], TX2, 3, rfl, rfl, spV1_r⟩⟩, List.forall_mem_cons.mpr ⟨⟨yX1_isShortest, cX1_isShortest, 5, (some .boolean), 2, 1, by decide, yoX1_isShortest, k_X1_isShortest hO, loX1_69, Or.inr ⟨rfl, rfl, 7, 1, [some 1, some 4, some 8, some 9], TX1, 4, rfl, rfl, spV1_r⟩⟩, fun _ h => absurd h List.not_mem_nil⟩⟩⟩⟩⟩⟩) b_X1_fits

