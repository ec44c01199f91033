/-! Survey.make -/
def f_X3_make (M : xM) (Post : xR) : Prop := wS M ∧ (M 10 4 = 0 ∨ M 10 4 = 1 ∧ stO M (SX M) (LNs (SX M))) ∧ (M 12 7 = 0 ∨ M 12 7 = 1 ∧ M 10 4 = 1 ∧ svO M (SX M)) ∧ ∀ M' : xM, (∀ c, c < 8 → M' c = M c) → M' 10 4 = 1 → stO M' (SX M) (LNs (SX M)) → M' 12 7 = 1 → svO M' (SX M) → Post 0 M'
abbrev sp_X3_make : xT := spV0 12 f_X3_make
set_option maxRecDepth 100000 in
set_option maxHeartbeats 4000000 in
theorem b_X3_make (as : List xV) (M : xM) (Post : xR) (h : sp_X3_make as M Post) : as.length ≤ 4 ∧ ∃ (Inv : xG) (μ : Nat → xL → List xV → xM → Nat) (f0 f1 : Nat), xw LX fldX3 (calX3_make sp_J7_fill_53178 sp_X2_names sp_X0_many sp_X0_code sp_X1_takeUp sp_X3_addLines sp_X3_addWays sp_X3_choosePair) [] 0 Post iX3_make cutX3_make Inv f0 0 (xlv as 4) [] M ∧ ∀ pc lv st M', Inv pc lv st M' → xw LX fldX3 (calX3_make sp_J7_fill_53178 sp_X2_names sp_X0_many sp_X0_code sp_X1_takeUp sp_X3_addLines sp_X3_addWays sp_X3_choosePair) [] 0 Post iX3_make cutX3_make (fun pc2 lv2 st2 M2 => Inv pc2 lv2 st2 M2 ∧ μ pc2 lv2 st2 M2 < μ pc lv st M') f1 pc lv st M' := by
  obtain ⟨rfl, h⟩ := h
  refine ⟨by simp, (fun pc lv st N => ∃ (x : Int) (k : Nat), pc = 57 ∧ lv = [some (.inr 12), some (.inl x), some (.inl (((LNs (SX M)).2.2.length : Nat) : Int)), some (.inl (k : Int))] ∧ st = [] ∧ (0 ≤ x ∧ x < 64) ∧ (∀ n, 0 ≤ n → n < 6 → (tb x n ↔ nmS (SX M) n)) ∧ k ≤ (LNs (SX M)).2.2.length ∧ (∀ c, c < 8 → N c = M c) ∧ N 10 4 = 1 ∧ stO N (SX M) (LNs (SX M)) ∧ N 12 7 = 1 ∧ wV N ∧ (∀ u w, 0 ≤ u → u < 10 → 0 ≤ w → w < 10 → ((tb (N 13 u) w ↔ ∃ A ∈ (LNs (SX M)).2.2.take k, Adj (SX M) all0 (plL (SX M) A) u w) ∧ (tb (N 14 u) w ↔ ∀ A ∈ (LNs (SX M)).2.2.take k, Adj (SX M) all0 (plL (SX M) A) u w))) ∧ (∀ a b d, 0 ≤ a → a < b → b < 6 → -1 ≤ d → d ≤ 9 → tb x a → tb x b → N 15 ((a * 6 + b) * 11 + d + 1) = ((cP (fun A => isD (Adj (SX M) all0 (plL (SX M) A)) (M 5 a) (M 5 b) d) ((LNs (SX M)).2.2.take k) : Nat) : Int)) ∧ ∀ j, 0 ≤ j → j < 396 → 0 ≤ N 15 j ∧ N 15 j ≤ k), (fun pc lv st N => match lv with | [_, _, some (.inl m), some (.inl k)] => (m - k).toNat | _ => 0), 400, 400, Eq.mpr (vcX3_make_0 ..) ?_, ?_⟩
  · obtain ⟨hw, hc, hm, hp⟩ := h
    have g12 : ∀ c, c ≠ 12 → xup M 12 7 1 c = M c := fun c hc => xup_ne hc
    refine ⟨⟨by omega, by omega⟩, fun q => ⟨by omega, 0, Or.inr (Or.inr (Or.inl ⟨rfl, fun M1 a1 b1 => ⟨1023, Or.inr (Or.inr (Or.inr (Or.inl ⟨rfl, fun M2 a2 b2 => ⟨0, Or.inr (Or.inr (Or.inr (Or.inr ⟨rfl, fun M3 a3 b3 => ?_⟩)))⟩⟩)))⟩⟩))⟩, fun q => ?_⟩
    · have fr : ∀ c, c ≠ 12 → c ≠ 13 → c ≠ 14 → c ≠ 15 → M3 c = M c := fun c q1 q2 q3 q4 => by rw [a3 c q4, a2 c q3, a1 c q2]; exact g12 c q1
      have wM : ∀ A : xM, (∀ c, c < 8 → A c = M c) → wS A := fun A hA => by rw [wS_eq (hA 1 (by decide)) (hA 2 (by decide)) (hA 3 (by decide)) (hA 5 (by decide)) (hA 6 (by decide))]; exact hw
      have sM : ∀ A : xM, (∀ c, c < 8 → A c = M c) → SX A = SX M := fun A hA => SX_eq (hA 1 (by decide)) (hA 2 (by decide)) (hA 3 (by decide)) (hA 5 (by decide))
      have f3 : ∀ c, c < 8 → M3 c = M c := fun c hc => fr c (by omega) (by omega) (by omega) (by omega)
      have t7 : M3 12 7 = 1 := by rw [a3 12 (by decide), a2 12 (by decide), a1 12 (by decide)]; simp [xup]
      have e10 : M3 10 = M 10 := fr 10 (by decide) (by decide) (by decide) (by decide)
      have e11 : M3 11 = M 11 := fr 11 (by decide) (by decide) (by decide) (by decide)
      refine ⟨rfl, (wM M3 f3).1, fun x x0 x1 hx => ⟨rfl, wM M3 f3, ?_, fun M5 k1 k2 k3 => ?_⟩⟩
      · rw [sM M3 f3, e10, stO_eq e10 e11]; exact hc
      · rw [sM M3 f3] at k3
        have f5 : ∀ c, c < 8 → M5 c = M c := fun c hc => by rw [k1 c (by omega) (by omega) (by omega) (by omega)]; exact f3 c hc
        have h12 : M5 12 = M3 12 := k1 12 (by decide) (by decide) (by decide) (by decide)
        have h13 : M5 13 = M1 13 := by rw [k1 13 (by decide) (by decide) (by decide) (by decide), a3 13 (by decide), a2 13 (by decide)]
        have h14 : M5 14 = M2 14 := by rw [k1 14 (by decide) (by decide) (by decide) (by decide), a3 14 (by decide)]
        have h15 : M5 15 = M3 15 := k1 15 (by decide) (by decide) (by decide) (by decide)
        have hx' : ∀ n, 0 ≤ n → n < 6 → (tb x n ↔ nmS (SX M) n) := fun n n0 n1 => by rw [hx n n0 n1, nmS_X, sM M3 f3]
        rw [sM M3 f3]
        refine ⟨x, 0, rfl, rfl, rfl, ⟨x0, x1⟩, hx', Nat.zero_le _, f5, k2, k3, by rw [h12]; exact t7, fun u u0 u1 => ?_, fun u w u0 u1 w0 w1 => ?_, fun a b d c0 c1 c2 c3 c4 _ _ => ?_, fun j j0 j1 => ?_⟩
        · rw [h13, h14, b1 u u0 (by omega), b2 u u0 (by omega)]; omega
        · rw [h13, h14, b1 u u0 (by omega), b2 u u0 (by omega)]
          refine ⟨⟨fun z => (tb_0 w z).elim, ?_⟩, ⟨fun _ A hA => ?_, fun _ => tb_1023 w0 w1⟩⟩
          · rintro ⟨A, hA, -⟩
            simp at hA
          · simp at hA
        · rw [h15, b3 _ (by omega) (by omega)]; rfl
        · rw [h15, b3 j j0 (by omega)]; omega
    · rcases hm with hm | ⟨hm1, hm2, hm3⟩
      · omega
      · rcases hc with hc | ⟨hc1, hc2⟩
        · omega
        · exact hp M (fun _ _ => rfl) hc1 hc2 hm1 hm3
  · obtain ⟨hw, hc, hm, hp⟩ := h
    have h369 := LN_369 (wfS_of hw)
    have hm4 := mS_4 (wfS_of hw)
    rintro pc lv st N ⟨x, k, rfl, rfl, rfl, hx, hxn, hk, hf, h4, hst, h7, hV, hbits, hheap, hhb⟩
    have e1 := hf 1 (by decide)
    have e2 := hf 2 (by decide)
    have e3 := hf 3 (by decide)
    have e5 := hf 5 (by decide)
    have e6 := hf 6 (by decide)
    have hwN : wS N := by rw [wS_eq e1 e2 e3 e5 e6]; exact hw
    have eS : SX N = SX M := SX_eq e1 e2 e3 e5
    have main : ∀ K : xG, (∀ N' : xM, k < (LNs (SX M)).2.2.length → (∀ c, c < 8 → N' c = M c) → N' 10 4 = 1 → stO N' (SX M) (LNs (SX M)) → N' 12 7 = 1 → wV N' → (∀ u w, 0 ≤ u → u < 10 → 0 ≤ w → w < 10 → ((tb (N' 13 u) w ↔ ∃ A ∈ (LNs (SX M)).2.2.take (k + 1), Adj (SX M) all0 (plL (SX M) A) u w) ∧ (tb (N' 14 u) w ↔ ∀ A ∈ (LNs (SX M)).2.2.take (k + 1), Adj (SX M) all0 (plL (SX M) A) u w))) → (∀ a b d, 0 ≤ a → a < b → b < 6 → -1 ≤ d → d ≤ 9 → tb x a → tb x b → N' 15 ((a * 6 + b) * 11 + d + 1) = ((cP (fun A => isD (Adj (SX M) all0 (plL (SX M) A)) (M 5 a) (M 5 b) d) ((LNs (SX M)).2.2.take (k + 1)) : Nat) : Int)) → (∀ j, 0 ≤ j → j < 396 → 0 ≤ N' 15 j ∧ N' 15 j ≤ ((k + 1 : Nat) : Int)) → K 57 [some (.inr 12), some (.inl x), some (.inl (((LNs (SX M)).2.2.length : Nat) : Int)), some (.inl ((k : Int) + 1))] [] N') → xw LX fldX3 (calX3_make sp_J7_fill_53178 sp_X2_names sp_X0_many sp_X0_code sp_X1_takeUp sp_X3_addLines sp_X3_addWays sp_X3_choosePair) [] 0 Post iX3_make cutX3_make K 400 57 [some (.inr 12), some (.inl x), some (.inl (((LNs (SX M)).2.2.length : Nat) : Int)), some (.inl (k : Int))] [] N := by
      intro K hK
      refine Eq.mpr (vcX3_make_57 ..) ?_
      refine ⟨⟨by omega, by omega⟩, ⟨by omega, by omega⟩, fun q => ⟨_, rfl, hx, fun j j0 j1 => ?_, fun M' g1 g2 g3 => ?_⟩, fun q => ?_⟩
      · have := hhb j j0 j1; omega
      · have hkl : k = (LNs (SX M)).2.2.length := by omega
        have htk : (LNs (SX M)).2.2.take k = (LNs (SX M)).2.2 := by rw [hkl]; exact List.take_length
        rw [htk] at hbits hheap
        refine hp M' (fun c hc => by rw [g1 c (by omega)]; exact hf c hc) (by rw [g1 10 (by decide)]; exact h4) (by rw [stO_eq (g1 10 (by decide)) (g1 11 (by decide))]; exact hst) (by rw [g2]; exact h7) ⟨?_, ?_, ?_⟩
        · unfold wV; rw [g1 13 (by decide), g1 14 (by decide)]; exact hV
        · rw [g1 13 (by decide), g1 14 (by decide)]; exact hbits
        · have : allB (tb x) (ghM N) 6 = NXT (SX M) := allB_congr hxn (fun a b a0 ab b6 ta tb' => mxI_congr 11 (fun j j0 j1 => by
            have := hheap a b (j - 1) a0 ab b6 (by omega) (by omega) ta tb'
            rw [show (a * 6 + b) * 11 + (j - 1) + 1 = (a * 6 + b) * 11 + j by omega] at this
            exact this)) 6 (by omega)
          rw [← this]; exact g3
      · have hkl : k < (LNs (SX M)).2.2.length := by omega
        obtain ⟨A, hA⟩ : ∃ A, (LNs (SX M)).2.2[k]? = some A := ⟨_, List.getElem?_eq_getElem hkl⟩
        have hAm : A ∈ (LNs (SX M)).2.2 := List.mem_of_getElem? hA
        obtain ⟨c1, c2, c3⟩ := hst.2.2.2 k A hA
        have hFit := (LN_kept (SX M) A hAm).2
        have hplc : ∀ t i, 0 ≤ t → t < (SX M).1 → 0 ≤ i → i < (SX M).2.1 t → Pl (SX M) (bxc (N 11 k)) (offS (SX M)) t i = plL (SX M) A t i := fun t i a1 a2 a3 a4 => Pl_congr c3 ⟨a1, a2⟩ ⟨a3, a4⟩
        have hAdj : ∀ u w, Adj (SX M) all0 (Pl (SX M) (bxc (N 11 k)) (offS (SX M))) u w ↔ Adj (SX M) all0 (plL (SX M) A) u w := Adj_iff rfl (fun _ _ _ => rfl) (fun _ _ _ => Iff.rfl) hplc
        refine ⟨_, rfl, ⟨by omega, by omega⟩, _, rfl, hwN, c1, c2, ?_, fun N1 g1 g2 g3 => ?_⟩
        · rw [eS]; exact (FT_iff rfl (fun _ _ _ => rfl) (fun _ _ _ => Iff.rfl) hplc).mpr hFit
        · rw [eS] at g3
          have hJ1 : JN N1 (Adj (SX M) all0 (plL (SX M) A)) := ⟨g3.1, fun u w a1 a2 a3 a4 => by rw [g3.2 u w a1 a2 a3 a4]; exact hAdj u w⟩
          have hV1 : wV N1 := by unfold wV; rw [g1 13 (by decide) (by decide), g1 14 (by decide) (by decide)]; exact hV
          refine ⟨rfl, _, hJ1, hV1, fun N2 j1 j2 j3 => ⟨_, rfl, Adj (SX M) all0 (plL (SX M) A), ?_, ?_, ?_, hx, fun N3 l1 l2 l3 => ?_⟩⟩
          · unfold JN wJ; rw [j1 9 (by decide) (by decide)]; exact hJ1
          · refine Adj_in10 (fun t i a1 a2 a3 a4 => ?_)
            rw [← hplc t i a1 a2 a3 a4]
            exact Pl_b (wfS_of hw) (fun s b1 b2 => ⟨bxc_0, c2 s b1 (by omega)⟩) ⟨a1, a2⟩ ⟨a3, a4⟩
          · have p5 : N2 5 = M 5 := by rw [j1 5 (by decide) (by decide), g1 5 (by decide) (by decide)]; exact e5
            have p6 : N2 6 = M 6 := by rw [j1 6 (by decide) (by decide), g1 6 (by decide) (by decide)]; exact e6
            unfold wT; rw [p5, p6]; exact hw.2.1
          · have fr : ∀ c, c ≠ 8 → c ≠ 9 → c ≠ 13 → c ≠ 14 → c ≠ 15 → N3 c = N c := fun c q1 q2 q3 q4 q5 => by rw [l1 c q5, j1 c q3 q4]; exact g1 c q1 q2
            have p5 : N2 5 = M 5 := by rw [j1 5 (by decide) (by decide), g1 5 (by decide) (by decide)]; exact e5
            have n13 : N3 13 = N2 13 := l1 13 (by decide)
            have n14 : N3 14 = N2 14 := l1 14 (by decide)
            have m13 : N1 13 = N 13 := g1 13 (by decide) (by decide)
            have m14 : N1 14 = N 14 := g1 14 (by decide) (by decide)
            have m15 : N2 15 = N 15 := by rw [j1 15 (by decide) (by decide), g1 15 (by decide) (by decide)]
            refine hK N3 hkl (fun c hc => by rw [fr c (by omega) (by omega) (by omega) (by omega) (by omega)]; exact hf c hc) (by rw [fr 10 (by decide) (by decide) (by decide) (by decide) (by decide)]; exact h4) (by rw [stO_eq (fr 10 (by decide) (by decide) (by decide) (by decide) (by decide)) (fr 11 (by decide) (by decide) (by decide) (by decide) (by decide))]; exact hst) (by rw [fr 12 (by decide) (by decide) (by decide) (by decide) (by decide)]; exact h7) ?_ (fun u w a1 a2 a3 a4 => ?_) (fun a b d a0 ab b6 d0 d9 ta tb' => ?_) (fun j j0 j1' => ?_)
            · unfold wV; rw [n13, n14]; exact j2
            · rw [n13, n14, (j3 u w a1 a2 a3 a4).1, (j3 u w a1 a2 a3 a4).2, m13, m14, (hbits u w a1 a2 a3 a4).1, (hbits u w a1 a2 a3 a4).2]
              constructor
              · constructor
                · rintro (⟨B, hB, z⟩ | z)
                  · exact ⟨B, (take_mem hA).mpr (Or.inl hB), z⟩
                  · exact ⟨A, (take_mem hA).mpr (Or.inr rfl), z⟩
                · rintro ⟨B, hB, z⟩
                  rcases (take_mem hA).mp hB with hB | rfl
                  · exact Or.inl ⟨B, hB, z⟩
                  · exact Or.inr z
              · constructor
                · rintro ⟨z1, z2⟩ B hB
                  rcases (take_mem hA).mp hB with hB | rfl
                  · exact z1 B hB
                  · exact z2
                · intro z
                  exact ⟨fun B hB => z B ((take_mem hA).mpr (Or.inl hB)), z A ((take_mem hA).mpr (Or.inr rfl))⟩
            · rw [l2 a b d a0 ab b6 d0 d9 ta tb', m15, hheap a b d a0 ab b6 d0 d9 ta tb', p5, cP_take hA, Int.natCast_add]
            · have := l3 j
              rw [m15] at this
              have := hhb j j0 j1'
              omega
    refine main _ (fun N' q0 q1 q2 q3 q4 q5 q6 q7 q8 => ⟨⟨x, k + 1, rfl, rfl, rfl, hx, hxn, by omega, q1, q2, q3, q4, q5, q6, q7, q8⟩, by (change Int.toNat _ < Int.toNat _); omega⟩)
theorem k_X3_make {l : Launch} {D : va_G} {T : Nat → ClassId} {ad : Nat → Nat} (hO : xOk ad LX) : xMet l D T ad LX yX3_make cX3_make 4 none true 11 sp_X3_make :=
  xmet (rt := 0) (fld := fldX3) (cals := (calX3_make sp_J7_fill_53178 sp_X2_names sp_X0_many sp_X0_code sp_X1_takeUp sp_X3_addLines sp_X3_addWays sp_X3_choosePair)) (cst := []) (I := iX3_make) (cut := cutX3_make) hO (by decide +kernel) ⟨by decide, by decide, by decide⟩ oX3_make foX3 (fun _ h => absurd h List.not_mem_nil) (List.forall_mem_cons.mpr ⟨⟨yJ7_fill_53178, cJ7_fill_53178, 4, none, 0, 2, by decide, yoJ7_fill_53178, k_J7_fill_53178 hO, loX3_66, Or.inl ⟨rfl, rfl⟩⟩, List.forall_mem_cons.mpr ⟨⟨yX2_names, cX2_names, 5, (some .int), 1, 0, by decide, yoX2_names, k_X2_names hO, loX3_72, Or.inr ⟨rfl, rfl, 1, 2, [some 2, some 3, none], TX2, 3, rfl, rfl, spV0_r⟩⟩, List.forall_mem_cons.mpr ⟨⟨yX0_many, cX0_many, 1, (some .int), 10, 0, by decide, yoX0_many, k_X0_many hO, loX3_78, Or.inr ⟨rfl, rfl, 10, 0, [some 1, some 4, some 7, some 11, none, none, none, none, none, none], TX0, 10, rfl, rfl, spV0_r⟩⟩, List.forall_mem_cons.mpr ⟨⟨yX0_code, cX0_code, 2, (some .int), 0, 1, by decide, yoX0_code, k_X0_code hO, loX3_83, Or.inr ⟨rfl, rfl, 10, 0, [some 1, some 4, some 7, some 11, none, none, none, none, none, none], TX0, 10, rfl, rfl, spV1_r⟩⟩, List.forall_mem_cons.mpr ⟨⟨yX1_takeUp, cX1_takeUp, 3, none, 4, 1, by decide, yoX1_takeUp, k_X1_takeUp hO, loX3_48, Or.inr ⟨rfl, rfl, 7, 1, [some 1, some 4, some 8, some 9], TX1, 4, rfl, rfl, spV1_r⟩⟩, List.forall_mem_cons.mpr ⟨⟨yX3_addLines, cX3_addLines, 2, none, 2, 0, by decide, yoX3_addLines, k_X3_addLines hO, loX3_87, Or.inr ⟨rfl, rfl, 12, 3, [some 1, some 4, some 7, some 10, some 13, some 14, some 15, none, none, none], TX3, 10, rfl, rfl, spV0_r⟩⟩, List.forall_mem_cons.mpr ⟨⟨yX3_addWays, cX3_addWays, 4, none, 2, 1, by decide, yoX3_addWays, k_X3_addWays hO, loX3_90, Or.inr ⟨rfl, rfl, 12, 3, [some 1, some 4, some 7, some 10, some 13, some 14, some 15, none, none, none], TX3, 10, rfl, rfl, spV1_r⟩⟩, List.forall_mem_cons.mpr ⟨⟨yX3_choosePair, cX3_choosePair, 4, none, 3, 1, by decide, yoX3_choosePair, k_X3_choosePair hO, loX3_93, Or.inr ⟨rfl, rfl, 12, 3, [some 1, some 4, some 7, some 10, some 13, some 14, some 15, none, none, none], TX3, 10, rfl, rfl, spV1_r⟩⟩, fun _ h => absurd h List.not_mem_nil⟩⟩⟩⟩⟩⟩⟩⟩) b_X3_make

