/-! LeastNets.seek: the search goes through the enumeration; then many -/
theorem rng_split {b : Nat} : ∀ {n : Nat}, b < n → ∃ tl, List.range n = List.range b ++ b :: tl := by
  intro n
  induction n with
  | zero => intro h; omega
  | succ n ih =>
    intro h
    rw [List.range_succ]
    by_cases hb : b = n
    · subst hb; exact ⟨[], rfl⟩
    · obtain ⟨tl, e⟩ := ih (by omega)
      exact ⟨tl ++ [n], by rw [e]; simp⟩
def NB (M : xM) : Prop := (0 ≤ M 10 9 ∧ M 10 9 < 64) ∧ ∀ b, 0 ≤ b → b < 6 → (tb (M 10 9) b ↔ thB (SX M) b)
noncomputable def FO (S : dS) (l : List (List Int)) : lSt := l.foldl (stp (Fit S) (nlL S)) init0
theorem FO_app (S : dS) (l l' : List (List Int)) : FO S (l ++ l') = l'.foldl (stp (Fit S) (nlL S)) (FO S l) := by unfold FO; rw [List.foldl_append]
def f_X0_seek (d : Nat) (i nw : Int) (M : xM) (Post : xR) : Prop := ∃ (k w : Nat) (p : List Int) (done rest : List (List Int)), i = k ∧ nw = w ∧ wS M ∧ wA M ∧ k ≤ mS (SX M) ∧ mS (SX M) ≤ d + k ∧ M 10 8 = mS (SX M) ∧ NB M ∧ p.length = k ∧ (∀ s, 0 ≤ s → s < (k : Int) → M 8 s = lkA p s ∧ lkA p s < 6 + (w : Int)) ∧ w = nwL p 0 ∧ done ++ ((enm (thB (SX M)) (mS (SX M) - k) w).map (fun l => p ++ l) ++ rest) = enm (thB (SX M)) (mS (SX M)) 0 ∧ stO M (SX M) (FO (SX M) done) ∧ FT (SX M) all0 (plX M) ∧ JN M (Adj (SX M) all0 (plX M)) ∧ ∀ M' : xM, (∀ c, c ≠ 8 → c ≠ 9 → c ≠ 10 → c ≠ 11 → M' c = M c) → M' 10 4 = M 10 4 → M' 10 8 = M 10 8 → M' 10 9 = M 10 9 → wA M' → (∀ s, 0 ≤ s → s < (k : Int) → M' 8 s = M 8 s) → stO M' (SX M) (FO (SX M) (done ++ (enm (thB (SX M)) (mS (SX M) - k) w).map (fun l => p ++ l))) → Post 0 M'
def sp_X0_seekD (d : Nat) : xT := fun as M Post => ∃ i nw, as = [.inr 10, .inl i, .inl nw] ∧ f_X0_seek d i nw M Post
theorem lkA_app {p : List Int} {b s : Int} (hs : 0 ≤ s) : lkA (p ++ [b]) s = if s < p.length then lkA p s else if s = p.length then b else 0 := by
  unfold lkA
  rw [List.getD_eq_getElem?_getD]
  by_cases h : s < p.length
  · rw [if_pos h, List.getElem?_append_left (by omega), List.getD_eq_getElem?_getD]
  · rw [if_neg h, List.getElem?_append_right (by omega)]
    by_cases h2 : s = p.length
    · rw [if_pos h2, show s.toNat - p.length = 0 by omega]; rfl
    · rw [if_neg h2, List.getElem?_eq_none (by simp; omega)]; rfl
theorem lkA_pre {p l : List Int} {s : Int} (hs : 0 ≤ s ∧ s < p.length) : lkA (p ++ l) s = lkA p s := by
  unfold lkA
  rw [List.getD_eq_getElem?_getD, List.getD_eq_getElem?_getD, List.getElem?_append_left (by omega)]
set_option maxRecDepth 100000 in
set_option maxHeartbeats 4000000 in
theorem b_X0_seek (d : Nat) (tS : xT) (hrec : ∀ d', d = d' + 1 → ∀ i nw M Post, f_X0_seek d' i nw M Post → tS [.inr 10, .inl i, .inl nw] M Post) (as : List xV) (M : xM) (Post : xR) (h : sp_X0_seekD d as M Post) : as.length ≤ 5 ∧ ∃ (Inv : xG) (μ : Nat → xL → List xV → xM → Nat) (f0 f1 : Nat), xw LX fldX0 (calX0_seek sp_X0_keep sp_X0_mayTake sp_X1_place sp_X2_all sp_X1_fits tS) [] 0 Post iX0_seek cutX0_seek Inv f0 0 (xlv as 5) [] M ∧ ∀ pc lv st M', Inv pc lv st M' → xw LX fldX0 (calX0_seek sp_X0_keep sp_X0_mayTake sp_X1_place sp_X2_all sp_X1_fits tS) [] 0 Post iX0_seek cutX0_seek (fun pc2 lv2 st2 M2 => Inv pc2 lv2 st2 M2 ∧ μ pc2 lv2 st2 M2 < μ pc lv st M') f1 pc lv st M' := by
  obtain ⟨v1, v2, rfl, k, w, p, done, rest, rfl, rfl, hw, hA, hk, hkd, hm, hNB, hpl, hpv, hpw, hsplit, hst, hF, hJ, hp⟩ := h
  have hm4 := mS_4 (wfS_of hw)
  have hwk : w ≤ k := by rw [hpw, ← hpl]; have := nwL_le p 0; omega
  refine ⟨by simp, (fun pc lv st N => ∃ (b : Nat) (o4 : Option xV), pc = 21 ∧ lv = [some (.inr 10), some (.inl (k : Int)), some (.inl (w : Int)), some (.inl (b : Int)), o4] ∧ st = [] ∧ b ≤ 7 + w ∧ k < mS (SX M) ∧ (∀ c, c ≠ 8 → c ≠ 9 → c ≠ 10 → c ≠ 11 → N c = M c) ∧ N 10 4 = M 10 4 ∧ N 10 8 = M 10 8 ∧ N 10 9 = M 10 9 ∧ wA N ∧ (∀ s, 0 ≤ s → s < (k : Int) → N 8 s = M 8 s) ∧ stO N (SX M) (FO (SX M) (done ++ ((List.range b).flatMap (brn (thB (SX M)) (enm (thB (SX M)) (mS (SX M) - k - 1)) w)).map (fun l => p ++ l)))), (fun pc lv st N => match lv with | [_, _, _, some (.inl b), _] => (20 - b).toNat | _ => 0), 400, 400, Eq.mpr (vcX0_seek_0 ..) ?_, ?_⟩
  · have hkeep : (k : Int) = mS (SX M) → sp_X0_keep [.inr 10, .inl (w : Int)] M (fun _ M1 => Post 0 M1) := by
      intro hkm
      have hkm : k = mS (SX M) := by omega
      rw [← hkm, Nat.sub_self] at hsplit
      have hkl := kept_le (th := thB (SX M)) (Fit := Fit (SX M)) (nl := nlL (SX M)) hm4 (forb (wfS_of hw)) (l := done) (by rw [← hkm]; exact hsplit)
      have hf1 := fold_1 (S := SX M) done init0 (by decide) (by decide)
      refine ⟨_, rfl, p, FO (SX M) done, hw, hA, fun u a1 a2 => (hpv u a1 (by omega)).1, hF, hJ, by rw [hpw], by rw [← hpw]; omega, hst, hf1.1, hf1.2, Nat.lt_of_le_of_lt hkl (by omega), fun M' g1 g2 g3 g4 g5 => ?_⟩
      refine hp M' (fun c _ _ q1 q2 => g1 c q1 q2) g2 g3 g4 (by unfold wA; rw [g1 8 (by decide) (by decide)]; exact hA) (fun s _ _ => by rw [g1 8 (by decide) (by decide)]) ?_
      rw [← hkm, Nat.sub_self, FO_app]
      show stO M' (SX M) (stp (Fit (SX M)) (nlL (SX M)) (FO (SX M) done) (p ++ []))
      rw [List.append_nil]
      exact g5
    rw [hm]
    refine ⟨⟨by omega, by omega⟩, ⟨by omega, by omega⟩, fun q => hkeep (by omega), fun q => ⟨⟨by omega, by omega⟩, ⟨by omega, by omega⟩, fun q1 => ⟨0, none, rfl, rfl, rfl, by omega, by omega, fun _ _ _ _ _ => rfl, rfl, rfl, rfl, hA, fun _ _ _ => rfl, ?_⟩, fun q1 => by omega⟩⟩
    show stO M (SX M) (FO (SX M) (done ++ []))
    rw [List.append_nil]
    exact hst
  · rintro pc lv st N ⟨b, o4, rfl, rfl, rfl, hb, hkm, h1, h2, h3, h4, h5, h6, h7⟩
    have e1 : N 1 = M 1 := h1 1 (by decide) (by decide) (by decide) (by decide)
    have e2 : N 2 = M 2 := h1 2 (by decide) (by decide) (by decide) (by decide)
    have e3 : N 3 = M 3 := h1 3 (by decide) (by decide) (by decide) (by decide)
    have e5 : N 5 = M 5 := h1 5 (by decide) (by decide) (by decide) (by decide)
    have e6 : N 6 = M 6 := h1 6 (by decide) (by decide) (by decide) (by decide)
    have hwN : wS N := by rw [wS_eq e1 e2 e3 e5 e6]; exact hw
    have eS : SX N = SX M := SX_eq e1 e2 e3 e5
    obtain ⟨r, hr⟩ : ∃ r, mS (SX M) - k = r + 1 := ⟨mS (SX M) - k - 1, by omega⟩
    have hr1 : mS (SX M) - k - 1 = r := by omega
    rw [hr1] at h7
    rw [hr] at hsplit hp
    have hEn : enm (thB (SX M)) (r + 1) w = (List.range (7 + w)).flatMap (brn (thB (SX M)) (enm (thB (SX M)) r) w) := rfl
    have stepFO : FO (SX M) (done ++ ((List.range (b + 1)).flatMap (brn (thB (SX M)) (enm (thB (SX M)) r) w)).map (fun l => p ++ l)) = ((brn (thB (SX M)) (enm (thB (SX M)) r) w b).map (fun l => p ++ l)).foldl (stp (Fit (SX M)) (nlL (SX M))) (FO (SX M) (done ++ ((List.range b).flatMap (brn (thB (SX M)) (enm (thB (SX M)) r) w)).map (fun l => p ++ l))) := by
      rw [← FO_app, List.range_succ, List.flatMap_append, List.map_append, List.append_assoc]
      show FO (SX M) (done ++ (_ ++ (([b] : List Nat).flatMap _).map _)) = _
      rw [List.flatMap_cons, List.flatMap_nil, List.append_nil]
    have main : ∀ K : xG, (∀ (o : Option xV) (N' : xM), b ≤ 6 + w → (∀ c, c ≠ 8 → c ≠ 9 → c ≠ 10 → c ≠ 11 → N' c = M c) → N' 10 4 = M 10 4 → N' 10 8 = M 10 8 → N' 10 9 = M 10 9 → wA N' → (∀ s, 0 ≤ s → s < (k : Int) → N' 8 s = M 8 s) → stO N' (SX M) (FO (SX M) (done ++ ((List.range (b + 1)).flatMap (brn (thB (SX M)) (enm (thB (SX M)) r) w)).map (fun l => p ++ l))) → K 21 [some (.inr 10), some (.inl (k : Int)), some (.inl (w : Int)), some (.inl ((b : Int) + 1)), o] [] N') → xw LX fldX0 (calX0_seek sp_X0_keep sp_X0_mayTake sp_X1_place sp_X2_all sp_X1_fits tS) [] 0 Post iX0_seek cutX0_seek K 400 21 [some (.inr 10), some (.inl (k : Int)), some (.inl (w : Int)), some (.inl (b : Int)), o4] [] N := by
      intro K hK
      refine Eq.mpr (vcX0_seek_21 ..) ?_
      have hf1 := fold_1 (S := SX M) (done ++ ((List.range b).flatMap (brn (thB (SX M)) (enm (thB (SX M)) r) w)).map (fun l => p ++ l)) init0 (by decide) (by decide)
      have h71 := h7.1
      generalize hsg : FO (SX M) (done ++ ((List.range b).flatMap (brn (thB (SX M)) (enm (thB (SX M)) r) w)).map (fun l => p ++ l)) = sg at h7 stepFO h71
      have hsg1 : sg.1 ≤ 4 := by rw [← hsg]; exact hf1.1
      have keepSt : b ≤ 6 + w → (∀ B ∈ (brn (thB (SX M)) (enm (thB (SX M)) r) w b).map (fun l => p ++ l), ¬ (Fit (SX M) B ∧ (nwL B 0 < sg.1 ∨ nwL B 0 = sg.1 ∧ nlL (SX M) B ≤ sg.2.1))) → ∀ N' : xM, stO N' (SX M) sg → stO N' (SX M) (FO (SX M) (done ++ ((List.range (b + 1)).flatMap (brn (thB (SX M)) (enm (thB (SX M)) r) w)).map (fun l => p ++ l))) := by
        intro _ hB N' hN'
        rw [stepFO, fold_id hB]
        exact hN'
      have brm : ∀ B ∈ (brn (thB (SX M)) (enm (thB (SX M)) r) w b).map (fun l => p ++ l), okB (thB (SX M)) b ∧ ∃ l', l' ∈ enm (thB (SX M)) r (nwS w b) ∧ B = p ++ (b : Int) :: l' := by
        intro B hB
        obtain ⟨l, hl, rfl⟩ := List.mem_map.mp hB
        obtain ⟨hok, l', hl', rfl⟩ := brn_mem.mp hl
        exact ⟨hok, l', hl', rfl⟩
      have branch : ∀ (nt : Nat) (o : Option xV), b ≤ 6 + w → nt = nwS w b → sp_X0_mayTake [.inr 10, .inl (b : Int), .inl (nt : Int)] N (fun r1 M1 => rg r1 ∧ (r1 = 0 → K 21 [some (.inr 10), some (.inl (k : Int)), some (.inl (w : Int)), some (.inl ((b : Int) + 1)), o] [] M1) ∧ (r1 ≠ 0 → sp_X1_place [.inr 7, .inl (k : Int), .inl (b : Int), .inl (nt : Int)] M1 (fun _ M2 => sp_X2_all [.inr 1] M2 (fun r3 M3 => sp_X1_fits [.inr 7, .inl r3] M3 (fun r4 M4 => rg r4 ∧ (r4 = 0 → K 21 [some (.inr 10), some (.inl (k : Int)), some (.inl (w : Int)), some (.inl ((b : Int) + 1)), o] [] M4) ∧ (r4 ≠ 0 → tS [.inr 10, .inl ((k : Int) + 1), .inl (nt : Int)] M4 (fun _ M5 => K 21 [some (.inr 10), some (.inl (k : Int)), some (.inl (w : Int)), some (.inl ((b : Int) + 1)), o] [] M5))))))) := by
        intro nt o hbw hnt
        have hnt2 : nt ≤ w + 1 ∧ w ≤ nt ∧ b < 6 + nt := by
          rw [hnt]; unfold nwS; split <;> omega
        refine ⟨_, _, rfl, ⟨by omega, by omega⟩, ⟨by omega, by omega⟩, ⟨by omega, by omega⟩, by rw [h4]; exact hNB.1, fun r1 hr1 => ⟨⟨by omega, by omega⟩, fun q => hK o N hbw h1 h2 h3 h4 h5 h6 (keepSt hbw (fun B hB hc => ?_) N h7), fun q => ⟨_, _, _, rfl, ⟨by omega, by omega⟩, fun N2 g1 g2 g3 g4 => ⟨rfl, ?_, _, rfl, ?_, ?_, ?_, fun r4 N4 k1 k2 k3 => ?_⟩⟩⟩⟩
        · obtain ⟨hok, l', hl', rfl⟩ := brm B hB
          rcases hr1 with ⟨a, _⟩ | ⟨_, a | ⟨a1, a2⟩⟩
          · omega
          · have e : nwL (p ++ (b : Int) :: l') 0 = nwL l' (nwS w b) := by
              rw [nwL_app, ← hpw, nwS_c]; rfl
            have := nwL_ge l' (nwS w b)
            rw [e] at hc
            have hc2 := hc.2
            omega
          · rcases hok with z | z
            · omega
            · rw [h4] at a2
              exact a2 ((hNB.2 b (by omega) a1).mpr z)
        all_goals
          have f1 : N2 1 = M 1 := by rw [g1 1 (by decide)]; exact e1
          have f2 : N2 2 = M 2 := by rw [g1 2 (by decide)]; exact e2
          have f3 : N2 3 = M 3 := by rw [g1 3 (by decide)]; exact e3
          have f5 : N2 5 = M 5 := by rw [g1 5 (by decide)]; exact e5
          have f6 : N2 6 = M 6 := by rw [g1 6 (by decide)]; exact e6
          have hwN2 : wS N2 := by rw [wS_eq f1 f2 f3 f5 f6]; exact hw
          have eS2 : SX N2 = SX M := SX_eq f1 f2 f3 f5
        · rw [f1]; exact hw.1.1
        · exact hwN2
        · intro s a1 a2
          by_cases hs : s < k
          · rw [g2 s hs]; exact h5 s a1 a2
          · by_cases hs2 : s = k
            · rw [hs2, g3]; omega
            · rw [g4 s (by omega) a2]; omega
        · rw [f1]; exact all_b hw.1.1
        · have hqa : ∀ t, 0 ≤ t → t < (SX M).1 → (tb (((2 ^ (N2 1 2).toNat : Nat) : Int) - 1) t ↔ all0 t) := fun t a1 a2 => by
            rw [f1, tb_all hw.1.1.1 a1]
            exact ⟨fun _ => trivial, fun _ => a2⟩
          rw [eS2] at k3
          have hok : okB (thB (SX M)) b := by
            rcases hr1 with ⟨_, _, a | ⟨a1, a2⟩⟩ | ⟨a, _⟩
            · exact Or.inl (by omega)
            · rw [h4] at a2
              exact Or.inr ((hNB.2 b (by omega) a1).mp a2)
            · omega
          have pre2 : ∀ s, 0 ≤ s → s < (k : Int) + 1 → N2 8 s = lkA (p ++ [(b : Int)]) s ∧ lkA (p ++ [(b : Int)]) s < 6 + (nt : Int) := by
            intro s a1 a2
            rw [lkA_app a1, hpl]
            by_cases hs : s < k
            · rw [if_pos hs, g2 s hs, h6 s a1 hs]
              have := hpv s a1 hs
              exact ⟨this.1, by omega⟩
            · rw [if_neg hs, if_pos (by omega), show s = k by omega, g3]
              exact ⟨rfl, by omega⟩
          have fr4 : ∀ c, c ≠ 8 → c ≠ 9 → c ≠ 10 → c ≠ 11 → N4 c = M c := fun c q1 q2 q3 q4 => by rw [k1 c q2, g1 c q1]; exact h1 c q1 q2 q3 q4
          have f10 : N4 10 = N 10 := by rw [k1 10 (by decide)]; exact g1 10 (by decide)
          have f11 : N4 11 = N 11 := by rw [k1 11 (by decide)]; exact g1 11 (by decide)
          have f8 : N4 8 = N2 8 := k1 8 (by decide)
          have wA4 : wA N4 := by
            intro s a1 a2
            rw [f8]
            by_cases hs : s < k
            · rw [g2 s hs]; exact h5 s a1 a2
            · by_cases hs2 : s = k
              · rw [hs2, g3]; omega
              · rw [g4 s (by omega) a2]; omega
          have st4 : stO N4 (SX M) sg := by rw [stO_eq f10 f11]; exact h7
          have ePl4 : plX N4 = plX N2 := plX_eq (k1 1 (by decide)) (k1 2 (by decide)) (k1 3 (by decide)) (k1 5 (by decide)) f8
          have eS4 : SX N4 = SX M := by rw [SX_eq (k1 1 (by decide)) (k1 2 (by decide)) (k1 3 (by decide)) (k1 5 (by decide))]; exact eS2
          refine ⟨⟨by omega, by omega⟩, fun q4 => hK o N4 hbw fr4 (by rw [f10]; exact h2) (by rw [f10]; exact h3) (by rw [f10]; exact h4) wA4 (fun s a1 a2 => by rw [f8, g2 s a2]; exact h6 s a1 a2) (keepSt hbw (fun B hB hc => ?_) N4 st4), fun q4 => ?_⟩
          · rcases k3 with ⟨a, _⟩ | ⟨_, hnF⟩
            · omega
            · refine hnF ((FT_iff rfl (fun _ _ _ => rfl) hqa (fun _ _ _ _ _ _ => rfl)).mpr ?_)
              obtain ⟨_, l', hl', rfl⟩ := brm B hB
              have hlen := enm_len hl'
              have hlB : (p ++ (b : Int) :: l').length = mS (SX M) := by rw [List.length_append, List.length_cons, hlen]; omega
              have eB : ∀ s, 0 ≤ s → s < (k : Int) + 1 → lkA (p ++ (b : Int) :: l') s = N2 8 s := by
                intro s a1 a2
                rw [(pre2 s a1 a2).1, show p ++ (b : Int) :: l' = (p ++ [(b : Int)]) ++ l' by simp, lkA_pre ⟨a1, by simp; omega⟩]
              have hPl : plX N2 = Pl (SX M) (N2 8) (offS (SX M)) := by
                show Pl (SX N2) (N2 8) (offS (SX N2)) = _
                rw [eS2]
              rw [hPl]
              refine FT_loose (wfS_of hw) (fun t i a1 a2 a3 a4 a5 a6 => ?_) hc.1
              have hi := sil_m ⟨a1, a2⟩ ⟨a4, a5⟩ a6
              rw [Pl_sil a6, Pl_sil a6]
              generalize offS (SX M) t + cS (SX M).2.2.1 (t * 6) i.toNat = s at hi
              refine ⟨fun h6' => ?_, fun u j c1 c2 c3 c4 c5 c6 he => ?_⟩
              · by_cases hs : s < (k : Int) + 1
                · exact eB s hi.1 hs
                · rw [g4 s (by omega) (by omega)] at h6'
                  omega
              · have hi2 := sil_m ⟨c1, c2⟩ ⟨c4, c5⟩ c6
                rw [Pl_sil c6] at he ⊢
                generalize offS (SX M) u + cS (SX M).2.2.1 (u * 6) j.toNat = s2 at hi2 he
                by_cases hs : s < (k : Int) + 1 <;> by_cases hs2 : s2 < (k : Int) + 1
                · rw [eB s hi.1 hs, eB s2 hi2.1 hs2]; exact he
                · have := (pre2 s hi.1 hs)
                  rw [this.1, g4 s2 (by omega) (by omega)] at he
                  omega
                · have := (pre2 s2 hi2.1 hs2)
                  rw [this.1, g4 s (by omega) (by omega)] at he
                  omega
                · rw [g4 s (by omega) (by omega), g4 s2 (by omega) (by omega)] at he
                  rw [show s = s2 by omega]
          · rcases k3 with ⟨_, hF4, hJ4⟩ | ⟨a, _⟩
            · have hFa : FT (SX M) all0 (plX N4) := by rw [ePl4]; exact (FT_iff rfl (fun _ _ _ => rfl) hqa (fun _ _ _ _ _ _ => rfl)).mp hF4
              have hJa : JN N4 (Adj (SX M) all0 (plX N4)) := by
                rw [ePl4]
                refine ⟨hJ4.1, fun x y a1 a2 a3 a4 => ?_⟩
                rw [hJ4.2 x y a1 a2 a3 a4]
                exact Adj_iff rfl (fun _ _ _ => rfl) hqa (fun _ _ _ _ _ _ => rfl) x y
              obtain ⟨d', hd'⟩ : ∃ d', d = d' + 1 := ⟨d - 1, by omega⟩
              have hwN4 : wS N4 := by rw [wS_eq (k1 1 (by decide)) (k1 2 (by decide)) (k1 3 (by decide)) (k1 5 (by decide)) (k1 6 (by decide))]; exact hwN2
              obtain ⟨tl, htl⟩ := rng_split (b := b) (n := 7 + w) (by omega)
              have hbrn : brn (thB (SX M)) (enm (thB (SX M)) r) w b = (enm (thB (SX M)) r (nwS w b)).map (fun l => (b : Int) :: l) := by unfold brn; exact if_pos hok
              have hmr : mS (SX M) - (k + 1) = r := by omega
              have hmap : ((enm (thB (SX M)) r (nwS w b)).map (fun l => (b : Int) :: l)).map (fun l => p ++ l) = (enm (thB (SX M)) r nt).map (fun l => (p ++ [(b : Int)]) ++ l) := by
                rw [List.map_map, hnt]
                congr 1
                funext l
                simp
              refine hrec d' hd' _ _ _ _ ⟨k + 1, nt, p ++ [(b : Int)], done ++ ((List.range b).flatMap (brn (thB (SX M)) (enm (thB (SX M)) r) w)).map (fun l => p ++ l), (tl.flatMap (brn (thB (SX M)) (enm (thB (SX M)) r) w)).map (fun l => p ++ l) ++ rest, by omega, rfl, hwN4, wA4, ?_, ?_, ?_, ?_, by simp; omega, ?_, ?_, ?_, ?_, ?_, ?_, ?_⟩
              · rw [eS4]; omega
              · rw [eS4]; omega
              · rw [eS4, f10, h3]; exact hm
              · unfold NB; rw [eS4, f10, h4]; exact hNB
              · intro s a1 a2
                rw [f8]
                exact pre2 s a1 (by omega)
              · rw [nwL_app, ← hpw, hnt, nwS_c]; rfl
              · rw [eS4, hmr, ← hsplit, hEn, htl, List.flatMap_append, List.flatMap_cons, hbrn, ← hmap]
                simp only [List.map_append, List.append_assoc]
              · rw [eS4, hsg]; exact st4
              · rw [eS4]; exact hFa
              · rw [eS4]; exact hJa
              · intro M' j1 j2 j3 j4 j5 j6 j7
                rw [eS4, hmr, ← hmap, ← hbrn, FO_app, hsg, ← stepFO] at j7
                refine hK o M' hbw (fun c q1 q2 q3 q4 => by rw [j1 c q1 q2 q3 q4]; exact fr4 c q1 q2 q3 q4) (by rw [j2, f10]; exact h2) (by rw [j3, f10]; exact h3) (by rw [j4, f10]; exact h4) j5 (fun s a1 a2 => ?_) j7
                rw [j6 s a1 (by omega), f8, g2 s a2]
                exact h6 s a1 a2
            · omega
      refine ⟨⟨by omega, by omega⟩, ⟨by omega, by omega⟩, fun q => ?_, fun q => ⟨⟨by omega, by omega⟩, ⟨by omega, by omega⟩, fun q1 => by omega, fun q1 => ⟨⟨by omega, by omega⟩, ⟨by omega, by omega⟩, fun q2 => branch w _ (by omega) (by unfold nwS; rw [if_neg (by omega)]), fun q2 => branch (w + 1) _ (by omega) (by unfold nwS; rw [if_pos (by omega)])⟩⟩⟩
      have hb7 : b = 7 + w := by omega
      refine hp N h1 h2 h3 h4 h5 h6 ?_
      rw [hEn, ← hb7, hsg]
      exact h7
    refine main _ (fun o N' hbw q1 q2 q3 q4 q5 q6 q7 => ⟨⟨b + 1, o, rfl, rfl, rfl, by omega, hkm, q1, q2, q3, q4, q5, q6, by rw [hr1]; exact q7⟩, by (change Int.toNat _ < Int.toNat _); omega⟩)
theorem k_X0_seekD {l : Launch} {D : va_G} {T : Nat → ClassId} {ad : Nat → Nat} (hO : xOk ad LX) : ∀ d, xMet l D T ad LX yX0_seek cX0_seek 5 none true (4 + d) (sp_X0_seekD d) := by
  intro d
  induction d with
  | zero => exact xmet (rt := 0) (fld := fldX0) (cals := calX0_seek sp_X0_keep sp_X0_mayTake sp_X1_place sp_X2_all sp_X1_fits (fun _ _ _ => False)) (cst := []) (I := iX0_seek) (cut := cutX0_seek) hO (by decide +kernel) ⟨by decide, by decide, by decide⟩ oX0_seek foX0 (fun _ h => absurd h List.not_mem_nil) (List.forall_mem_cons.mpr ⟨⟨yX0_keep, cX0_keep, 3, none, 2, 1, by omega, yoX0_keep, k_X0_keep hO, loX0_81, Or.inr ⟨rfl, rfl, 10, 0, [some 1, some 4, some 7, some 11, none, none, none, none, none, none], TX0, 10, rfl, rfl, spV1_r⟩⟩, List.forall_mem_cons.mpr ⟨⟨yX0_mayTake, cX0_mayTake, 3, (some .boolean), 1, 2, by omega, yoX0_mayTake, k_X0_mayTake hO, loX0_85, Or.inr ⟨rfl, rfl, 10, 0, [some 1, some 4, some 7, some 11, none, none, none, none, none, none], TX0, 10, rfl, rfl, spV2_r⟩⟩, List.forall_mem_cons.mpr ⟨⟨yX1_place, cX1_place, 4, none, 2, 3, by omega, yoX1_place, k_X1_place hO, loX0_89, Or.inr ⟨rfl, rfl, 7, 1, [some 1, some 4, some 8, some 9], TX1, 4, rfl, rfl, spV3_r⟩⟩, List.forall_mem_cons.mpr ⟨⟨yX2_all, cX2_all, 1, (some .int), 0, 0, by omega, yoX2_all, k_X2_all hO, loX0_61, Or.inr ⟨rfl, rfl, 1, 2, [some 2, some 3, none], TX2, 3, rfl, rfl, spV0_r⟩⟩, List.forall_mem_cons.mpr ⟨⟨yX1_fits, cX1_fits, 4, (some .boolean), 3, 1, by omega, yoX1_fits, k_X1_fits hO, loX0_78, Or.inr ⟨rfl, rfl, 7, 1, [some 1, some 4, some 8, some 9], TX1, 4, rfl, rfl, spV1_r⟩⟩, List.forall_mem_cons.mpr ⟨⟨yX0_seek, cX0_seek, 5, none, 0, 3, by omega, yoX0_seek, fun as M Post h => h.elim, loX0_68, Or.inl ⟨rfl, rfl⟩⟩, fun _ h => absurd h List.not_mem_nil⟩⟩⟩⟩⟩⟩) (b_X0_seek 0 (fun _ _ _ => False) (fun d' h => by omega))
  | succ d ih => exact xmet (rt := 0) (fld := fldX0) (cals := calX0_seek sp_X0_keep sp_X0_mayTake sp_X1_place sp_X2_all sp_X1_fits (sp_X0_seekD d)) (cst := []) (I := iX0_seek) (cut := cutX0_seek) hO (by decide +kernel) ⟨by decide, by decide, by decide⟩ oX0_seek foX0 (fun _ h => absurd h List.not_mem_nil) (List.forall_mem_cons.mpr ⟨⟨yX0_keep, cX0_keep, 3, none, 2, 1, by omega, yoX0_keep, k_X0_keep hO, loX0_81, Or.inr ⟨rfl, rfl, 10, 0, [some 1, some 4, some 7, some 11, none, none, none, none, none, none], TX0, 10, rfl, rfl, spV1_r⟩⟩, List.forall_mem_cons.mpr ⟨⟨yX0_mayTake, cX0_mayTake, 3, (some .boolean), 1, 2, by omega, yoX0_mayTake, k_X0_mayTake hO, loX0_85, Or.inr ⟨rfl, rfl, 10, 0, [some 1, some 4, some 7, some 11, none, none, none, none, none, none], TX0, 10, rfl, rfl, spV2_r⟩⟩, List.forall_mem_cons.mpr ⟨⟨yX1_place, cX1_place, 4, none, 2, 3, by omega, yoX1_place, k_X1_place hO, loX0_89, Or.inr ⟨rfl, rfl, 7, 1, [some 1, some 4, some 8, some 9], TX1, 4, rfl, rfl, spV3_r⟩⟩, List.forall_mem_cons.mpr ⟨⟨yX2_all, cX2_all, 1, (some .int), 0, 0, by omega, yoX2_all, k_X2_all hO, loX0_61, Or.inr ⟨rfl, rfl, 1, 2, [some 2, some 3, none], TX2, 3, rfl, rfl, spV0_r⟩⟩, List.forall_mem_cons.mpr ⟨⟨yX1_fits, cX1_fits, 4, (some .boolean), 3, 1, by omega, yoX1_fits, k_X1_fits hO, loX0_78, Or.inr ⟨rfl, rfl, 7, 1, [some 1, some 4, some 8, some 9], TX1, 4, rfl, rfl, spV1_r⟩⟩, List.forall_mem_cons.mpr ⟨⟨yX0_seek, cX0_seek, 5, none, 4 + d, 3, by omega, yoX0_seek, ih, loX0_68, Or.inl ⟨rfl, rfl⟩⟩, fun _ h => absurd h List.not_mem_nil⟩⟩⟩⟩⟩⟩) (b_X0_seek (d + 1) (sp_X0_seekD d) (fun d' h i nw M Post hf => by
      have : d' = d := by omega
      subst this
      exact ⟨i, nw, rfl, hf⟩))
abbrev sp_X0_seek : xT := sp_X0_seekD 5
theorem k_X0_seek {l : Launch} {D : va_G} {T : Nat → ClassId} {ad : Nat → Nat} (hO : xOk ad LX) : xMet l D T ad LX yX0_seek cX0_seek 5 none true 9 sp_X0_seek := k_X0_seekD hO 5
theorem nmS_X (M : xM) (n : Int) : nmIn M n ↔ nmS (SX M) n := Iff.rfl
theorem thB_bits {M : xM} (hw : wS M) {x y : Int} (hx : ∀ n, 0 ≤ n → n < 6 → (tb x n ↔ nmIn M n)) (hy : ∀ b, 0 ≤ b → b < 6 → (tb y b ↔ ∃ n, 0 ≤ n ∧ n < 6 ∧ tb x n ∧ M 5 n = b)) : ∀ b, 0 ≤ b → b < 6 → (tb y b ↔ thB (SX M) b) := by
  intro b h0 h1
  rw [hy b h0 h1]
  constructor
  · rintro ⟨n, a1, a2, a3, a4⟩
    exact ⟨n, a1, a2, a4, (hx n a1 a2).mp a3⟩
  · rintro ⟨n, a1, a2, a3, a4⟩
    exact ⟨n, a1, a2, (hx n a1 a2).mpr a4, a3⟩
/-- if the loosest does not FIT, none does -/
theorem none_fits {S : dS} (hw : wfS S) {A : Int → Int} (hA : ∀ j, 0 ≤ j → j < 4 → A j = 6 + j) (h : ¬ FT S all0 (Pl S A (offS S))) (B : List Int) : ¬ Fit S B := by
  intro hF
  have hm4 := mS_4 hw
  refine h (FT_loose hw (fun t i a1 a2 a3 a4 a5 a6 => ?_) hF)
  have hi := sil_m ⟨a1, a2⟩ ⟨a4, a5⟩ a6
  rw [Pl_sil a6, Pl_sil a6]
  generalize offS S t + cS S.2.2.1 (t * 6) i.toNat = s at hi
  refine ⟨fun h6 => ?_, fun u j c1 c2 c3 c4 c5 c6 he => ?_⟩
  · rw [hA s hi.1 (by omega)] at h6; omega
  · have hi2 := sil_m ⟨c1, c2⟩ ⟨c4, c5⟩ c6
    rw [Pl_sil c6] at he ⊢
    generalize offS S u + cS S.2.2.1 (u * 6) j.toNat = s2 at hi2 he
    rw [hA s hi.1 (by omega), hA s2 hi2.1 (by omega)] at he
    rw [show s = s2 by omega]
def f_X0_many (M : xM) (Post : xR) : Prop := wS M ∧ (M 10 4 = 0 ∨ M 10 4 = 1 ∧ stO M (SX M) (LNs (SX M))) ∧ ∀ M' : xM, (∀ c, c ≠ 8 → c ≠ 9 → c ≠ 10 → c ≠ 11 → M' c = M c) → M' 10 4 = 1 → stO M' (SX M) (LNs (SX M)) → Post ((LNs (SX M)).2.2.length : Nat) M'
abbrev sp_X0_many : xT := spV0 10 f_X0_many
set_option maxRecDepth 100000 in
set_option maxHeartbeats 4000000 in
theorem b_X0_many (as : List xV) (M : xM) (Post : xR) (h : sp_X0_many as M Post) : as.length ≤ 1 ∧ xw LX fldX0 (calX0_many sp_X2_silents sp_X2_names sp_X4_boxes sp_X2_all sp_X0_someFits sp_X0_seek) [] 1 Post iX0_many cutX0_many (fun _ _ _ _ => False) 400 0 (xlv as 1) [] M := by
  obtain ⟨rfl, h⟩ := h
  refine ⟨by simp, ?_⟩
  refine Eq.mpr (vcX0_many_0 ..) ?_
  obtain ⟨hw, hc, hp⟩ := h
  refine ⟨⟨by omega, by omega⟩, fun q => ⟨by omega, rfl, ?_⟩, fun q => ?_⟩
  rotate_left
  · rcases hc with hc | ⟨hc, hs⟩
    · omega
    · rw [hs.2.2.1]
      exact hp M (fun _ _ _ _ _ => rfl) hc hs
  · have hm4 := mS_4 (wfS_of hw)
    have g1 : ∀ (A : xM) (k v : Int), (∀ c, c ≠ 10 → A c = M c) → ∀ c, c ≠ 10 → xup A 10 k v c = M c := fun A k v hA c hc => by rw [xup_ne hc]; exact hA c hc
    generalize hM1 : xup (xup (xup (xup M 10 4 1) 10 5 0) 10 6 4) 10 7 100 = M1
    have a1 : ∀ c, c ≠ 10 → M1 c = M c := by rw [← hM1]; exact g1 _ _ _ (g1 _ _ _ (g1 _ _ _ (g1 _ _ _ (fun _ _ => rfl))))
    have w1 : ∀ A : xM, (∀ c, c ≠ 10 → A c = M c) → wS A := fun A hA => by rw [wS_eq (hA 1 (by decide)) (hA 2 (by decide)) (hA 3 (by decide)) (hA 5 (by decide)) (hA 6 (by decide))]; exact hw
    have s1 : ∀ A : xM, (∀ c, c ≠ 10 → A c = M c) → SX A = SX M := fun A hA => SX_eq (hA 1 (by decide)) (hA 2 (by decide)) (hA 3 (by decide)) (hA 5 (by decide))
    refine ⟨(w1 M1 a1).1, ?_⟩
    have em : sS (M1 2) (M1 3) (M1 1 2).toNat = (mS (SX M) : Nat) := by rw [← s1 M1 a1, mS_c]; rfl
    rw [em]
    dsimp only
    generalize hM2 : xup M1 10 8 (mS (SX M) : Nat) = M2
    have a2 : ∀ c, c ≠ 10 → M2 c = M c := by rw [← hM2]; exact g1 _ _ _ a1
    refine ⟨rfl, (w1 M2 a2).1, fun x x0 x1 hx => ⟨_, rfl, (w1 M2 a2).2.1, ⟨x0, x1⟩, fun y y0 y1 hy => ?_⟩⟩
    have hNb : ∀ b, 0 ≤ b → b < 6 → (tb y b ↔ thB (SX M) b) := by
      have := thB_bits (w1 M2 a2) hx hy
      rwa [s1 M2 a2] at this
    dsimp only
    generalize hM3 : xup M2 10 9 y = M3
    have a3 : ∀ c, c ≠ 10 → M3 c = M c := by rw [← hM3]; exact g1 _ _ _ a2
    have v4 : M3 10 4 = 1 := by rw [← hM3, ← hM2, ← hM1]; simp [xup]
    have v5 : M3 10 5 = 0 := by rw [← hM3, ← hM2, ← hM1]; simp [xup]
    have v6 : M3 10 6 = 4 := by rw [← hM3, ← hM2, ← hM1]; simp [xup]
    have v7 : M3 10 7 = 100 := by rw [← hM3, ← hM2, ← hM1]; simp [xup]
    have v8 : M3 10 8 = (mS (SX M) : Nat) := by rw [← hM3, ← hM2]; simp [xup]
    have v9 : M3 10 9 = y := by rw [← hM3]; simp [xup]
    have st3 : ∀ N : xM, N 10 = M3 10 → stO N (SX M) init0 := fun N hN => ⟨by rw [hN]; exact v6, by rw [hN]; exact v7, by rw [hN]; exact v5, fun j A hj => by simp [init0] at hj⟩
    have e1 : M3 1 = M 1 := a3 1 (by decide)
    refine ⟨rfl, ⟨by rw [e1]; exact hw.1.1.1, by rw [e1]; exact hw.1.1.2⟩, ?_⟩
    rw [e1]
    refine ⟨_, rfl, w1 M3 a3, all_b hw.1.1, fun r M5 k1 k2 k3 => ?_⟩
    have hqa : ∀ t, 0 ≤ t → t < (SX M).1 → (tb (((2 ^ (M 1 2).toNat : Nat) : Int) - 1) t ↔ all0 t) := fun t b1 b2 => by
      rw [tb_all hw.1.1.1 b1]
      exact ⟨fun _ => trivial, fun _ => b2⟩
    rw [s1 M3 a3] at k3
    have f10 : M5 10 = M3 10 := k1 10 (by decide) (by decide)
    have fr5 : ∀ c, c ≠ 8 → c ≠ 9 → c ≠ 10 → c ≠ 11 → M5 c = M c := fun c q1 q2 q3 _ => by rw [k1 c q1 q2]; exact a3 c q3
    have eS5 : SX M5 = SX M := SX_eq (fr5 1 (by decide) (by decide) (by decide) (by decide)) (fr5 2 (by decide) (by decide) (by decide) (by decide)) (fr5 3 (by decide) (by decide) (by decide) (by decide)) (fr5 5 (by decide) (by decide) (by decide) (by decide))
    have hPl5 : plX M5 = Pl (SX M) (M5 8) (offS (SX M)) := by
      show Pl (SX M5) (M5 8) (offS (SX M5)) = _
      rw [eS5]
    refine ⟨⟨by omega, by omega⟩, fun q5 => ?_, fun q5 => ?_⟩
    · rcases k3 with ⟨a, _⟩ | ⟨_, hnF⟩
      · omega
      · have hnF' : ¬ FT (SX M) all0 (Pl (SX M) (M5 8) (offS (SX M))) := fun z => hnF ((FT_iff rfl (fun _ _ _ => rfl) hqa (fun _ _ _ _ _ _ => rfl)).mpr (by rw [hPl5]; exact z))
        have hL : LNs (SX M) = init0 := fold_id (fun A _ hc => none_fits (wfS_of hw) k2 hnF' A hc.1)
        have e5 : M5 10 5 = (((LNs (SX M)).2.2.length : Nat) : Int) := by rw [f10, v5, hL]; rfl
        rw [e5]
        exact hp M5 fr5 (by rw [f10]; exact v4) (by rw [hL]; exact st3 M5 f10)
    · rcases k3 with ⟨_, hF5, hJ5⟩ | ⟨a, _⟩
      · have hw5 : wS M5 := by rw [wS_eq (fr5 1 (by decide) (by decide) (by decide) (by decide)) (fr5 2 (by decide) (by decide) (by decide) (by decide)) (fr5 3 (by decide) (by decide) (by decide) (by decide)) (fr5 5 (by decide) (by decide) (by decide) (by decide)) (fr5 6 (by decide) (by decide) (by decide) (by decide))]; exact hw
        refine ⟨_, _, rfl, 0, 0, [], [], [], rfl, rfl, hw5, fun s b1 b2 => by rw [k2 s b1 b2]; omega, Nat.zero_le _, ?_, ?_, ?_, rfl, fun s b1 b2 => by omega, rfl, ?_, ?_, ?_, ?_, fun M' j1 j2 j3 j4 j5 j6 j7 => ?_⟩
        · rw [eS5]; omega
        · rw [eS5, f10]; exact v8
        · unfold NB
          rw [eS5, f10, v9]
          exact ⟨⟨y0, y1⟩, hNb⟩
        · rw [eS5, List.append_nil]
          show (enm _ _ _).map (fun l => [] ++ l) = _
          simp
        · rw [eS5]; exact st3 M5 f10
        · rw [eS5]; exact (FT_iff rfl (fun _ _ _ => rfl) hqa (fun _ _ _ _ _ _ => rfl)).mp hF5
        · rw [eS5]
          refine ⟨hJ5.1, fun x y b1 b2 b3 b4 => ?_⟩
          rw [hJ5.2 x y b1 b2 b3 b4]
          exact Adj_iff rfl (fun _ _ _ => rfl) hqa (fun _ _ _ _ _ _ => rfl) x y
        · have hfin : stO M' (SX M) (LNs (SX M)) := by
            rw [eS5] at j7
            have e : ([] ++ (enm (thB (SX M)) (mS (SX M) - 0) 0).map (fun l => [] ++ l) : List (List Int)) = enm (thB (SX M)) (mS (SX M)) 0 := by simp
            rw [e] at j7
            exact j7
          show Post (M' 10 5) M'
          rw [hfin.2.2.1]
          exact hp M' (fun c q1 q2 q3 q4 => by rw [j1 c q1 q2 q3 q4]; exact fr5 c q1 q2 q3 q4) (by rw [j2, f10]; exact v4) hfin
      · omega
theorem k_X0_many {l : Launch} {D : va_G} {T : Nat → ClassId} {ad : Nat → Nat} (hO : xOk ad LX) : xMet l D T ad LX yX0_many cX0_many 1 (some .int) false 10 sp_X0_many :=
  xmet0 (rt := 1) (fld := fldX0) (cals := (calX0_many sp_X2_silents sp_X2_names sp_X4_boxes sp_X2_all sp_X0_someFits sp_X0_seek)) (cst := []) (I := iX0_many) (cut := cutX0_many) hO (by decide +kernel) ⟨by decide, by decide, by decide⟩ oX0_many foX0 (fun _ h => absurd h List.not_mem_nil) (List.forall_mem_cons.mpr ⟨⟨yX2_silents, cX2_silents, 3, (some .int), 2, 0, by decide, yoX2_silents, k_X2_silents hO, loX0_41, Or.inr ⟨rfl, rfl, 1, 2, [some 2, some 3, none], TX2, 3, rfl, rfl, spV0_r⟩⟩, List.forall_mem_cons.mpr ⟨⟨yX2_names, cX2_names, 5, (some .int), 1, 0, by decide, yoX2_names, k_X2_names hO, loX0_49, Or.inr ⟨rfl, rfl, 1, 2, [some 2, some 3, none], TX2, 3, rfl, rfl, spV0_r⟩⟩, List.forall_mem_cons.mpr ⟨⟨yX4_boxes, cX4_boxes, 4, (some .int), 1, 1, by decide, yoX4_boxes, k_X4_boxes hO, loX0_52, Or.inr ⟨rfl, rfl, 4, 4, [some 5, some 6, none], TX4, 3, rfl, rfl, spV1_r⟩⟩, List.forall_mem_cons.mpr ⟨⟨yX2_all, cX2_all, 1, (some .int), 0, 0, by decide, yoX2_all, k_X2_all hO, loX0_61, Or.inr ⟨rfl, rfl, 1, 2, [some 2, some 3, none], TX2, 3, rfl, rfl, spV0_r⟩⟩, List.forall_mem_cons.mpr ⟨⟨yX0_someFits, cX0_someFits, 2, (some .boolean), 4, 1, by decide, yoX0_someFits, k_X0_someFits hO, loX0_64, Or.inr ⟨rfl, rfl, 10, 0, [some 1, some 4, some 7, some 11, none, none, none, none, none, none], TX0, 10, rfl, rfl, spV1_r⟩⟩, List.forall_mem_cons.mpr ⟨⟨yX0_seek, cX0_seek, 5, none, 9, 3, by decide, yoX0_seek, k_X0_seek hO, loX0_68, Or.inl ⟨rfl, rfl⟩⟩, fun _ h => absurd h List.not_mem_nil⟩⟩⟩⟩⟩⟩) b_X0_many

