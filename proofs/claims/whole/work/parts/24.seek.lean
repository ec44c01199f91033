/-! LeastNets.seek: the search goes through the enumeration; then many -/
theorem rng_split {b : Nat} : ∀ {n : Nat}, b < n → ∃ tl, List.range n = List.range b ++ b :: tl := by
  intro n
  induction n with
  | zero => intro h; omega
  | succ n ih =>
    intro h
    rw [List.range_succ]
    by_cases hb : b = n
    · subst hb; exact ⟨[], rfl⟩
    · obtain ⟨tl, e⟩ := ih (by omega)
      exact ⟨tl ++ [n], by rw [e]; simp⟩
def NB (M : xM) : Prop := (0 ≤ M 10 9 ∧ M 10 9 < 64) ∧ ∀ b, 0 ≤ b → b < 6 → (tb (M 10 9) b ↔ thB (SX M) b)
noncomputable def FO (S : dS) (l : List (List Int)) : lSt := l.foldl (stp (Fit S) (nlL S)) init0
theorem FO_app (S : dS) (l l' : List (List Int)) : FO S (l ++ l') = l'.foldl (stp (Fit S) (nlL S)) (FO S l) := by unfold FO; rw [List.foldl_append]
def f_X0_seek (d : Nat) (i nw : Int) (M : xM) (Post : xR) : Prop := ∃ (k w : Nat) (p : List Int) (done rest : List (List Int)), i = k ∧ nw = w ∧ wS M ∧ wA M ∧ k ≤ mS (SX M) ∧ mS (SX M) ≤ d + k ∧ M 10 8 = mS (SX M) ∧ NB M ∧ p.length = k ∧ (∀ s, 0 ≤ s → s < (k : Int) → M 8 s = lkA p s ∧ lkA p s < 6 + (w : Int)) ∧ w = nwL p 0 ∧ done ++ ((enm (thB (SX M)) (mS (SX M) - k) w).map (fun l => p ++ l) ++ rest) = enm (thB (SX M)) (mS (SX M)) 0 ∧ stO M (SX M) (FO (SX M) done) ∧ FT (SX M) all0 (plX M) ∧ JN M (Adj (SX M) all0 (plX M)) ∧ ∀ M' : xM, (∀ c, c ≠ 8 → c ≠ 9 → c ≠ 10 → c ≠ 11 → M' c = M c) → M' 10 4 = M 10 4 → M' 10 8 = M 10 8 → M' 10 9 = M 10 9 → wA M' → (∀ s, 0 ≤ s → s < (k : Int) → M' 8 s = M 8 s) → stO M' (SX M) (FO (SX M) (done ++ (enm (thB (SX M)) (mS (SX M) - k) w).map (fun l => p ++ l))) → Post 0 M'
def sp_X0_seek (d : Nat) : xT := fun as M Post => ∃ i nw, as = [.inr 10, .inl i, .inl nw] ∧ f_X0_seek d i nw M Post
theorem lkA_app {p : List Int} {b s : Int} (hs : 0 ≤ s) : lkA (p ++ [b]) s = if s < p.length then lkA p s else if s = p.length then b else 0 := by
  unfold lkA
  rw [List.getD_eq_getElem?_getD]
  by_cases h : s < p.length
  · rw [if_pos h, List.getElem?_append_left (by omega), List.getD_eq_getElem?_getD]
  · rw [if_neg h, List.getElem?_append_right (by omega)]
    by_cases h2 : s = p.length
    · rw [if_pos h2, show s.toNat - p.length = 0 by omega]; rfl
    · rw [if_neg h2, List.getElem?_eq_none (by simp; omega)]; rfl
theorem lkA_pre {p l : List Int} {s : Int} (hs : 0 ≤ s ∧ s < p.length) : lkA (p ++ l) s = lkA p s := by
  unfold lkA
  rw [List.getD_eq_getElem?_getD, List.getD_eq_getElem?_getD, List.getElem?_append_left (by omega)]
set_option maxRecDepth 100000 in
set_option maxHeartbeats 4000000 in
theorem b_X0_seek (d : Nat) (tS : xT) (hrec : ∀ d', d = d' + 1 → ∀ i nw M Post, f_X0_seek d' i nw M Post → tS [.inr 10, .inl i, .inl nw] M Post) (as : List xV) (M : xM) (Post : xR) (h : sp_X0_seek d as M Post) : as.length ≤ 5 ∧ ∃ (Inv : xG) (μ : Nat → xL → List xV → xM → Nat) (f0 f1 : Nat), xw LX fldX0 (calX0_seek sp_X0_keep sp_X0_mayTake sp_X1_place sp_X2_all sp_X1_fits tS) [] 0 Post iX0_seek cutX0_seek Inv f0 0 (xlv as 5) [] M ∧ ∀ pc lv st M', Inv pc lv st M' → xw LX fldX0 (calX0_seek sp_X0_keep sp_X0_mayTake sp_X1_place sp_X2_all sp_X1_fits tS) [] 0 Post iX0_seek cutX0_seek (fun pc2 lv2 st2 M2 => Inv pc2 lv2 st2 M2 ∧ μ pc2 lv2 st2 M2 < μ pc lv st M') f1 pc lv st M' := by
  obtain ⟨v1, v2, rfl, k, w, p, done, rest, rfl, rfl, hw, hA, hk, hkd, hm, hNB, hpl, hpv, hpw, hsplit, hst, hF, hJ, hp⟩ := h
  have hm4 := mS_4 (wfS_of hw)
  have hwk : w ≤ k := by rw [hpw, ← hpl]; have := nwL_le p 0; omega
  refine ⟨by simp, (fun pc lv st N => ∃ (b : Nat) (o4 : Option xV), pc = 21 ∧ lv = [some (.inr 10), some (.inl (k : Int)), some (.inl (w : Int)), some (.inl (b : Int)), o4] ∧ st = [] ∧ b ≤ 7 + w ∧ k < mS (SX M) ∧ (∀ c, c ≠ 8 → c ≠ 9 → c ≠ 10 → c ≠ 11 → N c = M c) ∧ N 10 4 = M 10 4 ∧ N 10 8 = M 10 8 ∧ N 10 9 = M 10 9 ∧ wA N ∧ (∀ s, 0 ≤ s → s < (k : Int) → N 8 s = M 8 s) ∧ stO N (SX M) (FO (SX M) (done ++ ((List.range b).flatMap (brn (thB (SX M)) (enm (thB (SX M)) (mS (SX M) - k - 1)) w)).map (fun l => p ++ l)))), (fun pc lv st N => match lv with | [_, _, _, some (.inl b), _] => (20 - b).toNat | _ => 0), 400, 400, Eq.mpr (vcX0_seek_0 ..) ?_, ?_⟩
  · have hkeep : (k : Int) = mS (SX M) → sp_X0_keep [.inr 10, .inl (w : Int)] M (fun _ M1 => Post 0 M1) := by
      intro hkm
      have hkm : k = mS (SX M) := by omega
      rw [← hkm, Nat.sub_self] at hsplit
      have hkl := kept_le (th := thB (SX M)) (Fit := Fit (SX M)) (nl := nlL (SX M)) hm4 (forb (wfS_of hw)) (l := done) (by rw [← hkm]; exact hsplit)
      have hf1 := fold_1 (S := SX M) done init0 (by decide) (by decide)
      refine ⟨_, rfl, p, FO (SX M) done, hw, hA, fun u a1 a2 => (hpv u a1 (by omega)).1, hF, hJ, by rw [hpw], by rw [← hpw]; omega, hst, hf1.1, hf1.2, Nat.lt_of_le_of_lt hkl (by omega), fun M' g1 g2 g3 g4 g5 => ?_⟩
      refine hp M' (fun c _ _ q1 q2 => g1 c q1 q2) g2 g3 g4 (by unfold wA; rw [g1 8 (by decide) (by decide)]; exact hA) (fun s _ _ => by rw [g1 8 (by decide) (by decide)]) ?_
      rw [← hkm, Nat.sub_self, FO_app]
      show stO M' (SX M) (stp (Fit (SX M)) (nlL (SX M)) (FO (SX M) done) (p ++ []))
      rw [List.append_nil]
      exact g5
    rw [hm]
    refine ⟨⟨by omega, by omega⟩, ⟨by omega, by omega⟩, fun q => hkeep (by omega), fun q => ⟨⟨by omega, by omega⟩, ⟨by omega, by omega⟩, fun q1 => ⟨0, none, rfl, rfl, rfl, by omega, by omega, fun _ _ _ _ _ => rfl, rfl, rfl, rfl, hA, fun _ _ _ => rfl, ?_⟩, fun q1 => by omega⟩⟩
    show stO M (SX M) (FO (SX M) (done ++ []))
    rw [List.append_nil]
    exact hst
  · rintro pc lv st N ⟨b, o4, rfl, rfl, rfl, hb, hkm, h1, h2, h3, h4, h5, h6, h7⟩
    have e1 : N 1 = M 1 := h1 1 (by decide) (by decide) (by decide) (by decide)
    have e2 : N 2 = M 2 := h1 2 (by decide) (by decide) (by decide) (by decide)
    have e3 : N 3 = M 3 := h1 3 (by decide) (by decide) (by decide) (by decide)
    have e5 : N 5 = M 5 := h1 5 (by decide) (by decide) (by decide) (by decide)
    have e6 : N 6 = M 6 := h1 6 (by decide) (by decide) (by decide) (by decide)
    have hwN : wS N := by rw [wS_eq e1 e2 e3 e5 e6]; exact hw
    have eS : SX N = SX M := SX_eq e1 e2 e3 e5
    obtain ⟨r, hr⟩ : ∃ r, mS (SX M) - k = r + 1 := ⟨mS (SX M) - k - 1, by omega⟩
    have hr1 : mS (SX M) - k - 1 = r := by omega
    rw [hr1] at h7
    rw [hr] at hsplit hp
    have hEn : enm (thB (SX M)) (r + 1) w = (List.range (7 + w)).flatMap (brn (thB (SX M)) (enm (thB (SX M)) r) w) := rfl
    have stepFO : FO (SX M) (done ++ ((List.range (b + 1)).flatMap (brn (thB (SX M)) (enm (thB (SX M)) r) w)).map (fun l => p ++ l)) = ((brn (thB (SX M)) (enm (thB (SX M)) r) w b).map (fun l => p ++ l)).foldl (stp (Fit (SX M)) (nlL (SX M))) (FO (SX M) (done ++ ((List.range b).flatMap (brn (thB (SX M)) (enm (thB (SX M)) r) w)).map (fun l => p ++ l))) := by
      rw [← FO_app, List.range_succ, List.flatMap_append, List.map_append, List.append_assoc]
      show FO (SX M) (done ++ (_ ++ (([b] : List Nat).flatMap _).map _)) = _
      rw [List.flatMap_cons, List.flatMap_nil, List.append_nil]
    have main : ∀ K : xG, (∀ (o : Option xV) (N' : xM), b ≤ 6 + w → (∀ c, c ≠ 8 → c ≠ 9 → c ≠ 10 → c ≠ 11 → N' c = M c) → N' 10 4 = M 10 4 → N' 10 8 = M 10 8 → N' 10 9 = M 10 9 → wA N' → (∀ s, 0 ≤ s → s < (k : Int) → N' 8 s = M 8 s) → stO N' (SX M) (FO (SX M) (done ++ ((List.range (b + 1)).flatMap (brn (thB (SX M)) (enm (thB (SX M)) r) w)).map (fun l => p ++ l))) → K 21 [some (.inr 10), some (.inl (k : Int)), some (.inl (w : Int)), some (.inl ((b : Int) + 1)), o] [] N') → xw LX fldX0 (calX0_seek sp_X0_keep sp_X0_mayTake sp_X1_place sp_X2_all sp_X1_fits tS) [] 0 Post iX0_seek cutX0_seek K 400 21 [some (.inr 10), some (.inl (k : Int)), some (.inl (w : Int)), some (.inl (b : Int)), o4] [] N := by
      intro K hK
      refine Eq.mpr (vcX0_seek_21 ..) ?_
      have hf1 := fold_1 (S := SX M) (done ++ ((List.range b).flatMap (brn (thB (SX M)) (enm (thB (SX M)) r) w)).map (fun l => p ++ l)) init0 (by decide) (by decide)
      have h71 := h7.1
      generalize hsg : FO (SX M) (done ++ ((List.range b).flatMap (brn (thB (SX M)) (enm (thB (SX M)) r) w)).map (fun l => p ++ l)) = sg at h7 stepFO h71
      have hsg1 : sg.1 ≤ 4 := by rw [← hsg]; exact hf1.1
      have keepSt : b ≤ 6 + w → (∀ B ∈ (brn (thB (SX M)) (enm (thB (SX M)) r) w b).map (fun l => p ++ l), ¬ (Fit (SX M) B ∧ (nwL B 0 < sg.1 ∨ nwL B 0 = sg.1 ∧ nlL (SX M) B ≤ sg.2.1))) → ∀ N' : xM, stO N' (SX M) sg → stO N' (SX M) (FO (SX M) (done ++ ((List.range (b + 1)).flatMap (brn (thB (SX M)) (enm (thB (SX M)) r) w)).map (fun l => p ++ l))) := by
        intro _ hB N' hN'
        rw [stepFO, fold_id hB]
        exact hN'
      have brm : ∀ B ∈ (brn (thB (SX M)) (enm (thB (SX M)) r) w b).map (fun l => p ++ l), okB (thB (SX M)) b ∧ ∃ l', l' ∈ enm (thB (SX M)) r (nwS w b) ∧ B = p ++ (b : Int) :: l' := by
        intro B hB
        obtain ⟨l, hl, rfl⟩ := List.mem_map.mp hB
        obtain ⟨hok, l', hl', rfl⟩ := brn_mem.mp hl
        exact ⟨hok, l', hl', rfl⟩
      have branch : ∀ (nt : Nat) (o : Option xV), b ≤ 6 + w → nt = nwS w b → sp_X0_mayTake [.inr 10, .inl (b : Int), .inl (nt : Int)] N (fun r1 M1 => rg r1 ∧ (r1 = 0 → K 21 [some (.inr 10), some (.inl (k : Int)), some (.inl (w : Int)), some (.inl ((b : Int) + 1)), o] [] M1) ∧ (r1 ≠ 0 → sp_X1_place [.inr 7, .inl (k : Int), .inl (b : Int), .inl (nt : Int)] M1 (fun _ M2 => sp_X2_all [.inr 1] M2 (fun r3 M3 => sp_X1_fits [.inr 7, .inl r3] M3 (fun r4 M4 => rg r4 ∧ (r4 = 0 → K 21 [some (.inr 10), some (.inl (k : Int)), some (.inl (w : Int)), some (.inl ((b : Int) + 1)), o] [] M4) ∧ (r4 ≠ 0 → tS [.inr 10, .inl ((k : Int) + 1), .inl (nt : Int)] M4 (fun _ M5 => K 21 [some (.inr 10), some (.inl (k : Int)), some (.inl (w : Int)), some (.inl ((b : Int) + 1)), o] [] M5))))))) := by
        intro nt o hbw hnt
        have hnt2 : nt ≤ w + 1 ∧ w ≤ nt ∧ b < 6 + nt := by
          rw [hnt]; unfold nwS; split <;> omega
        refine ⟨_, _, rfl, ⟨by omega, by omega⟩, ⟨by omega, by omega⟩, ⟨by omega, by omega⟩, by rw [h4]; exact hNB.1, fun r1 hr1 => ⟨⟨by omega, by omega⟩, fun q => hK o N hbw h1 h2 h3 h4 h5 h6 (keepSt hbw (fun B hB hc => ?_) N h7), fun q => ⟨_, _, _, rfl, ⟨by omega, by omega⟩, fun N2 g1 g2 g3 g4 => ⟨rfl, ?_, _, rfl, ?_, ?_, ?_, fun r4 N4 k1 k2 k3 => ?_⟩⟩⟩⟩
        · obtain ⟨hok, l', hl', rfl⟩ := brm B hB
          rcases hr1 with ⟨a, _⟩ | ⟨_, a | ⟨a1, a2⟩⟩
          · omega
          · have e : nwL (p ++ (b : Int) :: l') 0 = nwL l' (nwS w b) := by
              rw [nwL_app, ← hpw, nwS_c]; rfl
            have := nwL_ge l' (nwS w b)
            rw [e] at hc
            have hc2 := hc.2
            omega
          · rcases hok with z | z
            · omega
            · rw [h4] at a2
              exact a2 ((hNB.2 b (by omega) a1).mpr z)
        all_goals
          have f1 : N2 1 = M 1 := by rw [g1 1 (by decide)]; exact e1
          have f2 : N2 2 = M 2 := by rw [g1 2 (by decide)]; exact e2
          have f3 : N2 3 = M 3 := by rw [g1 3 (by decide)]; exact e3
          have f5 : N2 5 = M 5 := by rw [g1 5 (by decide)]; exact e5
          have f6 : N2 6 = M 6 := by rw [g1 6 (by decide)]; exact e6
          have hwN2 : wS N2 := by rw [wS_eq f1 f2 f3 f5 f6]; exact hw
          have eS2 : SX N2 = SX M := SX_eq f1 f2 f3 f5
        · rw [f1]; exact hw.1.1
        · exact hwN2
        · intro s a1 a2
          by_cases hs : s < k
          · rw [g2 s hs]; exact h5 s a1 a2
          · by_cases hs2 : s = k
            · rw [hs2, g3]; omega
            · rw [g4 s (by omega) a2]; omega
        · rw [f1]; exact all_b hw.1.1
        · have hqa : ∀ t, 0 ≤ t → t < (SX M).1 → (tb (((2 ^ (N2 1 2).toNat : Nat) : Int) - 1) t ↔ all0 t) := fun t a1 a2 => by
            rw [f1, tb_all hw.1.1.1 a1]
            exact ⟨fun _ => trivial, fun _ => a2⟩
          rw [eS2] at k3
          have hok : okB (thB (SX M)) b := by
            rcases hr1 with ⟨_, _, a | ⟨a1, a2⟩⟩ | ⟨a, _⟩
            · exact Or.inl (by omega)
            · rw [h4] at a2
              exact Or.inr ((hNB.2 b (by omega) a1).mp a2)
            · omega
          have pre2 : ∀ s, 0 ≤ s → s < (k : Int) + 1 → N2 8 s = lkA (p ++ [(b : Int)]) s ∧ lkA (p ++ [(b : Int)]) s < 6 + (nt : Int) := by
            intro s a1 a2
            rw [lkA_app a1, hpl]
            by_cases hs : s < k
            · rw [if_pos hs, g2 s hs, h6 s a1 hs]
              have := hpv s a1 hs
              exact ⟨this.1, by omega⟩
            · rw [if_neg hs, if_pos (by omega), show s = k by omega, g3]
              exact ⟨rfl, by omega⟩
          have fr4 : ∀ c, c ≠ 8 → c ≠ 9 → c ≠ 10 → c ≠ 11 → N4 c = M c := fun c q1 q2 q3 q4 => by rw [k1 c q2, g1 c q1]; exact h1 c q1 q2 q3 q4
          have f10 : N4 10 = N 10 := by rw [k1 10 (by decide)]; exact g1 10 (by decide)
          have f11 : N4 11 = N 11 := by rw [k1 11 (by decide)]; exact g1 11 (by decide)
          have f8 : N4 8 = N2 8 := k1 8 (by decide)
          have wA4 : wA N4 := by
            intro s a1 a2
            rw [f8]
            by_cases hs : s < k
            · rw [g2 s hs]; exact h5 s a1 a2
            · by_cases hs2 : s = k
              · rw [hs2, g3]; omega
              · rw [g4 s (by omega) a2]; omega
          have st4 : stO N4 (SX M) sg := by rw [stO_eq f10 f11]; exact h7
          have ePl4 : plX N4 = plX N2 := plX_eq (k1 1 (by decide)) (k1 2 (by decide)) (k1 3 (by decide)) (k1 5 (by decide)) f8
          have eS4 : SX N4 = SX M := by rw [SX_eq (k1 1 (by decide)) (k1 2 (by decide)) (k1 3 (by decide)) (k1 5 (by decide))]; exact eS2
          refine ⟨⟨by omega, by omega⟩, fun q4 => hK o N4 hbw fr4 (by rw [f10]; exact h2) (by rw [f10]; exact h3) (by rw [f10]; exact h4) wA4 (fun s a1 a2 => by rw [f8, g2 s a2]; exact h6 s a1 a2) (keepSt hbw (fun B hB hc => ?_) N4 st4), fun q4 => ?_⟩
          · rcases k3 with ⟨a, _⟩ | ⟨_, hnF⟩
            · omega
            · refine hnF ((FT_iff rfl (fun _ _ _ => rfl) hqa (fun _ _ _ _ _ _ => rfl)).mpr ?_)
              obtain ⟨_, l', hl', rfl⟩ := brm B hB
              have hlen := enm_len hl'
              have hlB : (p ++ (b : Int) :: l').length = mS (SX M) := by rw [List.length_append, List.length_cons, hlen]; omega
              have eB : ∀ s, 0 ≤ s → s < (k : Int) + 1 → lkA (p ++ (b : Int) :: l') s = N2 8 s := by
                intro s a1 a2
                rw [(pre2 s a1 a2).1, show p ++ (b : Int) :: l' = (p ++ [(b : Int)]) ++ l' by simp, lkA_pre ⟨a1, by simp; omega⟩]
              have hPl : plX N2 = Pl (SX M) (N2 8) (offS (SX M)) := by
                show Pl (SX N2) (N2 8) (offS (SX N2)) = _
                rw [eS2]
              rw [hPl]
              refine FT_loose (wfS_of hw) (fun t i a1 a2 a3 a4 a5 a6 => ?_) hc.1
              have hi := sil_m ⟨a1, a2⟩ ⟨a4, a5⟩ a6
              rw [Pl_sil a6, Pl_sil a6]
              generalize offS (SX M) t + cS (SX M).2.2.1 (t * 6) i.toNat = s at hi
              refine ⟨fun h6' => ?_, fun u j c1 c2 c3 c4 c5 c6 he => ?_⟩
              · by_cases hs : s < (k : Int) + 1
                · exact eB s hi.1 hs
                · rw [g4 s (by omega) (by omega)] at h6'
                  omega
              · have hi2 := sil_m ⟨c1, c2⟩ ⟨c4, c5⟩ c6
                rw [Pl_sil c6] at he ⊢
                generalize offS (SX M) u + cS (SX M).2.2.1 (u * 6) j.toNat = s2 at hi2 he
                by_cases hs : s < (k : Int) + 1 <;> by_cases hs2 : s2 < (k : Int) + 1
                · rw [eB s hi.1 hs, eB s2 hi2.1 hs2]; exact he
                · have := (pre2 s hi.1 hs)
                  rw [this.1, g4 s2 (by omega) (by omega)] at he
                  omega
                · have := (pre2 s2 hi2.1 hs2)
                  rw [this.1, g4 s (by omega) (by omega)] at he
                  omega
                · rw [g4 s (by omega) (by omega), g4 s2 (by omega) (by omega)] at he
                  rw [show s = s2 by omega]
          · rcases k3 with ⟨_, hF4, hJ4⟩ | ⟨a, _⟩
            · have hFa : FT (SX M) all0 (plX N4) := by rw [ePl4]; exact (FT_iff rfl (fun _ _ _ => rfl) hqa (fun _ _ _ _ _ _ => rfl)).mp hF4
              have hJa : JN N4 (Adj (SX M) all0 (plX N4)) := by
                rw [ePl4]
                refine ⟨hJ4.1, fun x y a1 a2 a3 a4 => ?_⟩
                rw [hJ4.2 x y a1 a2 a3 a4]
                exact Adj_iff rfl (fun _ _ _ => rfl) hqa (fun _ _ _ _ _ _ => rfl) x y
              obtain ⟨d', hd'⟩ : ∃ d', d = d' + 1 := ⟨d - 1, by omega⟩
              have hwN4 : wS N4 := by rw [wS_eq (k1 1 (by decide)) (k1 2 (by decide)) (k1 3 (by decide)) (k1 5 (by decide)) (k1 6 (by decide))]; exact hwN2
              obtain ⟨tl, htl⟩ := rng_split (b := b) (n := 7 + w) (by omega)
              have hbrn : brn (thB (SX M)) (enm (thB (SX M)) r) w b = (enm (thB (SX M)) r (nwS w b)).map (fun l => (b : Int) :: l) := by unfold brn; exact if_pos hok
              have hmr : mS (SX M) - (k + 1) = r := by omega
              have hmap : ((enm (thB (SX M)) r (nwS w b)).map (fun l => (b : Int) :: l)).map (fun l => p ++ l) = (enm (thB (SX M)) r nt).map (fun l => (p ++ [(b : Int)]) ++ l) := by
                rw [List.map_map, hnt]
                congr 1
                funext l
                simp
              refine hrec d' hd' _ _ _ _ ⟨k + 1, nt, p ++ [(b : Int)], done ++ ((List.range b).flatMap (brn (thB (SX M)) (enm (thB (SX M)) r) w)).map (fun l => p ++ l), (tl.flatMap (brn (thB (SX M)) (enm (thB (SX M)) r) w)).map (fun l => p ++ l) ++ rest, by omega, rfl, hwN4, wA4, ?_, ?_, ?_, ?_, by simp; omega, ?_, ?_, ?_, ?_, ?_, ?_, ?_⟩
              · rw [eS4]; omega
              · rw [eS4]; omega
              · rw [eS4, f10, h3]; exact hm
              · unfold NB; rw [eS4, f10, h4]; exact hNB
              · intro s a1 a2
                rw [f8]
                exact pre2 s a1 (by omega)
              · rw [nwL_app, ← hpw, hnt, nwS_c]; rfl
              · rw [eS4, hmr, ← hsplit, hEn, htl, List.flatMap_append, List.flatMap_cons, hbrn, ← hmap]
                simp only [List.map_append, List.append_assoc]
              · rw [eS4, hsg]; exact st4
              · rw [eS4]; exact hFa
              · rw [eS4]; exact hJa
              · intro M' j1 j2 j3 j4 j5 j6 j7
                rw [eS4, hmr, ← hmap, ← hbrn, FO_app, hsg, ← stepFO] at j7
                refine hK o M' hbw (fun c q1 q2 q3 q4 => by rw [j1 c q1 q2 q3 q4]; exact fr4 c q1 q2 q3 q4) (by rw [j2, f10]; exact h2) (by rw [j3, f10]; exact h3) (by rw [j4, f10]; exact h4) j5 (fun s a1 a2 => ?_) j7
                rw [j6 s a1 (by omega), f8, g2 s a2]
                exact h6 s a1 a2
            · omega
      refine ⟨⟨by omega, by omega⟩, ⟨by omega, by omega⟩, fun q => ?_, fun q => ⟨⟨by omega, by omega⟩, ⟨by omega, by omega⟩, fun q1 => by omega, fun q1 => ⟨⟨by omega, by omega⟩, ⟨by omega, by omega⟩, fun q2 => branch w _ (by omega) (by unfold nwS; rw [if_neg (by omega)]), fun q2 => branch (w + 1) _ (by omega) (by unfold nwS; rw [if_pos (by omega)])⟩⟩⟩
      have hb7 : b = 7 + w := by omega
      refine hp N h1 h2 h3 h4 h5 h6 ?_
      rw [hEn, ← hb7, hsg]
      exact h7
    refine main _ (fun o N' hbw q1 q2 q3 q4 q5 q6 q7 => ⟨⟨b + 1, o, rfl, rfl, rfl, by omega, hkm, q1, q2, q3, q4, q5, q6, by rw [hr1]; exact q7⟩, by (change Int.toNat _ < Int.toNat _); omega⟩)

