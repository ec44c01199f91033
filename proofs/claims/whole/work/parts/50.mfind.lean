/-! the reference: findNets -/
theorem bxT_allf {M : xM} (h : 0 ≤ M 0 0 ∧ M 0 0 ≤ 6) : bxT M (allV (SM M)) = thB (SM M) := by
  funext b
  exact propext (bxT_all h b)
theorem bsM_all {M : xM} (h : 0 ≤ M 0 0 ∧ M 0 0 ≤ 6) : ∀ k : Nat, (k : Int) ≤ M 0 0 → bsM M (allV (SM M)) k = sS (M 2) (M 1) k := by
  intro k
  induction k with
  | zero => intro _; rfl
  | succ k ih =>
    intro hk
    have key : tb (allV (SM M)) k := (tb_all h.1 (by omega)).mpr (by show (k : Int) < M 0 0; omega)
    rw [(bsM_step k).1 key, ih (by omega)]
    rfl
theorem bsM_m {M : xM} (h : 0 ≤ M 0 0 ∧ M 0 0 ≤ 6) : bsM M (allV (SM M)) (M 0 0).toNat = (mS (SM M) : Nat) := by
  rw [bsM_all h _ (by omega), mS_c]
  rfl
theorem plO_all {M : xM} (h : 0 ≤ M 0 0 ∧ M 0 0 ≤ 6) {A : List Int} (hA : ∀ j, 0 ≤ j → j < (mS (SM M) : Int) → M 6 j = lkA A j) {t i : Int} (ht : 0 ≤ t ∧ t < M 0 0) (hi : 0 ≤ i ∧ i < M 1 t) : plO M (allV (SM M)) t i = plL (SM M) A t i := by
  have e : plO M (allV (SM M)) t i = Pl (SM M) (M 6) (offS (SM M)) t i := by
    have : ofM M (allV (SM M)) t = offS (SM M) t := bsM_all h t.toNat (by omega)
    unfold plO Pl
    rw [this]
  rw [e]
  exact Pl_congr (S := SM M) hA ht hi
theorem tb_all0 {M : xM} (h : 0 ≤ M 0 0 ∧ M 0 0 ≤ 6) : ∀ t, 0 ≤ t → t < (SM M).1 → (tb (allV (SM M)) t ↔ all0 t) := fun t h1 h2 => ⟨fun _ => trivial, fun _ => (tb_all h.1 h1).mpr h2⟩
theorem FT_all {M : xM} (h : 0 ≤ M 0 0 ∧ M 0 0 ≤ 6) {A : List Int} (hA : ∀ j, 0 ≤ j → j < (mS (SM M) : Int) → M 6 j = lkA A j) : FT (SM M) (tb (allV (SM M))) (plO M (allV (SM M))) ↔ Fit (SM M) A := FT_iff rfl (fun _ _ _ => rfl) (tb_all0 h) (fun t i h1 h2 h3 h4 => plO_all h hA ⟨h1, h2⟩ ⟨h3, h4⟩)
theorem Adj_all {M : xM} (h : 0 ≤ M 0 0 ∧ M 0 0 ≤ 6) {A : List Int} (hA : ∀ j, 0 ≤ j → j < (mS (SM M) : Int) → M 6 j = lkA A j) : ∀ x y, Adj (SM M) (tb (allV (SM M))) (plO M (allV (SM M))) x y ↔ Adj (SM M) all0 (plL (SM M) A) x y := Adj_iff rfl (fun _ _ _ => rfl) (tb_all0 h) (fun t i h1 h2 h3 h4 => plO_all h hA ⟨h1, h2⟩ ⟨h3, h4⟩)
def ktM (N : xM) (S : dS) (l : List (List Int)) : Prop := N 0 13 = l.length ∧ ∀ (j : Nat) (A : List Int), l[j]? = some A → (∀ u, 0 ≤ u → u < (mS S : Int) → N 10 (4 * j + u) = lkA A u) ∧ ∀ a b, 0 ≤ a → a < 6 → 0 ≤ b → b < 6 → isD (Adj S all0 (plL S A)) (S.2.2.2 a) (S.2.2.2 b) (N 11 (36 * j + 6 * a + b)) ∧ (N 12 (36 * j + 6 * a + b) = 0 ∨ N 12 (36 * j + 6 * a + b) = 1) ∧ (N 12 (36 * j + 6 * a + b) ≠ 0 ↔ Adj S all0 (plL S A) (S.2.2.2 a) (S.2.2.2 b))
def stM (N : xM) (S : dS) (s : lSt) : Prop := ktM N S s.2.2 ∧ ((s = init0 ∧ N 0 14 = 100 ∧ N 0 15 = 100) ∨ (s.2.2 ≠ [] ∧ N 0 14 = (nbx S : Nat) + (s.1 : Int) ∧ N 0 15 = s.2.1))
theorem stM_c {M N : xM} {S : dS} {s : lSt} (h0 : ∀ k, 13 ≤ k → k ≤ 15 → N 0 k = M 0 k) (h10 : N 10 = M 10) (h11 : N 11 = M 11) (h12 : N 12 = M 12) : stM N S s = stM M S s := by
  simp only [stM, ktM, h0 13 (by decide) (by decide), h0 14 (by decide) (by decide), h0 15 (by decide) (by decide), h10, h11, h12]
def fM (M N : xM) : Prop := (∀ k, k < 12 → N 0 k = M 0 k) ∧ ∀ c, 1 ≤ c → c < 6 → N c = M c
theorem fM.sM {M N : xM} (h : fM M N) : sM M N := ⟨h.1 0 (by decide), h.1 3 (by decide), h.2 1 (by decide) (by decide), h.2 2 (by decide) (by decide), h.2 3 (by decide) (by decide), h.2 4 (by decide) (by decide)⟩
theorem fM.rf (M : xM) : fM M M := ⟨fun _ _ => rfl, fun _ _ _ => rfl⟩
theorem fM.trans {M N L : xM} (h : fM M N) (g : fM N L) : fM M L := ⟨fun k hk => (g.1 k hk).trans (h.1 k hk), fun c h1 h2 => (g.2 c h1 h2).trans (h.2 c h1 h2)⟩
theorem fM.of {M N : xM} (h : ∀ c, c < 6 → N c = M c) : fM M N := ⟨fun k _ => by rw [h 0 (by decide)], fun c _ h2 => h c h2⟩
theorem nbx_6 (S : dS) : nbx S ≤ 6 := sm_one (fun _ _ => bb_le _)
def lsA (N : xM) (m : Nat) : List Int := (List.range m).map (fun (j : Nat) => N 6 (j : Int))
theorem lsA_e {N : xM} {m : Nat} {A : List Int} (hl : A.length = m) (h : ∀ j, 0 ≤ j → j < (m : Int) → N 6 j = lkA A j) : lsA N m = A := by
  apply List.ext_getElem?
  intro j
  unfold lsA
  rw [List.getElem?_map]
  by_cases hj : j < m
  · rw [List.getElem?_range hj, lkA_at (by omega)]
    show some (N 6 (j : Int)) = _
    rw [h j (by omega) (by omega)]
  · rw [List.getElem?_eq_none (by simp; omega), List.getElem?_eq_none (by omega)]
    rfl
theorem lkA_rep {r : Nat} {c j : Int} (h0 : 0 ≤ j) (h1 : j < r) : lkA (List.replicate r c) j = c := by
  unfold lkA
  rw [List.getD_eq_getElem?_getD, List.getElem?_replicate, if_pos (by omega)]
  rfl
def f_X6_findNets (M : xM) (Post : xR) : Prop := wM M ∧ wfS (SM M) ∧ ∀ M' : xM, fM M M' → M' 0 12 = (mS (SM M) : Nat) → stM M' (SM M) (LNs (SM M)) → Post 0 M'
abbrev sp_X6_findNets : xT := spV0 0 f_X6_findNets
set_option maxRecDepth 100000 in
set_option maxHeartbeats 4000000 in
theorem b_X6_findNets (as : List xV) (M : xM) (Post : xR) (h : sp_X6_findNets as M Post) : as.length ≤ 6 ∧ ∃ (Inv : xG) (μ : Nat → xL → List xV → xM → Nat) (f0 f1 : Nat), xw LM fldX6 (calX6_findNets sp_X6_boxMany sp_X6_begin sp_X6_newMany sp_X6_fits sp_X6_lineMany sp_X6_keep sp_X6_goOn) [] 0 Post iX6_findNets cutX6_findNets Inv f0 0 (xlv as 6) [] M ∧ ∀ pc lv st M', Inv pc lv st M' → xw LM fldX6 (calX6_findNets sp_X6_boxMany sp_X6_begin sp_X6_newMany sp_X6_fits sp_X6_lineMany sp_X6_keep sp_X6_goOn) [] 0 Post iX6_findNets cutX6_findNets (fun pc2 lv2 st2 M2 => Inv pc2 lv2 st2 M2 ∧ μ pc2 lv2 st2 M2 < μ pc lv st M') f1 pc lv st M' := by
  obtain ⟨rfl, h⟩ := h
  refine ⟨by simp, (fun pc lv st N => ∃ (r : Int) (o4 o5 : Option xV), pc = 39 ∧ lv = [some (.inr 0), some (.inl (allV (SM M))), some (.inl (nbx (SM M) : Nat)), some (.inl r), o4, o5] ∧ st = [] ∧ fM M N ∧ N 0 12 = (mS (SM M) : Nat) ∧ ((r = 0 ∧ stM N (SM M) (LNs (SM M))) ∨ (r = 1 ∧ ∃ (done : List (List Int)) (A : List Int) (rest : List (List Int)), enm (thB (SM M)) (mS (SM M)) 0 = done ++ A :: rest ∧ (∀ j, 0 ≤ j → j < (mS (SM M) : Int) → N 6 j = lkA A j) ∧ stM N (SM M) (FO (SM M) done)))), (fun pc lv st N => match lv with | [_, _, _, some (.inl r), _, _] => if r = 0 then 0 else 1 + (aft (thB (SM M)) (lsA N (mS (SM M))) 0).length | _ => 0), 400, 400, Eq.mpr (vcX6_findNets_0 ..) ?_, ?_⟩
  · obtain ⟨hw, hf, hp⟩ := h
    have hn := hw.1
    rw [allM hn]
    have e : sm (fun b => bb (bxT M (allV (SM M)) (b : Int))) 6 = nbx (SM M) := sm_congr (fun i _ => bb_congr (bxT_all hn i))
    refine ⟨_, rfl, hw, all_b hn, ?_⟩
    rw [e]
    dsimp only
    generalize hN : xup (xup (xup M 0 13 0) 0 14 100) 0 15 100 = N
    have x0 : ∀ c, c ≠ 0 → N c = M c := fun c hc => by rw [← hN, xup_ne hc, xup_ne hc, xup_ne hc]
    have xk : ∀ k, k < 13 → N 0 k = M 0 k := fun k hk => by rw [← hN, xup_at, if_neg (by omega), xup_at, if_neg (by omega), xup_at, if_neg (by omega)]
    have hfN : fM M N := ⟨fun k hk => xk k (by omega), fun c h1 _ => x0 c (by omega)⟩
    have hs := hfN.sM
    have hm4 := mS_4 hf
    have hbs : bsM N (allV (SM M)) (N 0 0).toNat = (mS (SM M) : Nat) := by rw [hs.bsM_e, hs.1, bsM_m hn]
    refine ⟨_, rfl, by rw [hs.wM_e]; exact hw, all_b hn, by rw [hbs]; omega, fun M2 c0 g1 g2 g3 g4 g5 => ?_⟩
    rw [hbs] at g3 g5
    rw [hs.bxT_e, bxT_allf hn] at g4
    have h0 := g4.1
    obtain ⟨cN, rfl⟩ : ∃ cN : Nat, c0 = cN := ⟨c0.toNat, by omega⟩
    obtain ⟨rest, hr⟩ := enm_fst g4 (mS (SM M)) 0
    refine ⟨1, none, none, rfl, rfl, rfl, ⟨fun k hk => by rw [g2 k (by omega)]; exact xk k (by omega), fun c h1 h2 => by rw [g1 c (by omega) (by omega)]; exact x0 c (by omega)⟩, g3, Or.inr ⟨rfl, [], _, rest, hr, fun j j0 j1 => by rw [g5 j j0 j1, lkA_rep j0 j1], ⟨?_, fun j A hj => by simp [FO, init0] at hj⟩, Or.inl ⟨rfl, ?_, ?_⟩⟩⟩
    · rw [g2 13 (by decide), ← hN]; simp [xup, FO, init0]
    · rw [g2 14 (by decide), ← hN]; simp [xup]
    · rw [g2 15 (by decide), ← hN]; simp [xup]
  · obtain ⟨hw, hf, hp⟩ := h
    have hn := hw.1
    have hm4 := mS_4 hf
    have hn6 := nbx_6 (SM M)
    rintro pc lv st N ⟨r, o4, o5, rfl, rfl, rfl, hfr, h12, hcase⟩
    rcases hcase with ⟨rfl, hst⟩ | ⟨rfl, done, A, rest, hE, hA, hst⟩
    · refine Eq.mpr (vcX6_findNets_39 ..) ?_
      exact ⟨⟨by omega, by omega⟩, fun _ => hp N hfr h12 hst, fun q => (q rfl).elim⟩
    · have hAm : A ∈ enm (thB (SM M)) (mS (SM M)) 0 := by rw [hE]; simp
      have hlen : A.length = mS (SM M) := enm_len hAm
      have hrest := split_aft (mS (SM M)) 0 done A rest hE
      have main : ∀ K : xG, (∀ (r : Int) (o4 o5 : Option xV) (N2 : xM), fM M N2 → N2 0 12 = (mS (SM M) : Nat) → ((r = 0 ∧ stM N2 (SM M) (LNs (SM M))) ∨ (r = 1 ∧ ∃ (B : List Int) (rest' : List (List Int)), rest = B :: rest' ∧ (∀ j, 0 ≤ j → j < (mS (SM M) : Int) → N2 6 j = lkA B j) ∧ stM N2 (SM M) (FO (SM M) (done ++ [A])))) → K 39 [some (.inr 0), some (.inl (allV (SM M))), some (.inl (nbx (SM M) : Nat)), some (.inl r), o4, o5] [] N2) → xw LM fldX6 (calX6_findNets sp_X6_boxMany sp_X6_begin sp_X6_newMany sp_X6_fits sp_X6_lineMany sp_X6_keep sp_X6_goOn) [] 0 Post iX6_findNets cutX6_findNets K 400 39 [some (.inr 0), some (.inl (allV (SM M))), some (.inl (nbx (SM M) : Nat)), some (.inl 1), o4, o5] [] N := by
        intro K hK
        refine Eq.mpr (vcX6_findNets_39 ..) ?_
        have hFO : FO (SM M) (done ++ [A]) = stp (Fit (SM M)) (nlL (SM M)) (FO (SM M) done) A := by rw [FO_app]; rfl
        have hf1 := fold_1 (S := SM M) done init0 (by decide) (by decide)
        have hf1 : (FO (SM M) done).1 ≤ 4 ∧ (FO (SM M) done).2.1 ≤ 100 := hf1
        have hkl := kept_le (th := thB (SM M)) (Fit := Fit (SM M)) (nl := nlL (SM M)) hm4 (forb hf) (l := done) (rest := A :: rest) hE.symm
        have hkl : (FO (SM M) done).2.2.length ≤ 369 := hkl
        have hnw : nwL A 0 ≤ 4 := by have := nwL_le A 0; omega
        have hnl : nlL (SM M) A ≤ 45 := nLn_le _
        generalize FO (SM M) done = s at hst hFO hf1 hkl
        have go : ∀ (N' : xM) (o4 o5 : Option xV), fM M N' → N' 0 12 = (mS (SM M) : Nat) → (∀ j, 0 ≤ j → j < (mS (SM M) : Int) → N' 6 j = lkA A j) → stM N' (SM M) (stp (Fit (SM M)) (nlL (SM M)) s A) → sp_X6_goOn [.inr 0, .inl (allV (SM M))] N' (fun r M2 => K 39 [some (.inr 0), some (.inl (allV (SM M))), some (.inl (nbx (SM M) : Nat)), some (.inl r), o4, o5] [] M2) := by
          intro N' o4 o5 f m12 hc hs'
          have fs := f.sM
          refine ⟨_, rfl, mS (SM M), A, done, rest, by rw [fs.wM_e]; exact hw, all_b hn, m12, hm4, by rw [fs.bxT_e, bxT_allf hn]; exact hE, hc, fun r M2 g1 g2 => hK r o4 o5 M2 (f.trans (fM.of (fun c hc => g1 c (by omega)))) (by rw [g1 0 (by decide)]; exact m12) ?_⟩
          have hs2 : stM M2 (SM M) (stp (Fit (SM M)) (nlL (SM M)) s A) := by
            rw [stM_c (fun k _ _ => by rw [g1 0 (by decide)]) (g1 10 (by decide)) (g1 11 (by decide)) (g1 12 (by decide))]
            exact hs'
          rcases g2 with ⟨rfl, hz⟩ | ⟨rfl, B, rest', hz, hB⟩
          · refine Or.inl ⟨rfl, ?_⟩
            have : LNs (SM M) = FO (SM M) (done ++ [A]) := by
              unfold LNs FO
              rw [hE, hz]
            rw [this, hFO]
            exact hs2
          · exact Or.inr ⟨rfl, B, rest', hz, hB, by rw [hFO]; exact hs2⟩
        have hs := hfr.sM
        have hch : ∀ j, 0 ≤ j → j < (mS (SM M) : Int) → 0 ≤ N 6 j ∧ N 6 j < 10 := fun j j0 j1 => by
          rw [hA j j0 j1]
          exact enm_v hAm hm4 j0 j1
        have hnm : nwsF (N 6) (N 0 12).toNat - 6 = (nwL A 0 : Nat) := by
          rw [h12, Int.toNat_natCast, nwsF_L hAm (mS (SM M)) (Nat.le_refl _) (fun j j0 j1 => hA j j0 j1), List.take_of_length_le (by omega)]
          omega
        have h14 : 0 ≤ N 0 14 ∧ N 0 14 ≤ 100 := by rcases hst.2 with ⟨-, z, -⟩ | ⟨-, z, -⟩ <;> omega
        have h15 : 0 ≤ N 0 15 ∧ N 0 15 ≤ 100 := by rcases hst.2 with ⟨-, -, z⟩ | ⟨-, -, z⟩ <;> omega
        have skip : ∀ N' : xM, (∀ c, c ≠ 7 → c ≠ 8 → c ≠ 9 → N' c = N c) → ∀ o4 o5 : Option xV, ¬ (Fit (SM M) A ∧ (nwL A 0 < s.1 ∨ nwL A 0 = s.1 ∧ nlL (SM M) A ≤ s.2.1)) → sp_X6_goOn [.inr 0, .inl (allV (SM M))] N' (fun r M2 => K 39 [some (.inr 0), some (.inl (allV (SM M))), some (.inl (nbx (SM M) : Nat)), some (.inl r), o4, o5] [] M2) := by
          intro N' g o4 o5 hno
          refine go N' o4 o5 (hfr.trans (fM.of (fun c hc => g c (by omega) (by omega) (by omega)))) (by rw [g 0 (by decide) (by decide) (by decide)]; exact h12) (fun j j0 j1 => by rw [g 6 (by decide) (by decide) (by decide)]; exact hA j j0 j1) ?_
          rw [stp_no hno, stM_c (fun k _ _ => by rw [g 0 (by decide) (by decide) (by decide)]) (g 10 (by decide) (by decide) (by decide)) (g 11 (by decide) (by decide) (by decide)) (g 12 (by decide) (by decide) (by decide))]
          exact hst
        refine ⟨⟨by omega, by omega⟩, fun q => by omega, fun _ => ⟨rfl, ⟨by omega, by omega⟩, fun j j0 j1 => ?_, ?_⟩⟩
        · have := hch j j0 (by omega); omega
        rw [hnm]
        refine ⟨⟨by omega, by omega⟩, ⟨by omega, by omega⟩, fun q1 => skip N (fun _ _ _ _ => rfl) _ _ ?_, fun q1 => ⟨_, rfl, by rw [hs.wM_e]; exact hw, by rw [hs.SM_e]; exact hf, all_b hn, by rw [hs.bsM_e, hs.1, bsM_m hn]; omega, fun j j0 j1 => ?_, fun r3 N3 g1 g2 => ?_⟩⟩
        · rintro ⟨-, hz⟩
          rcases hst.2 with ⟨-, z, -⟩ | ⟨-, z, -⟩ <;> omega
        · rw [hs.bsM_e, hs.1, bsM_m hn] at j1
          exact hch j j0 j1
        · have eSN := hs.SM_e
          have hnN : 0 ≤ N 0 0 ∧ N 0 0 ≤ 6 := by rw [hs.1]; exact hn
          have hA' : ∀ j, 0 ≤ j → j < (mS (SM N) : Int) → N 6 j = lkA A j := by rw [eSN]; exact hA
          have hFT := FT_all hnN hA'
          have hAd := Adj_all hnN hA'
          rw [eSN] at hFT hAd g2
          have e0 : N3 0 = N 0 := g1 0 (by decide) (by decide) (by decide)
          have e6 : N3 6 = N 6 := g1 6 (by decide) (by decide) (by decide)
          have f3 : fM M N3 := hfr.trans (fM.of (fun c hc => g1 c (by omega) (by omega) (by omega)))
          refine ⟨⟨by omega, by omega⟩, fun q3 => skip N3 g1 _ _ (fun z => ?_), fun q3 => ⟨rfl, by rw [e0]; omega, fun j j0 j1 => ?_, ?_⟩⟩
          · exact (g2.elim (fun y => by omega) (fun y => y.2) : ¬ FT _ _ _) (hFT.mpr z.1)
          · rw [e0] at j1
            rw [e6]
            have := hch j j0 (by omega)
            omega
          · obtain ⟨-, hF, hL, hD⟩ := g2.elim id (fun y => (q3 y.1).elim)
            have hL := mtL_c hAd hL
            have hD := mtD_c hAd hD
            have hFit := hFT.mp hF
            rw [e6, e0, hnm]
            refine ⟨rfl, Adj (SM M) all0 (plL (SM M) A), hL, ?_⟩
            dsimp only
            rw [e0, show nLn (Adj (SM M) all0 (plL (SM M) A)) 10 = nlL (SM M) A from rfl]
            have kp : ∀ (N4 : xM) (l0 : List (List Int)) (o4 o5 : Option xV), fM M N4 → N4 0 12 = (mS (SM M) : Nat) → N4 6 = N 6 → N4 8 = N3 8 → N4 9 = N3 9 → ktM N4 (SM M) l0 → l0.length ≤ 369 → (stp (Fit (SM M)) (nlL (SM M)) s A).2.2 = l0 ++ [A] → N4 0 14 = (nbx (SM M) : Nat) + ((stp (Fit (SM M)) (nlL (SM M)) s A).1 : Int) → N4 0 15 = (stp (Fit (SM M)) (nlL (SM M)) s A).2.1 → sp_X6_keep [.inr 0] N4 (fun _ M8 => sp_X6_goOn [.inr 0, .inl (allV (SM M))] M8 (fun r M2 => K 39 [some (.inr 0), some (.inl (allV (SM M))), some (.inl (nbx (SM M) : Nat)), some (.inl r), o4, o5] [] M2)) := by
              intro N4 l0 o4 o5 f4 m12 k6 k8 k9 hk hl0 hs1 hs2 hs3
              have hk1 := hk.1
              have fs4 := f4.sM
              refine ⟨rfl, by rw [fs4.wM_e]; exact hw, by omega, by omega, fun a b b0 b1 b2 b3 => ?_, fun M8 j1 j2 j3 j4 j5 j6 j7 => ?_⟩
              · rw [k8, k9]
                exact ⟨(hL a b b0 b1 b2 b3).1, (hD a b b0 b1 b2 b3).1⟩
              · refine go M8 o4 o5 (f4.trans ⟨fun k hk => j2 k (by omega), fun c h1 h2 => j1 c (by omega) (by omega) (by omega) (by omega)⟩) (by rw [j2 12 (by decide)]; exact m12) (fun j j0 jj => by rw [j1 6 (by decide) (by decide) (by decide) (by decide), k6]; exact hA j j0 jj) ⟨⟨?_, fun j B hj => ?_⟩, Or.inr ⟨by rw [hs1]; simp, by rw [j2 14 (by decide)]; exact hs2, by rw [j2 15 (by decide)]; exact hs3⟩⟩
                · rw [j3, hk1, hs1]
                  simp
                · rw [hs1] at hj
                  by_cases hjl : j < l0.length
                  · rw [List.getElem?_append_left hjl] at hj
                    obtain ⟨z1, z2⟩ := hk.2 j B hj
                    refine ⟨fun u u0 u1 => by rw [j4 _ (by omega)]; exact z1 u u0 u1, fun a b b0 b1 b2 b3 => ?_⟩
                    have := j6 (36 * (j : Int) + 6 * a + b) (by omega)
                    rw [this.1, this.2]
                    exact z2 a b b0 b1 b2 b3
                  · rw [List.getElem?_append_right (by omega)] at hj
                    have hj0 : j - l0.length = 0 := by
                      have := (List.getElem?_eq_some_iff.mp hj).1
                      simp at this
                      omega
                    rw [hj0] at hj
                    simp at hj
                    subst hj
                    have hjj : (j : Int) = N4 0 13 := by omega
                    rw [hjj]
                    refine ⟨fun u u0 u1 => by rw [j5 u u0 (by omega), k6]; exact hA u u0 u1, fun a b b0 b1 b2 b3 => ?_⟩
                    have e4 : N4 4 = M 4 := f4.2 4 (by decide) (by decide)
                    have := j7 a b b0 b1 b2 b3
                    rw [this.1, this.2, k8, k9, e4]
                    have ba := hw.2.2.2.2.2 a b0 b1
                    have bb' := hw.2.2.2.2.2 b b2 b3
                    have hd := hD (M 4 a) (M 4 b) (by omega) (by omega) (by omega) (by omega)
                    have hl := hL (M 4 a) (M 4 b) (by omega) (by omega) (by omega) (by omega)
                    exact ⟨hd.2, hl.1, hl.2⟩
            have rst : (nwL A 0 < s.1 ∨ nwL A 0 = s.1 ∧ nlL (SM M) A ≤ s.2.1) → (nwL A 0 < s.1 ∨ nlL (SM M) A < s.2.1) → ∀ o4 o5 : Option xV, rg (nlL (SM M) A : Nat) ∧ rg ((xup (xup (xup N3 0 13 0) 0 14 ((nbx (SM M) : Nat) + (nwL A 0 : Nat) : Int)) 0 15 (nlL (SM M) A : Nat)) 0 15) ∧ (((nlL (SM M) A : Nat) : Int) ≠ (xup (xup (xup N3 0 13 0) 0 14 ((nbx (SM M) : Nat) + (nwL A 0 : Nat) : Int)) 0 15 (nlL (SM M) A : Nat)) 0 15 → sp_X6_goOn [.inr 0, .inl (allV (SM M))] (xup (xup (xup N3 0 13 0) 0 14 ((nbx (SM M) : Nat) + (nwL A 0 : Nat) : Int)) 0 15 (nlL (SM M) A : Nat)) (fun r M2 => K 39 [some (.inr 0), some (.inl (allV (SM M))), some (.inl (nbx (SM M) : Nat)), some (.inl r), o4, o5] [] M2)) ∧ (((nlL (SM M) A : Nat) : Int) = (xup (xup (xup N3 0 13 0) 0 14 ((nbx (SM M) : Nat) + (nwL A 0 : Nat) : Int)) 0 15 (nlL (SM M) A : Nat)) 0 15 → sp_X6_keep [.inr 0] (xup (xup (xup N3 0 13 0) 0 14 ((nbx (SM M) : Nat) + (nwL A 0 : Nat) : Int)) 0 15 (nlL (SM M) A : Nat)) (fun _ M8 => sp_X6_goOn [.inr 0, .inl (allV (SM M))] M8 (fun r M2 => K 39 [some (.inr 0), some (.inl (allV (SM M))), some (.inl (nbx (SM M) : Nat)), some (.inl r), o4, o5] [] M2))) := by
              intro c1 c2 o4 o5
              have e15 : (xup (xup (xup N3 0 13 0) 0 14 ((nbx (SM M) : Nat) + (nwL A 0 : Nat) : Int)) 0 15 (nlL (SM M) A : Nat)) 0 15 = (nlL (SM M) A : Nat) := by rw [xup_at, if_pos rfl]
              have hst' : stp (Fit (SM M)) (nlL (SM M)) s A = (nwL A 0, nlL (SM M) A, [A]) := by rw [stp_yes ⟨hFit, c1⟩, if_pos c2]
              refine ⟨⟨by omega, by omega⟩, by rw [e15]; exact ⟨by omega, by omega⟩, fun z => (z e15.symm).elim, fun _ => kp _ [] o4 o5 ⟨fun k hk => ?_, fun c h1 h2 => ?_⟩ ?_ ?_ ?_ ?_ ⟨?_, fun j B hj => by simp at hj⟩ (by simp) (by rw [hst']; rfl) ?_ (by rw [hst']; exact e15)⟩
              · rw [xup_at, if_neg (by omega), xup_at, if_neg (by omega), xup_at, if_neg (by omega)]; exact f3.1 k hk
              · rw [xup_ne (by omega), xup_ne (by omega), xup_ne (by omega)]; exact f3.2 c h1 h2
              · rw [xup_at, if_neg (by decide), xup_at, if_neg (by decide), xup_at, if_neg (by decide), e0]; exact h12
              · rw [xup_ne (by decide), xup_ne (by decide), xup_ne (by decide)]; exact e6
              · rw [xup_ne (by decide), xup_ne (by decide), xup_ne (by decide)]
              · rw [xup_ne (by decide), xup_ne (by decide), xup_ne (by decide)]
              · rw [xup_at, if_neg (by decide), xup_at, if_neg (by decide), xup_at, if_pos rfl]; rfl
              · rw [hst', xup_at, if_neg (by decide), xup_at, if_pos rfl]
            refine ⟨⟨by omega, by omega⟩, ⟨by omega, by omega⟩, fun q5 => rst ?_ ?_ _ _, fun q5 => ⟨⟨by omega, by omega⟩, ⟨by omega, by omega⟩, fun q6 => ⟨⟨by omega, by omega⟩, ⟨by omega, by omega⟩, fun q7 => skip N3 g1 _ _ (fun z => ?_), fun q7 => ?_⟩, fun q6 => rst ?_ ?_ _ _⟩⟩
            · rcases hst.2 with ⟨z0, z1, z2⟩ | ⟨z0, z1, z2⟩
              · subst z0; show nwL A 0 < 4 ∨ nwL A 0 = 4 ∧ nlL (SM M) A ≤ 100; omega
              · left; omega
            · rcases hst.2 with ⟨z0, z1, z2⟩ | ⟨z0, z1, z2⟩
              · subst z0; show nwL A 0 < 4 ∨ nlL (SM M) A < 100; omega
              · left; omega
            · change N 0 15 ≤ (nlL (SM M) A : Nat) at q6
              change ((nlL (SM M) A : Nat) : Int) ≠ N 0 15 at q7
              rcases hst.2 with ⟨z0, z1, z2⟩ | ⟨z0, z1, z2⟩ <;> omega
            · change N 0 15 ≤ (nlL (SM M) A : Nat) at q6
              change ((nlL (SM M) A : Nat) : Int) = N 0 15 at q7
              rcases hst.2 with ⟨z0, z1, z2⟩ | ⟨z0, z1, z2⟩
              · omega
              · have hst' : stp (Fit (SM M)) (nlL (SM M)) s A = (s.1, s.2.1, s.2.2 ++ [A]) := by rw [stp_yes ⟨hFit, Or.inr ⟨by omega, by omega⟩⟩, if_neg (by omega)]
                have k3 : ktM N3 (SM M) s.2.2 := by
                  have : stM N3 (SM M) s := by
                    rw [stM_c (fun k _ _ => by rw [e0]) (g1 10 (by decide) (by decide) (by decide)) (g1 11 (by decide) (by decide) (by decide)) (g1 12 (by decide) (by decide) (by decide))]
                    exact hst
                  exact this.1
                exact kp N3 s.2.2 _ _ f3 (by rw [e0]; exact h12) e6 rfl rfl k3 hkl (by rw [hst']) (by rw [hst', e0]; exact z1) (by rw [hst', e0]; exact z2)
            · change ((nlL (SM M) A : Nat) : Int) < N 0 15 at q6
              rcases hst.2 with ⟨z0, z1, z2⟩ | ⟨z0, z1, z2⟩
              · omega
              · right; omega
            · change ((nlL (SM M) A : Nat) : Int) < N 0 15 at q6
              rcases hst.2 with ⟨z0, z1, z2⟩ | ⟨z0, z1, z2⟩
              · omega
              · right; omega
      refine main _ (fun r o4 o5 N2 f2 m2 hc2 => ⟨⟨r, o4, o5, rfl, rfl, rfl, f2, m2, ?_⟩, ?_⟩)
      · rcases hc2 with z | ⟨z, B, rest', hz, hB, hs2⟩
        · exact Or.inl z
        · exact Or.inr ⟨z, done ++ [A], B, rest', by rw [hE, hz]; simp, hB, hs2⟩
      · show (if r = 0 then 0 else 1 + (aft (thB (SM M)) (lsA N2 (mS (SM M))) 0).length) < (if (1 : Int) = 0 then 0 else 1 + (aft (thB (SM M)) (lsA N (mS (SM M))) 0).length)
        rw [if_neg (show ¬ (1 : Int) = 0 by decide), lsA_e hlen hA, ← hrest]
        rcases hc2 with ⟨z, -⟩ | ⟨z, B, rest', hz, hB, -⟩
        · rw [if_pos z]; omega
        · have hE2 : enm (thB (SM M)) (mS (SM M)) 0 = (done ++ [A]) ++ B :: rest' := by rw [hE, hz]; simp
          have hBl : B.length = mS (SM M) := enm_len (show B ∈ enm (thB (SM M)) (mS (SM M)) 0 by rw [hE2]; simp)
          rw [if_neg (by omega), lsA_e hBl hB, ← split_aft _ _ _ _ _ hE2, hz, List.length_cons]
          omega
theorem k_X6_findNets {l : Launch} {D : va_G} {T : Nat → ClassId} {ad : Nat → Nat} (hO : xOk ad LM) : xMet l D T ad LM yX6_findNets cX6_findNets 6 none true 4 sp_X6_findNets :=
  xmet (rt := 0) (fld := fldX6) (cals := (calX6_findNets sp_X6_boxMany sp_X6_begin sp_X6_newMany sp_X6_fits sp_X6_lineMany sp_X6_keep sp_X6_goOn)) (cst := []) (I := iX6_findNets) (cut := cutX6_findNets) hO (by decide +kernel) ⟨by decide, by decide, by decide⟩ oX6_findNets foX6 (fun _ h => absurd h List.not_mem_nil) (List.forall_mem_cons.mpr ⟨⟨yX6_boxMany, cX6_boxMany, 4, (some .int), 2, 1, by decide, yoX6_boxMany, k_X6_boxMany hO, loX6_100, Or.inr ⟨rfl, rfl, 0, 6, [none, some 1, some 2, none, some 3, some 4, some 5, none, some 6, some 7, some 8, some 9, none, none, none, none, some 10, some 11, some 12, none, none], TX6, 21, rfl, rfl, spV1_r⟩⟩, List.forall_mem_cons.mpr ⟨⟨yX6_begin, cX6_begin, 3, none, 3, 1, by decide, yoX6_begin, k_X6_begin hO, loX6_109, Or.inr ⟨rfl, rfl, 0, 6, [none, some 1, some 2, none, some 3, some 4, some 5, none, some 6, some 7, some 8, some 9, none, none, none, none, some 10, some 11, some 12, none, none], TX6, 21, rfl, rfl, spV1_r⟩⟩, List.forall_mem_cons.mpr ⟨⟨yX6_newMany, cX6_newMany, 3, (some .int), 0, 0, by decide, yoX6_newMany, k_X6_newMany hO, loX6_112, Or.inr ⟨rfl, rfl, 0, 6, [none, some 1, some 2, none, some 3, some 4, some 5, none, some 6, some 7, some 8, some 9, none, none, none, none, some 10, some 11, some 12, none, none], TX6, 21, rfl, rfl, spV0_r⟩⟩, List.forall_mem_cons.mpr ⟨⟨yX6_fits, cX6_fits, 5, (some .boolean), 1, 1, by decide, yoX6_fits, k_X6_fits hO, loX6_115, Or.inr ⟨rfl, rfl, 0, 6, [none, some 1, some 2, none, some 3, some 4, some 5, none, some 6, some 7, some 8, some 9, none, none, none, none, some 10, some 11, some 12, none, none], TX6, 21, rfl, rfl, spV1_r⟩⟩, List.forall_mem_cons.mpr ⟨⟨yX6_lineMany, cX6_lineMany, 4, (some .int), 0, 0, by decide, yoX6_lineMany, k_X6_lineMany hO, loX6_118, Or.inr ⟨rfl, rfl, 0, 6, [none, some 1, some 2, none, some 3, some 4, some 5, none, some 6, some 7, some 8, some 9, none, none, none, none, some 10, some 11, some 12, none, none], TX6, 21, rfl, rfl, spV0_r⟩⟩, List.forall_mem_cons.mpr ⟨⟨yX6_keep, cX6_keep, 3, none, 0, 0, by decide, yoX6_keep, k_X6_keep hO, loX6_121, Or.inr ⟨rfl, rfl, 0, 6, [none, some 1, some 2, none, some 3, some 4, some 5, none, some 6, some 7, some 8, some 9, none, none, none, none, some 10, some 11, some 12, none, none], TX6, 21, rfl, rfl, spV0_r⟩⟩, List.forall_mem_cons.mpr ⟨⟨yX6_goOn, cX6_goOn, 4, (some .boolean), 3, 1, by decide, yoX6_goOn, k_X6_goOn hO, loX6_124, Or.inr ⟨rfl, rfl, 0, 6, [none, some 1, some 2, none, some 3, some 4, some 5, none, some 6, some 7, some 8, some 9, none, none, none, none, some 10, some 11, some 12, none, none], TX6, 21, rfl, rfl, spV1_r⟩⟩, fun _ h => absurd h List.not_mem_nil⟩⟩⟩⟩⟩⟩⟩) b_X6_findNets

