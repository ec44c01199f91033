/-! the reference: canFit, falses -/
theorem FT_q {S : dS} {q : Int → Prop} {pl pl' : Int → Int → Int} (h : ∀ t i, 0 ≤ t → t < S.1 → q t → 0 ≤ i → i < S.2.1 t → pl t i = pl' t i) : FT S q pl ↔ FT S q pl' :=
  ⟨FT_map (fun x => x) (fun t i a b c d e => h t i a b c d e), FT_map (fun x => x) (fun t i a b c d e => (h t i a b c d e).symm)⟩
theorem sil_inj {f g : Int → Int} {t i u j : Int} (ht : 0 ≤ t) (hi : 0 ≤ i ∧ i < g t) (hs : f (t * 6 + i) = -1) (hu : 0 ≤ u) (hj : 0 ≤ j ∧ j < g u) (hs' : f (u * 6 + j) = -1) (he : sS f g t.toNat + cS f (t * 6) i.toNat = sS f g u.toNat + cS f (u * 6) j.toNat) : t = u ∧ i = j := by
  have lt : ∀ {t i u j : Int}, 0 ≤ t → (0 ≤ i ∧ i < g t) → f (t * 6 + i) = -1 → t < u → sS f g t.toNat + cS f (t * 6) i.toNat < sS f g u.toNat + cS f (u * 6) j.toNat := by
    intro t i u j ht hi hs htu
    have h1 := (sil_lt (f := f) (g := g) (n := u) ⟨ht, htu⟩ hi hs).2
    have h2 := cS_b f (u * 6) j.toNat
    omega
  have hle : t = u := by
    apply Classical.byContradiction
    intro z
    rcases (show t < u ∨ u < t by omega) with y | y
    · have := lt (j := j) ht hi hs y; omega
    · have := lt (j := i) hu hj hs' y; omega
  subst hle
  refine ⟨rfl, ?_⟩
  have step : ∀ {i j : Int}, 0 ≤ i → f (t * 6 + i) = -1 → i < j → cS f (t * 6) i.toNat < cS f (t * 6) j.toNat := by
    intro i j hi hs hij
    have h1 : cS f (t * 6) (i.toNat + 1) ≤ cS f (t * 6) j.toNat := cS_mono f _ (by omega)
    have hs2 : f (t * 6 + ((i.toNat : Nat) : Int)) = -1 := by rw [Int.toNat_of_nonneg hi]; exact hs
    simp only [cS, if_pos hs2] at h1
    omega
  apply Classical.byContradiction
  intro z
  rcases (show i < j ∨ j < i by omega) with y | y
  · have := step hi.1 hs y; omega
  · have := step hj.1 hs' y; omega
theorem sil_injM {M : xM} {s t i u j : Int} (ht : 0 ≤ t) (hst : tb s t) (hi : 0 ≤ i ∧ i < M 1 t) (hs : M 2 (t * 6 + i) = -1) (hu : 0 ≤ u) (hsu : tb s u) (hj : 0 ≤ j ∧ j < M 1 u) (hs' : M 2 (u * 6 + j) = -1) (he : ofM M s t + cS (M 2) (t * 6) i.toNat = ofM M s u + cS (M 2) (u * 6) j.toNat) : t = u ∧ i = j := by
  have lt : ∀ {t i u j : Int}, 0 ≤ t → tb s t → (0 ≤ i ∧ i < M 1 t) → M 2 (t * 6 + i) = -1 → t < u → ofM M s t + cS (M 2) (t * 6) i.toNat < ofM M s u + cS (M 2) (u * 6) j.toNat := by
    intro t i u j ht hst hi hs htu
    obtain ⟨a, rfl⟩ : ∃ a : Nat, t = a := ⟨t.toNat, by omega⟩
    have h1 := (bsM_mono (M := M) (s := s) (j := a + 1) (k := u.toNat) (by omega)).2
    rw [(bsM_step a).1 hst] at h1
    have h2 := cS_b (M 2) (u * 6) j.toNat
    have h3 : cS (M 2) ((a : Int) * 6) (i.toNat + 1) ≤ cS (M 2) ((a : Int) * 6) (M 1 a).toNat := cS_mono _ _ (by omega)
    have hs2 : M 2 ((a : Int) * 6 + ((i.toNat : Nat) : Int)) = -1 := by rw [Int.toNat_of_nonneg hi.1]; exact hs
    simp only [cS, if_pos hs2] at h3
    unfold ofM
    rw [Int.toNat_natCast]
    omega
  have hle : t = u := by
    apply Classical.byContradiction
    intro z
    rcases (show t < u ∨ u < t by omega) with y | y
    · have := lt (j := j) ht hst hi hs y; omega
    · have := lt (j := i) hu hsu hj hs' y; omega
  subst hle
  exact ⟨rfl, (sil_inj (f := M 2) (g := M 1) ht hi hs ht hj hs' (by omega)).2⟩
def lsN : Nat → Nat → List Int
  | 0, _ => []
  | r + 1, nw => ((6 + nw : Nat) : Int) :: lsN r (nw + 1)
theorem lsN_mem {th : Int → Prop} : ∀ (r nw : Nat), lsN r nw ∈ enm th r nw := by
  intro r
  induction r with
  | zero => intro nw; simp [enm, lsN]
  | succ r ih =>
    intro nw
    simp only [enm, List.mem_flatMap]
    refine ⟨6 + nw, List.mem_range.mpr (by omega), brn_mem.mpr ⟨Or.inl (by omega), lsN r (nw + 1), ?_, rfl⟩⟩
    rw [show nwS nw (6 + nw) = nw + 1 by unfold nwS; rw [if_pos rfl]]
    exact ih (nw + 1)
theorem lsN_at : ∀ (r nw k : Nat), k < r → (lsN r nw)[k]? = some (((6 + nw + k : Nat)) : Int) := by
  intro r
  induction r with
  | zero => intro nw k h; omega
  | succ r ih =>
    intro nw k h
    cases k with
    | zero => rfl
    | succ k =>
      show (lsN r (nw + 1))[k]? = _
      rw [ih (nw + 1) k (by omega)]
      congr 2
      omega
theorem lsN_lk {r : Nat} {j : Int} (h0 : 0 ≤ j) (h1 : j < r) : lkA (lsN r 0) j = 6 + j := by
  unfold lkA
  rw [List.getD_eq_getElem?_getD, lsN_at r 0 j.toNat (by omega), Option.getD_some]
  omega
theorem bsM_le {M : xM} {s : Int} : ∀ k : Nat, bsM M s k ≤ sS (M 2) (M 1) k := by
  intro k
  induction k with
  | zero => exact Int.le_refl _
  | succ k ih =>
    have := cS_b (M 2) ((k : Int) * 6) (M 1 k).toNat
    by_cases z : tb s (k : Int)
    · rw [(bsM_step k).1 z]; simp only [sS]; omega
    · rw [(bsM_step k).2 z]; simp only [sS]; omega
theorem bsM_4 {M : xM} {s : Int} (hf : wfS (SM M)) : 0 ≤ bsM M s (M 0 0).toNat ∧ bsM M s (M 0 0).toNat ≤ 4 := by
  have h1 := bsM_le (M := M) (s := s) (M 0 0).toNat
  have h2 : sS (M 2) (M 1) (M 0 0).toNat ≤ 4 := hf.2.2.2.2
  have h3 := (bsM_mono (M := M) (s := s) (j := (M 0 0).toNat) (k := (M 0 0).toNat) (Nat.le_refl _)).1
  omega
noncomputable def mM (M : xM) (s : Int) : Nat := (bsM M s (M 0 0).toNat).toNat
def FA (M : xM) (s : Int) (A : List Int) : Prop := FT (SM M) (tb s) (Pl (SM M) (lkA A) (ofM M s))
def cfT (S : dS) (s : Int) : Prop := FT S (tb s) (Pl S (fun j => 6 + j) (offS S))
theorem cf_iff {M : xM} {s : Int} (hf : wfS (SM M)) : (∃ A ∈ enm (bxT M s) (mM M s) 0, FA M s A) ↔ cfT (SM M) s := by
  have hb4 := bsM_4 (s := s) hf
  constructor
  · rintro ⟨A, -, hF⟩
    refine FT_loose hf (fun t i a1 a2 a3 a4 a5 a6 => ?_) hF
    have hi := sil_m ⟨a1, a2⟩ ⟨a4, a5⟩ a6
    refine ⟨fun h6 => ?_, fun u j c1 c2 c3 c4 c5 c6 he => ?_⟩
    · rw [Pl_sil a6] at h6
      omega
    · rw [Pl_sil a6, Pl_sil c6] at he
      obtain ⟨rfl, rfl⟩ := sil_inj (f := (SM M).2.2.1) (g := (SM M).2.1) a1 ⟨a4, a5⟩ a6 c1 ⟨c4, c5⟩ c6 (by unfold offS at he; omega)
      rfl
  · intro hF
    refine ⟨lsN (mM M s) 0, lsN_mem _ _, FT_loose hf (fun t i a1 a2 a3 a4 a5 a6 => ?_) hF⟩
    have hi := ofM_b (M := M) ⟨a1, a2⟩ a3 ⟨a4, a5⟩ a6
    have e1 : Pl (SM M) (lkA (lsN (mM M s) 0)) (ofM M s) t i = 6 + (ofM M s t + cS (M 2) (t * 6) i.toNat) := by
      rw [Pl_sil a6]
      exact lsN_lk hi.1 (by unfold mM; rw [Int.toNat_of_nonneg hb4.1]; exact hi.2)
    refine ⟨fun h6 => ?_, fun u j c1 c2 c3 c4 c5 c6 he => ?_⟩
    · rw [e1] at h6; omega
    · have hi2 := ofM_b (M := M) ⟨c1, c2⟩ c3 ⟨c4, c5⟩ c6
      have e2 : Pl (SM M) (lkA (lsN (mM M s) 0)) (ofM M s) u j = 6 + (ofM M s u + cS (M 2) (u * 6) j.toNat) := by
        rw [Pl_sil c6]
        exact lsN_lk hi2.1 (by unfold mM; rw [Int.toNat_of_nonneg hb4.1]; exact hi2.2)
      rw [e1, e2] at he
      obtain ⟨rfl, rfl⟩ := sil_injM (M := M) a1 a3 ⟨a4, a5⟩ a6 c1 c3 ⟨c4, c5⟩ c6 (by omega)
      rfl
def f_X6_canFit (s : Int) (M : xM) (Post : xR) : Prop := wM M ∧ wfS (SM M) ∧ (0 ≤ s ∧ s < 64) ∧ ∀ (r : Int) (M' : xM), fM M M' → (r = 1 ∧ cfT (SM M) s ∨ r = 0 ∧ ¬ cfT (SM M) s) → Post r M'
abbrev sp_X6_canFit : xT := spV1 0 f_X6_canFit
set_option maxRecDepth 100000 in
set_option maxHeartbeats 4000000 in
theorem b_X6_canFit (as : List xV) (M : xM) (Post : xR) (h : sp_X6_canFit as M Post) : as.length ≤ 3 ∧ ∃ (Inv : xG) (μ : Nat → xL → List xV → xM → Nat) (f0 f1 : Nat), xw LM fldX6 (calX6_canFit sp_X6_begin sp_X6_fits sp_X6_goOn) [] 2 Post iX6_canFit cutX6_canFit Inv f0 0 (xlv as 3) [] M ∧ ∀ pc lv st M', Inv pc lv st M' → xw LM fldX6 (calX6_canFit sp_X6_begin sp_X6_fits sp_X6_goOn) [] 2 Post iX6_canFit cutX6_canFit (fun pc2 lv2 st2 M2 => Inv pc2 lv2 st2 M2 ∧ μ pc2 lv2 st2 M2 < μ pc lv st M') f1 pc lv st M' := by
  obtain ⟨v1, rfl, h⟩ := h
  refine ⟨by simp, (fun pc lv st N => ∃ (r : Int), pc = 7 ∧ lv = [some (.inr 0), some (.inl v1), some (.inl r)] ∧ st = [] ∧ fM M N ∧ N 0 12 = (mM M v1 : Nat) ∧ ((r = 0 ∧ ∀ A ∈ enm (bxT M v1) (mM M v1) 0, ¬ FA M v1 A) ∨ (r = 1 ∧ ∃ (done : List (List Int)) (A : List Int) (rest : List (List Int)), enm (bxT M v1) (mM M v1) 0 = done ++ A :: rest ∧ (∀ j, 0 ≤ j → j < (mM M v1 : Int) → N 6 j = lkA A j) ∧ ∀ B ∈ done, ¬ FA M v1 B))), (fun pc lv st N => match lv with | [_, _, some (.inl r)] => if r = 0 then 0 else 1 + (aft (bxT M v1) (lsA N (mM M v1)) 0).length | _ => 0), 400, 400, Eq.mpr (vcX6_canFit_0 ..) ?_, ?_⟩
  · obtain ⟨hw, hf, hs, hp⟩ := h
    have hb4 := bsM_4 (s := v1) hf
    have em : ((mM M v1 : Nat) : Int) = bsM M v1 (M 0 0).toNat := Int.toNat_of_nonneg hb4.1
    refine ⟨_, rfl, hw, hs, hb4.2, fun M2 c0 g1 g2 g3 g4 g5 => ?_⟩
    rw [← em] at g3 g5
    have h0 := g4.1
    obtain ⟨cN, rfl⟩ : ∃ cN : Nat, c0 = cN := ⟨c0.toNat, by omega⟩
    obtain ⟨rest, hr⟩ := enm_fst g4 (mM M v1) 0
    exact ⟨1, rfl, rfl, rfl, ⟨fun k hk => g2 k (by omega), fun c h1 h2 => g1 c (by omega) (by omega)⟩, g3, Or.inr ⟨rfl, [], _, rest, hr, fun j j0 j1 => by rw [g5 j j0 j1, lkA_rep j0 j1], fun B hB => by cases hB⟩⟩
  · obtain ⟨hw, hf, hs, hp⟩ := h
    have hn := hw.1
    have hb4 := bsM_4 (s := v1) hf
    have em : ((mM M v1 : Nat) : Int) = bsM M v1 (M 0 0).toNat := Int.toNat_of_nonneg hb4.1
    rintro pc lv st N ⟨r, rfl, rfl, rfl, hfr, h12, hcase⟩
    rcases hcase with ⟨rfl, hno⟩ | ⟨rfl, done, A, rest, hE, hA, hdn⟩
    · refine Eq.mpr (vcX6_canFit_7 ..) ?_
      refine ⟨⟨by omega, by omega⟩, fun _ => ⟨by omega, hp 0 N hfr (Or.inr ⟨rfl, fun z => ?_⟩)⟩, fun q => (q rfl).elim⟩
      obtain ⟨A, h1, h2⟩ := (cf_iff hf).mpr z
      exact hno A h1 h2
    · have hAm : A ∈ enm (bxT M v1) (mM M v1) 0 := by rw [hE]; simp
      have hlen : A.length = mM M v1 := enm_len hAm
      have hrest := split_aft (mM M v1) 0 done A rest hE
      have fs := hfr.sM
      have ofe : ofM N v1 = ofM M v1 := by
        funext t
        exact fs.bsM_e v1 t.toNat
      refine Eq.mpr (vcX6_canFit_7 ..) ?_
      refine ⟨⟨by omega, by omega⟩, fun q => by omega, fun _ => ⟨_, rfl, by rw [fs.wM_e]; exact hw, by rw [fs.SM_e]; exact hf, hs, by rw [fs.bsM_e, fs.1]; exact hb4.2, fun j j0 j1 => ?_, fun r3 N3 g1 g2 => ?_⟩⟩
      · rw [fs.bsM_e, fs.1, ← em] at j1
        rw [hA j j0 j1]
        exact enm_v hAm (by omega) j0 j1
      · have hFT : FT (SM N) (tb v1) (plO N v1) ↔ FA M v1 A := by
          unfold plO FA
          rw [fs.SM_e, ofe]
          refine FT_q (fun t i t0 t1 t2 i0 i1 => ?_)
          by_cases hz : (SM M).2.2.1 (t * 6 + i) = -1
          · rw [Pl_sil hz, Pl_sil hz]
            have := ofM_b (M := M) ⟨t0, t1⟩ t2 ⟨i0, i1⟩ hz
            exact hA _ this.1 (by rw [em]; exact this.2)
          · rw [Pl_nm hz, Pl_nm hz]
        have f3 : fM M N3 := hfr.trans (fM.of (fun c hc => g1 c (by omega) (by omega) (by omega)))
        refine ⟨⟨by omega, by omega⟩, fun q3 => ?_, fun q3 => ⟨by omega, hp 1 N3 f3 (Or.inl ⟨rfl, (cf_iff hf).mp ⟨A, hAm, hFT.mp ?_⟩⟩)⟩⟩
        · have nF : ¬ FA M v1 A := fun z => (g2.elim (fun y => by omega) (fun y => y.2) : ¬ FT (SM N) (tb v1) (plO N v1)) (hFT.mpr z)
          have e0 : N3 0 = N 0 := g1 0 (by decide) (by decide) (by decide)
          have e6 : N3 6 = N 6 := g1 6 (by decide) (by decide) (by decide)
          refine ⟨_, rfl, mM M v1, A, done, rest, by rw [f3.sM.wM_e]; exact hw, hs, by rw [e0]; exact h12, by omega, by rw [f3.sM.bxT_e]; exact hE, fun j j0 j1 => by rw [e6]; exact hA j j0 j1, fun r4 N4 k1 k2 => ⟨⟨r4, rfl, rfl, rfl, f3.trans (fM.of (fun c hc => k1 c (by omega))), by rw [k1 0 (by decide), e0]; exact h12, ?_⟩, ?_⟩⟩
          · rcases k2 with ⟨rfl, hz⟩ | ⟨rfl, B, rest', hz, hB⟩
            · refine Or.inl ⟨rfl, fun B hB => ?_⟩
              rw [hE, hz] at hB
              rcases List.mem_append.mp hB with y | y
              · exact hdn B y
              · rw [List.mem_singleton.mp y]; exact nF
            · refine Or.inr ⟨rfl, done ++ [A], B, rest', by rw [hE, hz]; simp, hB, fun C hC => ?_⟩
              rcases List.mem_append.mp hC with y | y
              · exact hdn C y
              · rw [List.mem_singleton.mp y]; exact nF
          · show (if r4 = 0 then 0 else 1 + (aft (bxT M v1) (lsA N4 (mM M v1)) 0).length) < (if (1 : Int) = 0 then 0 else 1 + (aft (bxT M v1) (lsA N (mM M v1)) 0).length)
            rw [if_neg (show ¬ (1 : Int) = 0 by decide), lsA_e hlen hA, ← hrest]
            rcases k2 with ⟨z, -⟩ | ⟨z, B, rest', hz, hB⟩
            · rw [if_pos z]; omega
            · have hE2 : enm (bxT M v1) (mM M v1) 0 = (done ++ [A]) ++ B :: rest' := by rw [hE, hz]; simp
              have hBl : B.length = mM M v1 := enm_len (show B ∈ enm (bxT M v1) (mM M v1) 0 by rw [hE2]; simp)
              rw [if_neg (by omega), lsA_e hBl hB, ← split_aft _ _ _ _ _ hE2, hz, List.length_cons]
              omega
        · exact (g2.elim id (fun y => (q3 y.1).elim)).2.1
theorem k_X6_canFit {l : Launch} {D : va_G} {T : Nat → ClassId} {ad : Nat → Nat} (hO : xOk ad LM) : xMet l D T ad LM yX6_canFit cX6_canFit 3 (some .boolean) false 4 sp_X6_canFit :=
  xmet (rt := 2) (fld := fldX6) (cals := (calX6_canFit sp_X6_begin sp_X6_fits sp_X6_goOn)) (cst := []) (I := iX6_canFit) (cut := cutX6_canFit) hO (by decide +kernel) ⟨by decide, by decide, by decide⟩ oX6_canFit foX6 (fun _ h => absurd h List.not_mem_nil) (List.forall_mem_cons.mpr ⟨⟨yX6_begin, cX6_begin, 3, none, 3, 1, by decide, yoX6_begin, k_X6_begin hO, loX6_109, Or.inr ⟨rfl, rfl, 0, 6, [none, some 1, some 2, none, some 3, some 4, some 5, none, some 6, some 7, some 8, some 9, none, none, none, none, some 10, some 11, some 12, none, none], TX6, 21, rfl, rfl, spV1_r⟩⟩, List.forall_mem_cons.mpr ⟨⟨yX6_fits, cX6_fits, 5, (some .boolean), 1, 1, by decide, yoX6_fits, k_X6_fits hO, loX6_115, Or.inr ⟨rfl, rfl, 0, 6, [none, some 1, some 2, none, some 3, some 4, some 5, none, some 6, some 7, some 8, some 9, none, none, none, none, some 10, some 11, some 12, none, none], TX6, 21, rfl, rfl, spV1_r⟩⟩, List.forall_mem_cons.mpr ⟨⟨yX6_goOn, cX6_goOn, 4, (some .boolean), 3, 1, by decide, yoX6_goOn, k_X6_goOn hO, loX6_124, Or.inr ⟨rfl, rfl, 0, 6, [none, some 1, some 2, none, some 3, some 4, some 5, none, some 6, some 7, some 8, some 9, none, none, none, none, some 10, some 11, some 12, none, none], TX6, 21, rfl, rfl, spV1_r⟩⟩, fun _ h => absurd h List.not_mem_nil⟩⟩⟩) b_X6_canFit
theorem stp_ne {Fit : List Int → Prop} {nl : List Int → Nat} {s : lSt} {A : List Int} (h : s.2.2 ≠ []) : (stp Fit nl s A).2.2 ≠ [] := by
  by_cases hc : Fit A ∧ (nwL A 0 < s.1 ∨ nwL A 0 = s.1 ∧ nl A ≤ s.2.1)
  · rw [stp_yes hc]
    split <;> simp
  · rw [stp_no hc]; exact h
theorem fold_ne {Fit : List Int → Prop} {nl : List Int → Nat} : ∀ (l : List (List Int)) (s : lSt), s.2.2 ≠ [] → (l.foldl (stp Fit nl) s).2.2 ≠ [] := by
  intro l
  induction l with
  | nil => intro s h; exact h
  | cons A l ih => intro s h; rw [List.foldl_cons]; exact ih _ (stp_ne h)
theorem fold_ex {Fit : List Int → Prop} {nl : List Int → Nat} {A : List Int} (hF : Fit A) (hn : nwL A 0 ≤ 4) (hl : nl A ≤ 100) : ∀ (l : List (List Int)), A ∈ l → (l.foldl (stp Fit nl) init0).2.2 ≠ [] := by
  intro l
  induction l with
  | nil => intro h; cases h
  | cons B l ih =>
    intro h
    rw [List.foldl_cons]
    by_cases hc : Fit B ∧ (nwL B 0 < init0.1 ∨ nwL B 0 = init0.1 ∧ nl B ≤ init0.2.1)
    · refine fold_ne l _ ?_
      rw [stp_yes hc]
      split <;> simp
    · rw [stp_no hc]
      rcases List.mem_cons.mp h with rfl | h
      · exfalso
        refine hc ⟨hF, ?_⟩
        show nwL A 0 < 4 ∨ nwL A 0 = 4 ∧ nl A ≤ 100
        omega
      · exact ih h
theorem FR_0 {S : dS} : FR S 0 ↔ FT S all0 (Pl S (fun s => 6 + s) (offS S)) := FT_iff rfl (fun _ _ _ => rfl) (fun t _ _ => ⟨fun _ => trivial, fun _ => tb_0 t⟩) (fun _ _ _ _ _ _ => rfl)
theorem FR_LN {S : dS} (hw : wfS S) : FR S 0 ↔ (LNs S).2.2.length ≠ 0 := by
  rw [FR_0]
  constructor
  · intro hF
    have hm4 := mS_4 hw
    have hmem : lsN (mS S) 0 ∈ enm (thB S) (mS S) 0 := lsN_mem _ _
    have hFit : Fit S (lsN (mS S) 0) := (FT_iff rfl (fun _ _ _ => rfl) (fun _ _ _ => Iff.rfl) (fun t i a b c d => Pl_congr (fun s s0 s1 => (lsN_lk s0 s1).symm) ⟨a, b⟩ ⟨c, d⟩)).mp hF
    have h1 := nwL_le (lsN (mS S) 0) 0
    rw [enm_len hmem] at h1
    have h2 : nlL S (lsN (mS S) 0) ≤ 45 := nLn_le _
    have := fold_ex (nl := nlL S) hFit (by omega) (by omega) _ hmem
    intro z
    exact this (List.eq_nil_of_length_eq_zero z)
  · intro hne
    apply Classical.byContradiction
    intro hF
    cases hl : (LNs S).2.2 with
    | nil => rw [hl] at hne; exact hne rfl
    | cons A l =>
      have := (LN_kept S A (by rw [hl]; exact List.mem_cons_self)).2
      exact none_fits hw (A := fun s => 6 + s) (fun _ _ _ => rfl) hF A this
theorem cf_FR {S : dS} (hw : wfS S) {g z : Int} (hz : ∀ t, 0 ≤ t → t < 6 → (tb z t ↔ tb (allV S) t ∧ ¬ tb g t)) : cfT S z ↔ FR S g := by
  refine FT_iff rfl (fun _ _ _ => rfl) (fun t a b => ?_) (fun _ _ _ _ _ _ => rfl)
  have hn := hw.1
  rw [hz t a (by omega)]
  have : tb (allV S) t := (tb_all hn.1 a).mpr b
  exact ⟨fun y => y.2, fun y => ⟨this, y⟩⟩
def f_X6_falses (M : xM) (Post : xR) : Prop := wM M ∧ wfS (SM M) ∧ ∀ v, flR (SM M) v → qM M Post v
abbrev sp_X6_falses : xT := spV0 0 f_X6_falses
set_option maxRecDepth 100000 in
set_option maxHeartbeats 4000000 in
theorem b_X6_falses (as : List xV) (M : xM) (Post : xR) (h : sp_X6_falses as M Post) : as.length ≤ 4 ∧ ∃ (Inv : xG) (μ : Nat → xL → List xV → xM → Nat) (f0 f1 : Nat), xw LM fldX6 (calX6_falses sp_X6_ones sp_X6_canFit) [] 1 Post iX6_falses cutX6_falses Inv f0 0 (xlv as 4) [] M ∧ ∀ pc lv st M', Inv pc lv st M' → xw LM fldX6 (calX6_falses sp_X6_ones sp_X6_canFit) [] 1 Post iX6_falses cutX6_falses (fun pc2 lv2 st2 M2 => Inv pc2 lv2 st2 M2 ∧ μ pc2 lv2 st2 M2 < μ pc lv st M') f1 pc lv st M' := by
  obtain ⟨rfl, h⟩ := h
  refine ⟨by simp, (fun pc lv st N => ∃ (b g : Int), pc = 13 ∧ lv = [some (.inr 0), some (.inl (allV (SM M))), some (.inl b), some (.inl g)] ∧ st = [] ∧ (-1 ≤ g ∧ g ≤ allV (SM M)) ∧ (0 ≤ b ∧ b ≤ allV (SM M)) ∧ FR (SM M) b ∧ fM M N ∧ ∀ x, g < x → x ≤ allV (SM M) → FR (SM M) x → pop b < pop x ∨ pop b = pop x ∧ b ≤ x), (fun pc lv st N => match lv with | [_, _, _, some (.inl g)] => (g + 1).toNat | _ => 0), 400, 400, Eq.mpr (vcX6_falses_0 ..) ?_, ?_⟩
  · obtain ⟨hw, hf, hp⟩ := h
    have hab : 0 ≤ allV (SM M) ∧ allV (SM M) < 64 := all_b hw.1
    rw [allM hw.1]
    exact ⟨allV (SM M), allV (SM M), rfl, rfl, rfl, by omega, by omega, FR_all hf, fM.rf M, fun x _ _ => by omega⟩
  · obtain ⟨hw, hf, hp⟩ := h
    have hab : 0 ≤ allV (SM M) ∧ allV (SM M) < 64 := all_b hw.1
    rintro pc lv st N ⟨b, g, rfl, rfl, rfl, h1, h2, h3, h4, h5⟩
    refine Eq.mpr (vcX6_falses_13 ..) ?_
    have hpb := pop_b b
    have hpg := pop_b g
    have hw' : wM N := by rw [h4.sM.wM_e]; exact hw
    have eS := h4.sM.SM_e
    have no : (FR (SM M) g → pop b < pop g) → ∀ x, g + (-1) < x → x ≤ allV (SM M) → FR (SM M) x → pop b < pop x ∨ pop b = pop x ∧ b ≤ x := fun z x x0 x1 x2 => by
      by_cases hx : x = g
      · subst hx; exact Or.inl (z x2)
      · exact h5 x (by omega) x1 x2
    refine ⟨⟨by omega, by omega⟩, fun q => ?_, fun q => ⟨_, rfl, ⟨by omega, by omega⟩, _, rfl, ⟨by omega, by omega⟩, ⟨by omega, by omega⟩, ⟨by omega, by omega⟩, fun q1 => ⟨⟨b, g + (-1), rfl, rfl, rfl, by omega, h2, h3, h4, no (fun _ => q1)⟩, by (change Int.toNat _ < Int.toNat _); omega⟩, fun q1 => ?_⟩⟩
    · refine hp b ?_ N h4
      by_cases h0 : FR (SM M) 0
      · have hp0 : pop 0 = 0 := by decide +kernel
        have := h5 0 (by omega) (by omega) h0
        exact Or.inl ⟨(FR_LN hf).mp h0, by omega⟩
      · refine Or.inr ⟨Classical.byContradiction (fun z => h0 ((FR_LN hf).mpr z)), ⟨?_, h2.2⟩, h3, fun x x0 x1 x2 => h5 x (by omega) x1 x2⟩
        by_cases hb : b = 0
        · rw [hb] at h3; exact (h0 h3).elim
        · omega
    · have ha := andn_ok (a := allV (SM M)) (b := g) hab (by omega)
      generalize (xi (allV (SM M)) &&& xi (xi g ^^^ xi (-1)).toInt).toInt = z at ha ⊢
      have hcf := cf_FR hf (g := g) (z := z) ha.2
      refine ⟨_, rfl, hw', by rw [eS]; exact hf, ha.1, fun r N2 f2 hr => ?_⟩
      rw [eS, hcf] at hr
      refine ⟨⟨by omega, by omega⟩, fun q2 => ⟨⟨b, g + (-1), rfl, rfl, rfl, by omega, h2, h3, h4.trans f2, no (fun y => ?_)⟩, by (change Int.toNat _ < Int.toNat _); omega⟩, fun q2 => ⟨⟨g, g + (-1), rfl, rfl, rfl, by omega, by omega, ?_, h4.trans f2, fun x x0 x1 x2 => ?_⟩, by (change Int.toNat _ < Int.toNat _); omega⟩⟩
      · exact ((hr.elim (fun y => by omega) (fun y => y.2) : ¬ FR (SM M) g) y).elim
      · exact hr.elim (fun y => y.2) (fun y => (q2 y.1).elim)
      · by_cases hx : x = g
        · subst hx; exact Or.inr ⟨rfl, Int.le_refl _⟩
        · have := h5 x (by omega) x1 x2
          omega
theorem k_X6_falses {l : Launch} {D : va_G} {T : Nat → ClassId} {ad : Nat → Nat} (hO : xOk ad LM) : xMet l D T ad LM yX6_falses cX6_falses 4 (some .int) false 5 sp_X6_falses :=
  xmet (rt := 1) (fld := fldX6) (cals := (calX6_falses sp_X6_ones sp_X6_canFit)) (cst := []) (I := iX6_falses) (cut := cutX6_falses) hO (by decide +kernel) ⟨by decide, by decide, by decide⟩ oX6_falses foX6 (fun _ h => absurd h List.not_mem_nil) (List.forall_mem_cons.mpr ⟨⟨yX6_ones, cX6_ones, 3, (some .int), 0, 1, by decide, yoX6_ones, k_X6_ones hO, loX6_133, Or.inl ⟨rfl, rfl⟩⟩, List.forall_mem_cons.mpr ⟨⟨yX6_canFit, cX6_canFit, 3, (some .boolean), 4, 1, by decide, yoX6_canFit, k_X6_canFit hO, loX6_136, Or.inr ⟨rfl, rfl, 0, 6, [none, some 1, some 2, none, some 3, some 4, some 5, none, some 6, some 7, some 8, some 9, none, none, none, none, some 10, some 11, some 12, none, none], TX6, 21, rfl, rfl, spV1_r⟩⟩, fun _ h => absurd h List.not_mem_nil⟩⟩) b_X6_falses

