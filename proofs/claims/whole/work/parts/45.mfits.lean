/-! the reference: fits -/
theorem SM_c {M N : xM} (h : ∀ c, c < 5 → N c = M c) : SM N = SM M := by
  simp only [SM, h 0 (by decide), h 1 (by decide), h 2 (by decide), h 4 (by decide)]
theorem wM_c {M N : xM} (h : ∀ c, c < 5 → N c = M c) : wM N = wM M := by
  simp only [wM, h 0 (by decide), h 1 (by decide), h 2 (by decide), h 3 (by decide), h 4 (by decide)]
theorem Adj_q {S : dS} {q : Int → Prop} {pl pl' : Int → Int → Int} (h : ∀ t i, 0 ≤ t → t < S.1 → q t → 0 ≤ i → i < S.2.1 t → pl t i = pl' t i) (x y : Int) : Adj S q pl x y ↔ Adj S q pl' x y := by
  constructor
  · rintro ⟨t, ht, hq, i, a, b, c⟩
    refine ⟨t, ht, hq, i, a, b, ?_⟩
    rw [← h t i ht.1 ht.2 hq a (by omega), ← h t (i + 1) ht.1 ht.2 hq (by omega) b]
    exact c
  · rintro ⟨t, ht, hq, i, a, b, c⟩
    refine ⟨t, ht, hq, i, a, b, ?_⟩
    rw [h t i ht.1 ht.2 hq a (by omega), h t (i + 1) ht.1 ht.2 hq (by omega) b]
    exact c
theorem isD_c {R R' : Int → Int → Prop} (h : ∀ x y, R x y ↔ R' x y) {a b d : Int} (hd : isD R a b d) : isD R' a b d := by
  rcases hd with ⟨j, rfl, d1, d2, d3⟩ | ⟨rfl, d1⟩
  · exact Or.inl ⟨j, rfl, d1, (wk_congr h _ _ _).mp d2, fun i hi z => d3 i hi ((wk_congr h _ _ _).mpr z)⟩
  · exact Or.inr ⟨rfl, fun i z => d1 i ((wk_congr h _ _ _).mpr z)⟩
theorem mtL_c {f : Int → Int} {P Q : Int → Int → Prop} (h : ∀ x y, P x y ↔ Q x y) (hm : mtL f P) : mtL f Q := fun a b b0 b1 b2 b3 => ⟨(hm a b b0 b1 b2 b3).1, (hm a b b0 b1 b2 b3).2.trans (h a b)⟩
theorem mtD_c {f : Int → Int} {P Q : Int → Int → Prop} (h : ∀ x y, P x y ↔ Q x y) (hm : mtD f P) : mtD f Q := fun a b b0 b1 b2 b3 => ⟨(hm a b b0 b1 b2 b3).1, isD_c h (hm a b b0 b1 b2 b3).2⟩
/-- the distance between a TRACE's ends says whether it is a shortest way -/
theorem sht_far {S : dS} {q : Int → Prop} {pl : Int → Int → Int} {t : Int} (ht : 0 ≤ t ∧ t < S.1) (hq : q t) (hl : 1 ≤ S.2.1 t) {f : Int → Int} (hm : mtD f (Adj S q pl)) (b0 : 0 ≤ pl t 0 ∧ pl t 0 < 10) (b1 : 0 ≤ pl t (S.2.1 t - 1) ∧ pl t (S.2.1 t - 1) < 10) : S.2.1 t - 1 ≤ f (10 * pl t 0 + pl t (S.2.1 t - 1)) ↔ Sht S q pl t := by
  have hd := (hm _ _ b0.1 b0.2 b1.1 b1.2).2
  have hwk := trWk (pl := pl) ht hq (S.2.1 t - 1).toNat (by omega)
  rw [Int.toNat_of_nonneg (by omega)] at hwk
  by_cases hf : f (10 * pl t 0 + pl t (S.2.1 t - 1)) < 100
  · rw [if_pos hf] at hd
    rcases hd with ⟨k, hk, k9, w1, w2⟩ | ⟨e, no⟩
    · constructor
      · intro z j hj w
        exact w2 j (by omega) w
      · intro hS
        apply Classical.byContradiction
        intro z
        exact hS k (by omega) w1
    · exact (no _ hwk).elim
  · rw [if_neg hf] at hd
    rcases hd with ⟨k, hk, -⟩ | ⟨-, no⟩
    · omega
    · exact (no _ hwk).elim
noncomputable def plO (M : xM) (s : Int) : Int → Int → Int := Pl (SM M) (M 6) (ofM M s)
/-- a SILENT HOP's number among those of the set -/
theorem ofM_b {M : xM} {s t i : Int} (ht : 0 ≤ t ∧ t < M 0 0) (hs : tb s t) (hi : 0 ≤ i ∧ i < M 1 t) (hh : M 2 (t * 6 + i) = -1) : 0 ≤ ofM M s t + cS (M 2) (t * 6) i.toNat ∧ ofM M s t + cS (M 2) (t * 6) i.toNat < bsM M s (M 0 0).toNat := by
  obtain ⟨a, rfl⟩ : ∃ a : Nat, t = a := ⟨t.toNat, by omega⟩
  obtain ⟨j, rfl⟩ : ∃ j : Nat, i = j := ⟨i.toNat, by omega⟩
  unfold ofM
  simp only [Int.toNat_natCast]
  have h1 := bsM_mono (M := M) (s := s) (j := a) (k := a) (Nat.le_refl _)
  have h2 := bsM_mono (M := M) (s := s) (j := a + 1) (k := (M 0 0).toNat) (by omega)
  rw [(bsM_step a).1 hs] at h2
  have c0 := cS_b (M 2) ((a : Int) * 6) j
  have c1 : cS (M 2) ((a : Int) * 6) (j + 1) ≤ cS (M 2) ((a : Int) * 6) (M 1 a).toNat := cS_mono _ _ (by omega)
  simp only [cS, if_pos hh] at c1
  omega
theorem plO_b {M : xM} {s : Int} (hw : wM M) (hc : ∀ j, 0 ≤ j → j < bsM M s (M 0 0).toNat → 0 ≤ M 6 j ∧ M 6 j < 10) {t i : Int} (ht : 0 ≤ t ∧ t < M 0 0) (hs : tb s t) (hi : 0 ≤ i ∧ i < M 1 t) : 0 ≤ plO M s t i ∧ plO M s t i < 10 := by
  have hn := hw.1
  have hl := hw.2.1 t ht.1 (by omega)
  have hh := hw.2.2.1 (t * 6 + i) (by omega) (by omega)
  unfold plO
  by_cases hz : M 2 (t * 6 + i) = -1
  · rw [Pl_sil (S := SM M) hz]
    have := ofM_b ht hs hi hz
    exact hc _ this.1 this.2
  · rw [Pl_nm (S := SM M) hz]
    have : 0 ≤ M 4 (M 2 (t * 6 + i)) ∧ M 4 (M 2 (t * 6 + i)) ≤ M 2 (t * 6 + i) := hw.2.2.2.2.2 (M 2 (t * 6 + i)) (by omega) (by omega)
    show 0 ≤ M 4 (M 2 (t * 6 + i)) ∧ M 4 (M 2 (t * 6 + i)) < 10
    omega
def f_X6_fits (s : Int) (M : xM) (Post : xR) : Prop := wM M ∧ wfS (SM M) ∧ (0 ≤ s ∧ s < 64) ∧ bsM M s (M 0 0).toNat ≤ 4 ∧ (∀ j, 0 ≤ j → j < bsM M s (M 0 0).toNat → 0 ≤ M 6 j ∧ M 6 j < 10) ∧ ∀ (r : Int) (M' : xM), (∀ c, c ≠ 7 → c ≠ 8 → c ≠ 9 → M' c = M c) → (r = 1 ∧ FT (SM M) (tb s) (plO M s) ∧ mtL (M' 8) (Adj (SM M) (tb s) (plO M s)) ∧ mtD (M' 9) (Adj (SM M) (tb s) (plO M s)) ∨ r = 0 ∧ ¬ FT (SM M) (tb s) (plO M s)) → Post r M'
abbrev sp_X6_fits : xT := spV1 0 f_X6_fits
set_option maxRecDepth 100000 in
set_option maxHeartbeats 4000000 in
theorem b_X6_fits (as : List xV) (M : xM) (Post : xR) (h : sp_X6_fits as M Post) : as.length ≤ 5 ∧ ∃ (Inv : xG) (μ : Nat → xL → List xV → xM → Nat) (f0 f1 : Nat), xw LM fldX6 (calX6_fits sp_X6_layPlaces sp_X6_hasOnce sp_X6_layLines) [] 2 Post iX6_fits cutX6_fits Inv f0 0 (xlv as 5) [] M ∧ ∀ pc lv st M', Inv pc lv st M' → xw LM fldX6 (calX6_fits sp_X6_layPlaces sp_X6_hasOnce sp_X6_layLines) [] 2 Post iX6_fits cutX6_fits (fun pc2 lv2 st2 M2 => Inv pc2 lv2 st2 M2 ∧ μ pc2 lv2 st2 M2 < μ pc lv st M') f1 pc lv st M' := by
  obtain ⟨v1, rfl, h⟩ := h
  refine ⟨by simp, (fun pc lv st N => (∃ (t : Int) (o3 o4 : Option xV), pc = 7 ∧ lv = [some (.inr 0), some (.inl v1), some (.inl t), o3, o4] ∧ st = [] ∧ (0 ≤ t ∧ t ≤ M 0 0) ∧ (∀ c, c ≠ 7 → N c = M c) ∧ (∀ u i, 0 ≤ u → u < M 0 0 → tb v1 u → 0 ≤ i → i < M 1 u → N 7 (u * 6 + i) = plO M v1 u i) ∧ ∀ u, 0 ≤ u → u < t → tb v1 u → Dst (SM M) (plO M v1) u) ∨ (∃ (t : Int) (o3 o4 : Option xV), pc = 47 ∧ lv = [some (.inr 0), some (.inl v1), some (.inl t), o3, o4] ∧ st = [] ∧ (0 ≤ t ∧ t ≤ M 0 0) ∧ (∀ c, c ≠ 7 → c ≠ 8 → c ≠ 9 → N c = M c) ∧ (∀ u i, 0 ≤ u → u < M 0 0 → tb v1 u → 0 ≤ i → i < M 1 u → N 7 (u * 6 + i) = plO M v1 u i) ∧ (∀ u, 0 ≤ u → u < M 0 0 → tb v1 u → Dst (SM M) (plO M v1) u) ∧ mtL (N 8) (Adj (SM M) (tb v1) (plO M v1)) ∧ mtD (N 9) (Adj (SM M) (tb v1) (plO M v1)) ∧ ∀ u, 0 ≤ u → u < t → tb v1 u → Sht (SM M) (tb v1) (plO M v1) u)), (fun pc lv st N => match pc, lv with | 7, [_, _, some (.inl t), _, _] => (100 - t).toNat | 47, [_, _, some (.inl t), _, _] => (50 - t).toNat | _, _ => 0), 400, 400, Eq.mpr (vcX6_fits_0 ..) ?_, ?_⟩
  · obtain ⟨hw, hf, hs, h4, hc, hp⟩ := h
    exact ⟨_, rfl, hw, hs, h4, fun M1 g1 g2 => Or.inl ⟨0, none, none, rfl, rfl, rfl, ⟨by omega, hw.1.1⟩, g1, g2, fun u _ _ => by omega⟩⟩
  · obtain ⟨hw, hf, hs, h4, hc, hp⟩ := h
    have hn := hw.1
    have hpb := fun t i => plO_b (t := t) (i := i) hw hc
    rintro pc lv st N (⟨t, o3, o4, rfl, rfl, rfl, a1, a2, a3, a4⟩ | ⟨t, o3, o4, rfl, rfl, rfl, a1, a2, a3, a4, a5, a6, a7⟩)
    · refine Eq.mpr (vcX6_fits_7 ..) ?_
      have e5 : ∀ c, c < 5 → N c = M c := fun c hc5 => a2 c (by omega)
      have eS := SM_c e5
      have hwN : wM N := by rw [wM_c e5]; exact hw
      rw [a2 0 (by decide)]
      have hbit : t < M 0 0 → _ := fun ht => bs_bit (x := v1) (i := t) ⟨by omega, by omega⟩ ⟨by omega, by omega⟩
      generalize (xi (xi v1 >>> (xi t &&& 31)).toInt &&& xi 1).toInt = z at hbit ⊢
      refine ⟨⟨by omega, by omega⟩, ⟨by omega, by omega⟩, fun q => ⟨_, rfl, hwN, hs, fun u i u0 u1 u2 i0 i1 => ?_, fun N2 g1 g2 g3 => ?_⟩, fun q => ?_⟩
      · rw [a2 0 (by decide)] at u1
        rw [a2 1 (by decide)] at i1
        unfold plM
        rw [a3 u i u0 u1 u2 i0 i1]
        exact hpb u i ⟨u0, u1⟩ u2 ⟨i0, i1⟩
      · rw [eS] at g2 g3
        have hA : ∀ x y, Adj (SM M) (tb v1) (plM N) x y ↔ Adj (SM M) (tb v1) (plO M v1) x y := Adj_q (fun u i u0 u1 u2 i0 i1 => a3 u i u0 u1 u2 i0 i1)
        exact ⟨Or.inr ⟨0, o3, o4, rfl, rfl, rfl, by omega, fun c c7 c8 c9 => by rw [g1 c c8 c9]; exact a2 c c7, fun u i u0 u1 u2 i0 i1 => by rw [g1 7 (by decide) (by decide)]; exact a3 u i u0 u1 u2 i0 i1, fun u u0 u1 => a4 u u0 (by omega), mtL_c hA g2, mtD_c hA g3, fun u _ _ => by omega⟩, by (change Int.toNat _ < Int.toNat _); omega⟩
      · have hbit := hbit q
        have skip : ¬ tb v1 t → _ := fun nt => show ∀ u, 0 ≤ u → u < t + 1 → tb v1 u → Dst (SM M) (plO M v1) u from fun u u0 u1 u2 => by
          by_cases hu : u = t
          · subst hu; exact (nt u2).elim
          · exact a4 u u0 (by omega) u2
        refine ⟨⟨by omega, by omega⟩, ⟨by omega, by omega⟩, fun q1 => ⟨Or.inl ⟨t + 1, o3, o4, rfl, rfl, rfl, by omega, a2, a3, skip (hbit.elim (fun y => (q1 y.1).elim) (fun y => y.2))⟩, by (change Int.toNat _ < Int.toNat _); omega⟩, fun q1 => ?_⟩
        have htb : tb v1 t := hbit.elim (fun y => y.2) (fun y => by omega)
        have e1 : N 1 = M 1 := a2 1 (by decide)
        have hon : onM N t ↔ Dst (SM M) (plO M v1) t := by
          unfold onM Dst
          rw [e1]
          constructor
          · intro z i j i0 ij j1
            have j1 : j < M 1 t := j1
            rw [← a3 t i a1.1 q htb i0 (by omega), ← a3 t j a1.1 q htb (by omega) j1]
            exact z i j i0 ij j1
          · intro z i j i0 ij j1
            rw [a3 t i a1.1 q htb i0 (by omega), a3 t j a1.1 q htb (by omega) j1]
            exact z i j i0 ij j1
        refine ⟨_, rfl, hwN, ⟨by omega, by omega⟩, fun i i0 i1 => ?_, fun r hr => ⟨⟨by omega, by omega⟩, fun q2 => ⟨Or.inl ⟨t + 1, o3, o4, rfl, rfl, rfl, by omega, a2, a3, fun u u0 u1 u2 => ?_⟩, by (change Int.toNat _ < Int.toNat _); omega⟩, fun q2 => ⟨by omega, hp 0 N (fun c c7 _ _ => a2 c c7) (Or.inr ⟨rfl, fun hF => ?_⟩)⟩⟩⟩
        · rw [e1] at i1
          rw [a3 t i a1.1 q htb i0 i1]
          exact hpb t i ⟨a1.1, q⟩ htb ⟨i0, i1⟩
        · by_cases hu : u = t
          · subst hu; exact hon.mp (hr.elim (fun y => y.2) (fun y => (q2 y.1).elim))
          · exact a4 u u0 (by omega) u2
        · exact (hr.elim (fun y => by omega) (fun y => y.2) : ¬ onM N t) (hon.mpr (hF.1 t a1.1 q htb))
    · refine Eq.mpr (vcX6_fits_47 ..) ?_
      have hbit : t < M 0 0 → _ := fun ht => bs_bit (x := v1) (i := t) ⟨by omega, by omega⟩ ⟨by omega, by omega⟩
      generalize (xi (xi v1 >>> (xi t &&& 31)).toInt &&& xi 1).toInt = z at hbit ⊢
      rw [a2 0 (by decide) (by decide) (by decide), a2 1 (by decide) (by decide) (by decide)]
      refine ⟨⟨by omega, by omega⟩, ⟨by omega, by omega⟩, fun q => ⟨by omega, hp 1 N a2 (Or.inl ⟨rfl, ⟨a4, fun u u0 u1 => a7 u u0 (by have : u < M 0 0 := u1; omega)⟩, a5, a6⟩)⟩, fun q => ?_⟩
      have hbit := hbit q
      refine ⟨⟨by omega, by omega⟩, ⟨by omega, by omega⟩, fun q1 => ⟨Or.inr ⟨t + 1, o3, o4, rfl, rfl, rfl, by omega, a2, a3, a4, a5, a6, fun u u0 u1 u2 => ?_⟩, by (change Int.toNat _ < Int.toNat _); omega⟩, fun q1 => ?_⟩
      · by_cases hu : u = t
        · subst hu; exact (hbit.elim (fun y => (q1 y.1).elim) (fun y => y.2 u2) : False).elim
        · exact a7 u u0 (by omega) u2
      · have htb : tb v1 t := hbit.elim (fun y => y.2) (fun y => by omega)
        obtain ⟨l1, -⟩ := hf.2.1 t a1.1 q
        have l1 : 2 ≤ M 1 t ∧ M 1 t ≤ 6 := l1
        have p0 := a3 t 0 a1.1 q htb (by omega) (by omega)
        have p1 := a3 t (M 1 t - 1) a1.1 q htb (by omega) (by omega)
        have b0 := hpb t 0 ⟨a1.1, q⟩ htb ⟨by omega, by omega⟩
        have b1 := hpb t (M 1 t - 1) ⟨a1.1, q⟩ htb ⟨by omega, by omega⟩
        rw [show 6 * t + M 1 t - 1 = t * 6 + (M 1 t - 1) by omega, show 6 * t = t * 6 + 0 by omega, p0, p1]
        have hsf := sht_far (S := SM M) (q := tb v1) (pl := plO M v1) (t := t) ⟨a1.1, q⟩ htb (by show 1 ≤ M 1 t; omega) a6 b0 b1
        have hrg := (a6 (plO M v1 t 0) (plO M v1 t (M 1 t - 1)) b0.1 b0.2 b1.1 b1.2).1
        change M 1 t - 1 ≤ N 9 (10 * plO M v1 t 0 + plO M v1 t (M 1 t - 1)) ↔ _ at hsf
        refine ⟨by omega, by omega, by omega, by omega, by omega, ⟨by omega, by omega⟩, ⟨by omega, by omega⟩, fun q2 => ⟨Or.inr ⟨t + 1, _, _, rfl, rfl, rfl, by omega, a2, a3, a4, a5, a6, fun u u0 u1 u2 => ?_⟩, by (change Int.toNat _ < Int.toNat _); omega⟩, fun q2 => ⟨by omega, hp 0 N a2 (Or.inr ⟨rfl, fun hF => ?_⟩)⟩⟩
        · by_cases hu : u = t
          · subst hu; exact hsf.mp q2
          · exact a7 u u0 (by omega) u2
        · have := hsf.mpr (hF.2 t a1.1 q htb)
          omega
theorem k_X6_fits {l : Launch} {D : va_G} {T : Nat → ClassId} {ad : Nat → Nat} (hO : xOk ad LM) : xMet l D T ad LM yX6_fits cX6_fits 5 (some .boolean) false 1 sp_X6_fits :=
  xmet (rt := 2) (fld := fldX6) (cals := (calX6_fits sp_X6_layPlaces sp_X6_hasOnce sp_X6_layLines)) (cst := []) (I := iX6_fits) (cut := cutX6_fits) hO (by decide +kernel) ⟨by decide, by decide, by decide⟩ oX6_fits foX6 (fun _ h => absurd h List.not_mem_nil) (List.forall_mem_cons.mpr ⟨⟨yX6_layPlaces, cX6_layPlaces, 6, none, 0, 1, by decide, yoX6_layPlaces, k_X6_layPlaces hO, loX6_81, Or.inr ⟨rfl, rfl, 0, 6, [none, some 1, some 2, none, some 3, some 4, some 5, none, some 6, some 7, some 8, some 9, none, none, none, none, some 10, some 11, some 12, none, none], TX6, 21, rfl, rfl, spV1_r⟩⟩, List.forall_mem_cons.mpr ⟨⟨yX6_hasOnce, cX6_hasOnce, 5, (some .boolean), 0, 1, by decide, yoX6_hasOnce, k_X6_hasOnce hO, loX6_85, Or.inr ⟨rfl, rfl, 0, 6, [none, some 1, some 2, none, some 3, some 4, some 5, none, some 6, some 7, some 8, some 9, none, none, none, none, some 10, some 11, some 12, none, none], TX6, 21, rfl, rfl, spV1_r⟩⟩, List.forall_mem_cons.mpr ⟨⟨yX6_layLines, cX6_layLines, 6, none, 0, 1, by decide, yoX6_layLines, k_X6_layLines hO, loX6_88, Or.inr ⟨rfl, rfl, 0, 6, [none, some 1, some 2, none, some 3, some 4, some 5, none, some 6, some 7, some 8, some 9, none, none, none, none, some 10, some 11, some 12, none, none], TX6, 21, rfl, rfl, spV1_r⟩⟩, fun _ h => absurd h List.not_mem_nil⟩⟩⟩) b_X6_fits

