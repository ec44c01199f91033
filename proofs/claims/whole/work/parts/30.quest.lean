/-! the other questions; data that agree where it matters -/
noncomputable def lnK (S : dS) (k : Int) : List Int := (LNs S).2.2.getD k.toNat []
def okF (S : dS) (k a b : Int) : Prop := (0 ≤ k ∧ k < (LNs S).2.2.length) ∧ ((0 ≤ a ∧ a < 6) ∧ nmS S a) ∧ ((0 ≤ b ∧ b < 6) ∧ nmS S b)
def farR (S : dS) (k a b v : Int) : Prop := ((LNs S).2.2.length = 0 ∧ v = -6) ∨ ((LNs S).2.2.length ≠ 0 ∧ ¬ okF S k a b ∧ v = -2) ∨ ((LNs S).2.2.length ≠ 0 ∧ okF S k a b ∧ isD (Adj S all0 (plL S (lnK S k))) (S.2.2.2 a) (S.2.2.2 b) v)
def f_X5_far (k a b : Int) (M : xM) (Post : xR) : Prop := rg k ∧ rg a ∧ rg b ∧ IX M ∧ ∀ v, farR (SX M) k a b v → qX M Post v
abbrev sp_X5_far : xT := spV3 0 f_X5_far
set_option maxRecDepth 100000 in
set_option maxHeartbeats 4000000 in
theorem b_X5_far (as : List xV) (M : xM) (Post : xR) (h : sp_X5_far as M Post) : as.length ≤ 4 ∧ xw LX fldX5 (calX5_far sp_X0_many sp_X5_isNet sp_X5_isTraced sp_X0_code sp_X4_box sp_X3_wayIn) [] 1 Post iX5_far cutX5_far (fun _ _ _ _ => False) 400 0 (xlv as 4) [] M := by
  obtain ⟨v1, v2, v3, rfl, h⟩ := h
  refine ⟨by simp, ?_⟩
  refine Eq.mpr (vcX5_far_0 ..) ?_
  obtain ⟨hk, ha, hb, hI, hp⟩ := h
  have h369 := LN_369 (wfS_of hI.1)
  have hm4 := mS_4 (wfS_of hI.1)
  refine many_q hI (fun M1 f1 hI1 h14 hs1 => ⟨⟨by omega, by omega⟩, fun q => ⟨_, rfl, hk, hI1, fun r M2 f2 hI2 h24 hr => ?_⟩, fun q => hp (-6) (Or.inl ⟨by omega, rfl⟩) M1 f1 hI1⟩)
  have f8 : ∀ c, c < 8 → M2 c = M c := fun c hc => by rw [f2 c hc]; exact f1 c hc
  have eS := SX_8 f8
  rw [SX_8 f1] at hr
  have bad : ¬ okF (SX M) v1 v2 v3 → Post (-2) M2 := fun z => hp (-2) (Or.inr (Or.inl ⟨by omega, z, rfl⟩)) M2 f8 hI2
  refine ⟨⟨by omega, by omega⟩, fun q2 => bad (fun z => by have := z.1; omega), fun q2 => ⟨_, rfl, ha, hI2.1.1, fun r3 hr3 => ⟨⟨by omega, by omega⟩, fun q3 => bad (fun z => ?_), fun q3 => ⟨_, rfl, hb, hI2.1.1, fun r4 hr4 => ⟨⟨by omega, by omega⟩, fun q4 => ?_, fun q4 => bad (fun z => ?_)⟩⟩⟩⟩⟩
  · rw [eS] at hr3
    exact hr3.elim (fun y => by omega) (fun y => y.2 z.2.1)
  · rw [eS] at hr3 hr4
    have s3 := hr3.elim (fun y => y.2) (fun y => (q3 y.1).elim)
    have s4 := hr4.elim (fun y => y.2) (fun y => (q4 y.1).elim)
    obtain ⟨kn, rfl⟩ : ∃ kn : Nat, v1 = kn := ⟨v1.toNat, by omega⟩
    have hlt : kn < (LNs (SX M)).2.2.length := by omega
    have hst2 : stO M2 (SX M) (LNs (SX M)) := by
      rcases hI2.2.2.1 with z | ⟨-, z⟩
      · have := h24 h14; omega
      · rw [eS] at z; exact z
    obtain ⟨c1, c2, c3⟩ := hst2.2.2.2 kn _ (List.getElem?_eq_getElem hlt)
    have hAm := List.getElem_mem hlt
    have hFit := (LN_kept (SX M) _ hAm).2
    have elk : lnK (SX M) kn = (LNs (SX M)).2.2[kn] := by
      unfold lnK; rw [Int.toNat_natCast, List.getD_eq_getElem?_getD, List.getElem?_eq_getElem hlt]; rfl
    have hplc : ∀ t i, 0 ≤ t → t < (SX M).1 → 0 ≤ i → i < (SX M).2.1 t → Pl (SX M) (bxc (M2 11 kn)) (offS (SX M)) t i = plL (SX M) (LNs (SX M)).2.2[kn] t i := fun t i a1 a2 a3 a4 => Pl_congr c3 ⟨a1, a2⟩ ⟨a3, a4⟩
    have e5 : M2 5 = M 5 := f8 5 (by decide)
    have b2 := hI.1.2.1.1 v2 s3.1.1 s3.1.2
    have b3 := hI.1.2.1.1 v3 s4.1.1 s4.1.2
    refine ⟨_, rfl, ⟨by omega, by omega⟩, _, rfl, s3.1, _, rfl, s4.1, _, _, _, rfl, hI2.1, c1, c2, ?_, ?_, ?_, fun d M3 g1 hd => ?_⟩
    · rw [eS]; exact (FT_iff rfl (fun _ _ _ => rfl) (fun _ _ _ => Iff.rfl) hplc).mpr hFit
    · rw [e5]; omega
    · rw [e5]; omega
    · have g8 : ∀ c, c < 8 → M3 c = M2 c := fun c hc => g1 c (by omega) (by omega)
      have e10 : M3 10 = M2 10 := g1 10 (by decide) (by decide)
      have e12 : M3 12 = M2 12 := g1 12 (by decide) (by decide)
      have hI3 : IX M3 := IX_8 hI2 g8 (by unfold cF; rw [SX_8 g8, e10, stO_eq e10 (g1 11 (by decide) (by decide))]; exact hI2.2.2.1) (by
        rcases hI2.2.2.2 with z | ⟨z1, z2, z3⟩
        · exact Or.inl (by rw [e12]; exact z)
        · exact Or.inr ⟨by rw [e12]; exact z1, by rw [e10]; exact z2, by rw [SX_8 g8]; exact svO_eq e12 (g1 13 (by decide) (by decide)) (g1 14 (by decide) (by decide)) z3⟩)
      refine hp d (Or.inr (Or.inr ⟨by omega, ⟨by omega, s3, s4⟩, ?_⟩)) M3 (fun c hc => by rw [g8 c hc]; exact f8 c hc) hI3
      rw [eS, e5] at hd
      rw [elk]
      have hAd := Adj_iff (S := SX M) (S' := SX M) (q := all0) (q' := all0) rfl (fun _ _ _ => rfl) (fun _ _ _ => Iff.rfl) hplc
      rcases hd with ⟨j, rfl, d1, d2, d3⟩ | ⟨rfl, d1⟩
      · exact Or.inl ⟨j, rfl, d1, (wk_congr hAd _ _ _).mp d2, fun i hi z => d3 i hi ((wk_congr hAd _ _ _).mpr z)⟩
      · exact Or.inr ⟨rfl, fun i z => d1 i ((wk_congr hAd _ _ _).mpr z)⟩
  · rw [eS] at hr4
    exact hr4.elim (fun y => by omega) (fun y => y.2 z.2.2)
theorem k_X5_far {l : Launch} {D : va_G} {T : Nat → ClassId} {ad : Nat → Nat} (hO : xOk ad LX) : xMet l D T ad LX yX5_far cX5_far 4 (some .int) false 12 sp_X5_far :=
  xmet0 (rt := 1) (fld := fldX5) (cals := (calX5_far sp_X0_many sp_X5_isNet sp_X5_isTraced sp_X0_code sp_X4_box sp_X3_wayIn)) (cst := []) (I := iX5_far) (cut := cutX5_far) hO (by decide +kernel) ⟨by decide, by decide, by decide⟩ oX5_far foX5 (fun _ h => absurd h List.not_mem_nil) (List.forall_mem_cons.mpr ⟨⟨yX0_many, cX0_many, 1, (some .int), 10, 0, by decide, yoX0_many, k_X0_many hO, loX5_111, Or.inr ⟨rfl, rfl, 10, 0, [some 1, some 4, some 7, some 11, none, none, none, none, none, none], TX0, 10, rfl, rfl, spV0_r⟩⟩, List.forall_mem_cons.mpr ⟨⟨yX5_isNet, cX5_isNet, 2, (some .boolean), 11, 1, by decide, yoX5_isNet, k_X5_isNet hO, loX5_123, Or.inr ⟨rfl, rfl, 0, 5, [some 1, some 4, some 10, some 12], TX5, 4, rfl, rfl, spV1_r⟩⟩, List.forall_mem_cons.mpr ⟨⟨yX5_isTraced, cX5_isTraced, 2, (some .boolean), 2, 1, by decide, yoX5_isTraced, k_X5_isTraced hO, loX5_132, Or.inr ⟨rfl, rfl, 0, 5, [some 1, some 4, some 10, some 12], TX5, 4, rfl, rfl, spV1_r⟩⟩, List.forall_mem_cons.mpr ⟨⟨yX0_code, cX0_code, 2, (some .int), 0, 1, by decide, yoX0_code, k_X0_code hO, loX5_126, Or.inr ⟨rfl, rfl, 10, 0, [some 1, some 4, some 7, some 11, none, none, none, none, none, none], TX0, 10, rfl, rfl, spV1_r⟩⟩, List.forall_mem_cons.mpr ⟨⟨yX4_box, cX4_box, 2, (some .int), 0, 1, by decide, yoX4_box, k_X4_box hO, loX5_135, Or.inr ⟨rfl, rfl, 4, 4, [some 5, some 6, none], TX4, 3, rfl, rfl, spV1_r⟩⟩, List.forall_mem_cons.mpr ⟨⟨yX3_wayIn, cX3_wayIn, 4, (some .int), 5, 3, by decide, yoX3_wayIn, k_X3_wayIn hO, loX5_138, Or.inr ⟨rfl, rfl, 12, 3, [some 1, some 4, some 7, some 10, some 13, some 14, some 15, none, none, none], TX3, 10, rfl, rfl, spV3_r⟩⟩, fun _ h => absurd h List.not_mem_nil⟩⟩⟩⟩⟩⟩) b_X5_far
def okS (S : dS) (a b : Int) : Prop := ((0 ≤ a ∧ a < 6) ∧ nmS S a) ∧ ((0 ≤ b ∧ b < 6) ∧ nmS S b)
def evL (S : dS) (a b : Int) : Prop := ∃ A ∈ (LNs S).2.2, Adj S all0 (plL S A) (S.2.2.2 a) (S.2.2.2 b)
def alL (S : dS) (a b : Int) : Prop := ∀ A ∈ (LNs S).2.2, Adj S all0 (plL S A) (S.2.2.2 a) (S.2.2.2 b)
def surR (S : dS) (a b v : Int) : Prop := ((LNs S).2.2.length = 0 ∧ v = -6) ∨ ((LNs S).2.2.length ≠ 0 ∧ ¬ okS S a b ∧ v = -2) ∨ ((LNs S).2.2.length ≠ 0 ∧ okS S a b ∧ (¬ evL S a b → v = 0) ∧ (evL S a b → ¬ alL S a b → v = 1) ∧ (evL S a b → alL S a b → v = 2) ∧ (v = 0 ∨ v = 1 ∨ v = 2))
def f_X5_sure (a b : Int) (M : xM) (Post : xR) : Prop := rg a ∧ rg b ∧ IX M ∧ ∀ v, surR (SX M) a b v → qX M Post v
abbrev sp_X5_sure : xT := spV2 0 f_X5_sure
set_option maxRecDepth 100000 in
set_option maxHeartbeats 4000000 in
theorem b_X5_sure (as : List xV) (M : xM) (Post : xR) (h : sp_X5_sure as M Post) : as.length ≤ 3 ∧ xw LX fldX5 (calX5_sure sp_X0_many sp_X5_isTraced sp_X3_make sp_X4_box sp_X3_lineBetween) [] 1 Post iX5_sure cutX5_sure (fun _ _ _ _ => False) 400 0 (xlv as 3) [] M := by
  obtain ⟨v1, v2, rfl, h⟩ := h
  refine ⟨by simp, ?_⟩
  refine Eq.mpr (vcX5_sure_0 ..) ?_
  obtain ⟨ha, hb, hI, hp⟩ := h
  have h369 := LN_369 (wfS_of hI.1)
  refine many_q hI (fun M1 f1 hI1 h14 hs1 => ⟨⟨by omega, by omega⟩, fun q => ?_, fun q => hp (-6) (Or.inl ⟨by omega, rfl⟩) M1 f1 hI1⟩)
  have eS1 := SX_8 f1
  have bad : ¬ okS (SX M) v1 v2 → Post (-2) M1 := fun z => hp (-2) (Or.inr (Or.inl ⟨by omega, z, rfl⟩)) M1 f1 hI1
  refine ⟨_, rfl, ha, hI1.1.1, fun r3 hr3 => ⟨⟨by omega, by omega⟩, fun q3 => bad (fun z => ?_), fun q3 => ⟨_, rfl, hb, hI1.1.1, fun r4 hr4 => ⟨⟨by omega, by omega⟩, fun q4 => ?_, fun q4 => bad (fun z => ?_)⟩⟩⟩⟩
  · rw [eS1] at hr3
    exact hr3.elim (fun y => by omega) (fun y => y.2 z.1)
  · rw [eS1] at hr3 hr4
    have s3 := hr3.elim (fun y => y.2) (fun y => (q3 y.1).elim)
    have s4 := hr4.elim (fun y => y.2) (fun y => (q4 y.1).elim)
    refine make_q hI1 (fun M2 f2 hI2 hv => ?_)
    rw [eS1] at hv
    have f8 : ∀ c, c < 8 → M2 c = M c := fun c hc => by rw [f2 c hc]; exact f1 c hc
    have e5 : M2 5 = M 5 := f8 5 (by decide)
    have b2 := hI.1.2.1.1 v1 s3.1.1 s3.1.2
    have b3 := hI.1.2.1.1 v2 s4.1.1 s4.1.2
    refine ⟨_, rfl, s3.1, _, rfl, s4.1, _, _, rfl, ?_⟩
    rw [e5]
    have hbt := hv.2.1 (M 5 v1) (M 5 v2) (by omega) (by omega) (by omega) (by omega)
    have hV := hv.1 (M 5 v1) (by omega) (by omega)
    refine ⟨⟨by omega, by omega⟩, ⟨by omega, by omega⟩, hV.1, hV.2, fun r c1 c2 c3 => hp r (Or.inr (Or.inr ⟨by omega, ⟨s3, s4⟩, fun z => c1 (fun y => z (hbt.1.mp y)), fun z1 z2 => c2 (hbt.1.mpr z1) (fun y => z2 (hbt.2.mp y)), fun z1 z2 => c3 (hbt.1.mpr z1) (hbt.2.mpr z2), ?_⟩)) M2 f8 hI2⟩
    by_cases y1 : tb (M2 13 (M 5 v1)) (M 5 v2)
    · by_cases y2 : tb (M2 14 (M 5 v1)) (M 5 v2)
      · exact Or.inr (Or.inr (c3 y1 y2))
      · exact Or.inr (Or.inl (c2 y1 y2))
    · exact Or.inl (c1 y1)
  · rw [eS1] at hr4
    exact hr4.elim (fun y => by omega) (fun y => y.2 z.2)
theorem k_X5_sure {l : Launch} {D : va_G} {T : Nat → ClassId} {ad : Nat → Nat} (hO : xOk ad LX) : xMet l D T ad LX yX5_sure cX5_sure 3 (some .int) false 12 sp_X5_sure :=
  xmet0 (rt := 1) (fld := fldX5) (cals := (calX5_sure sp_X0_many sp_X5_isTraced sp_X3_make sp_X4_box sp_X3_lineBetween)) (cst := []) (I := iX5_sure) (cut := cutX5_sure) hO (by decide +kernel) ⟨by decide, by decide, by decide⟩ oX5_sure foX5 (fun _ h => absurd h List.not_mem_nil) (List.forall_mem_cons.mpr ⟨⟨yX0_many, cX0_many, 1, (some .int), 10, 0, by decide, yoX0_many, k_X0_many hO, loX5_111, Or.inr ⟨rfl, rfl, 10, 0, [some 1, some 4, some 7, some 11, none, none, none, none, none, none], TX0, 10, rfl, rfl, spV0_r⟩⟩, List.forall_mem_cons.mpr ⟨⟨yX5_isTraced, cX5_isTraced, 2, (some .boolean), 2, 1, by decide, yoX5_isTraced, k_X5_isTraced hO, loX5_132, Or.inr ⟨rfl, rfl, 0, 5, [some 1, some 4, some 10, some 12], TX5, 4, rfl, rfl, spV1_r⟩⟩, List.forall_mem_cons.mpr ⟨⟨yX3_make, cX3_make, 4, none, 11, 0, by decide, yoX3_make, k_X3_make hO, loX5_142, Or.inr ⟨rfl, rfl, 12, 3, [some 1, some 4, some 7, some 10, some 13, some 14, some 15, none, none, none], TX3, 10, rfl, rfl, spV0_r⟩⟩, List.forall_mem_cons.mpr ⟨⟨yX4_box, cX4_box, 2, (some .int), 0, 1, by decide, yoX4_box, k_X4_box hO, loX5_135, Or.inr ⟨rfl, rfl, 4, 4, [some 5, some 6, none], TX4, 3, rfl, rfl, spV1_r⟩⟩, List.forall_mem_cons.mpr ⟨⟨yX3_lineBetween, cX3_lineBetween, 3, (some .int), 1, 2, by decide, yoX3_lineBetween, k_X3_lineBetween hO, loX5_145, Or.inr ⟨rfl, rfl, 12, 3, [some 1, some 4, some 7, some 10, some 13, some 14, some 15, none, none, none], TX3, 10, rfl, rfl, spV2_r⟩⟩, fun _ h => absurd h List.not_mem_nil⟩⟩⟩⟩⟩) b_X5_sure
def nxA (s : bSt) : Int := match s with
  | none => -6
  | some (a, b, _) => 10 * a + b
def woA (s : bSt) : Int := match s with
  | none => -6
  | some (_, _, h) => h
noncomputable def nxV (S : dS) : Int := if (LNs S).2.2.length = 0 then -6 else nxA (NXT S)
noncomputable def woV (S : dS) : Int := if (LNs S).2.2.length = 0 then -6 else woA (NXT S)
theorem cbO_1 {M : xM} {s : bSt} (h : cbO M s) : M 12 8 = nxA s ∧ M 12 9 = woA s := by
  cases s with
  | none => exact h
  | some q => obtain ⟨a, b, c⟩ := q; exact ⟨h.1, h.2.1⟩
def f_X5_next (M : xM) (Post : xR) : Prop := IX M ∧ qX M Post (nxV (SX M))
abbrev sp_X5_next : xT := spV0 0 f_X5_next
set_option maxRecDepth 100000 in
set_option maxHeartbeats 4000000 in
theorem b_X5_next (as : List xV) (M : xM) (Post : xR) (h : sp_X5_next as M Post) : as.length ≤ 1 ∧ xw LX fldX5 (calX5_next sp_X0_many sp_X3_make sp_X3_bestPair) [] 1 Post iX5_next cutX5_next (fun _ _ _ _ => False) 400 0 (xlv as 1) [] M := by
  obtain ⟨rfl, h⟩ := h
  refine ⟨by simp, ?_⟩
  refine Eq.mpr (vcX5_next_0 ..) ?_
  obtain ⟨hI, hp⟩ := h
  have h369 := LN_369 (wfS_of hI.1)
  refine many_q hI (fun M1 f1 hI1 _ _ => ⟨⟨by omega, by omega⟩, fun q => make_q hI1 (fun M2 f2 hI2 hv => ⟨rfl, ?_⟩), fun q => ?_⟩)
  · rw [SX_8 f1] at hv
    have := hp M2 (fun c hc => by rw [f2 c hc]; exact f1 c hc) hI2
    unfold nxV at this
    rw [if_neg (by omega), ← (cbO_1 hv.2.2).1] at this
    exact this
  · have := hp M1 f1 hI1
    unfold nxV at this
    rw [if_pos (by omega)] at this
    exact this
theorem k_X5_next {l : Launch} {D : va_G} {T : Nat → ClassId} {ad : Nat → Nat} (hO : xOk ad LX) : xMet l D T ad LX yX5_next cX5_next 1 (some .int) false 12 sp_X5_next :=
  xmet0 (rt := 1) (fld := fldX5) (cals := (calX5_next sp_X0_many sp_X3_make sp_X3_bestPair)) (cst := []) (I := iX5_next) (cut := cutX5_next) hO (by decide +kernel) ⟨by decide, by decide, by decide⟩ oX5_next foX5 (fun _ h => absurd h List.not_mem_nil) (List.forall_mem_cons.mpr ⟨⟨yX0_many, cX0_many, 1, (some .int), 10, 0, by decide, yoX0_many, k_X0_many hO, loX5_111, Or.inr ⟨rfl, rfl, 10, 0, [some 1, some 4, some 7, some 11, none, none, none, none, none, none], TX0, 10, rfl, rfl, spV0_r⟩⟩, List.forall_mem_cons.mpr ⟨⟨yX3_make, cX3_make, 4, none, 11, 0, by decide, yoX3_make, k_X3_make hO, loX5_142, Or.inr ⟨rfl, rfl, 12, 3, [some 1, some 4, some 7, some 10, some 13, some 14, some 15, none, none, none], TX3, 10, rfl, rfl, spV0_r⟩⟩, List.forall_mem_cons.mpr ⟨⟨yX3_bestPair, cX3_bestPair, 1, (some .int), 0, 0, by decide, yoX3_bestPair, k_X3_bestPair hO, loX5_159, Or.inr ⟨rfl, rfl, 12, 3, [some 1, some 4, some 7, some 10, some 13, some 14, some 15, none, none, none], TX3, 10, rfl, rfl, spV0_r⟩⟩, fun _ h => absurd h List.not_mem_nil⟩⟩⟩) b_X5_next
def f_X5_worst (M : xM) (Post : xR) : Prop := IX M ∧ qX M Post (woV (SX M))
abbrev sp_X5_worst : xT := spV0 0 f_X5_worst
set_option maxRecDepth 100000 in
set_option maxHeartbeats 4000000 in
theorem b_X5_worst (as : List xV) (M : xM) (Post : xR) (h : sp_X5_worst as M Post) : as.length ≤ 1 ∧ xw LX fldX5 (calX5_worst sp_X0_many sp_X3_make sp_X3_bestHeap) [] 1 Post iX5_worst cutX5_worst (fun _ _ _ _ => False) 400 0 (xlv as 1) [] M := by
  obtain ⟨rfl, h⟩ := h
  refine ⟨by simp, ?_⟩
  refine Eq.mpr (vcX5_worst_0 ..) ?_
  obtain ⟨hI, hp⟩ := h
  have h369 := LN_369 (wfS_of hI.1)
  refine many_q hI (fun M1 f1 hI1 _ _ => ⟨⟨by omega, by omega⟩, fun q => make_q hI1 (fun M2 f2 hI2 hv => ⟨rfl, ?_⟩), fun q => ?_⟩)
  · rw [SX_8 f1] at hv
    have := hp M2 (fun c hc => by rw [f2 c hc]; exact f1 c hc) hI2
    unfold woV at this
    rw [if_neg (by omega), ← (cbO_1 hv.2.2).2] at this
    exact this
  · have := hp M1 f1 hI1
    unfold woV at this
    rw [if_pos (by omega)] at this
    exact this
theorem k_X5_worst {l : Launch} {D : va_G} {T : Nat → ClassId} {ad : Nat → Nat} (hO : xOk ad LX) : xMet l D T ad LX yX5_worst cX5_worst 1 (some .int) false 12 sp_X5_worst :=
  xmet0 (rt := 1) (fld := fldX5) (cals := (calX5_worst sp_X0_many sp_X3_make sp_X3_bestHeap)) (cst := []) (I := iX5_worst) (cut := cutX5_worst) hO (by decide +kernel) ⟨by decide, by decide, by decide⟩ oX5_worst foX5 (fun _ h => absurd h List.not_mem_nil) (List.forall_mem_cons.mpr ⟨⟨yX0_many, cX0_many, 1, (some .int), 10, 0, by decide, yoX0_many, k_X0_many hO, loX5_111, Or.inr ⟨rfl, rfl, 10, 0, [some 1, some 4, some 7, some 11, none, none, none, none, none, none], TX0, 10, rfl, rfl, spV0_r⟩⟩, List.forall_mem_cons.mpr ⟨⟨yX3_make, cX3_make, 4, none, 11, 0, by decide, yoX3_make, k_X3_make hO, loX5_142, Or.inr ⟨rfl, rfl, 12, 3, [some 1, some 4, some 7, some 10, some 13, some 14, some 15, none, none, none], TX3, 10, rfl, rfl, spV0_r⟩⟩, List.forall_mem_cons.mpr ⟨⟨yX3_bestHeap, cX3_bestHeap, 1, (some .int), 0, 0, by decide, yoX3_bestHeap, k_X3_bestHeap hO, loX5_162, Or.inr ⟨rfl, rfl, 12, 3, [some 1, some 4, some 7, some 10, some 13, some 14, some 15, none, none, none], TX3, 10, rfl, rfl, spV0_r⟩⟩, fun _ h => absurd h List.not_mem_nil⟩⟩⟩) b_X5_worst
noncomputable def ctA (S : dS) (hs w : Int) : Int := if w = 0 then S.1 else if w = 1 then (mS S : Int) else if w = 2 then (nnm S : Int) else if w = 3 then hs else if w = 4 then (nbx S : Int) else -2
def f_X5_count (w : Int) (M : xM) (Post : xR) : Prop := rg w ∧ IX M ∧ Post (ctA (SX M) (M 3 6) w) M
abbrev sp_X5_count : xT := spV1 0 f_X5_count
set_option maxRecDepth 100000 in
set_option maxHeartbeats 4000000 in
theorem b_X5_count (as : List xV) (M : xM) (Post : xR) (h : sp_X5_count as M Post) : as.length ≤ 2 ∧ xw LX fldX5 (calX5_count sp_X2_traces sp_X2_silents sp_X2_names sp_J6_bitCount_0f7a4 sp_X2_length sp_X5_boxesOfNames) [] 1 Post iX5_count cutX5_count (fun _ _ _ _ => False) 400 0 (xlv as 2) [] M := by
  obtain ⟨v1, rfl, h⟩ := h
  refine ⟨by simp, ?_⟩
  refine Eq.mpr (vcX5_count_0 ..) ?_
  obtain ⟨h1, hI, hp⟩ := h
  unfold ctA at hp
  refine ⟨h1, fun q => ?_, fun q => ?_, fun q => ⟨rfl, ?_⟩, fun q => ⟨rfl, hI.1.1, ?_⟩, fun q => ⟨rfl, hI.1.1, fun x x0 x1 hx => ⟨_, rfl, ⟨by omega, by omega⟩, ?_⟩⟩, fun q => ⟨_, rfl, ⟨by omega, by omega⟩, ?_⟩, fun q => ⟨rfl, hI.1, ?_⟩, trivial⟩
  · rw [if_neg (by omega), if_neg (by omega), if_neg (by omega), if_neg (by omega), if_neg (by omega)] at hp; exact hp
  · rw [if_neg (by omega), if_neg (by omega), if_neg (by omega), if_neg (by omega), if_neg (by omega)] at hp; exact hp
  · rw [if_pos q] at hp; exact hp
  · rw [if_neg (by omega), if_pos (by omega), mS_c] at hp; exact hp
  · rw [if_neg (by omega), if_neg (by omega), if_pos (by omega)] at hp
    rw [pop_6 ⟨x0, x1⟩ (P := nmS (SX M)) hx]
    exact hp
  · rw [if_neg (by omega), if_neg (by omega), if_neg (by omega), if_pos (by omega)] at hp; exact hp
  · rw [if_neg (by omega), if_neg (by omega), if_neg (by omega), if_neg (by omega), if_pos (by omega)] at hp; exact hp
theorem k_X5_count {l : Launch} {D : va_G} {T : Nat → ClassId} {ad : Nat → Nat} (hO : xOk ad LX) : xMet l D T ad LX yX5_count cX5_count 2 (some .int) false 3 sp_X5_count :=
  xmet0 (rt := 1) (fld := fldX5) (cals := (calX5_count sp_X2_traces sp_X2_silents sp_X2_names sp_J6_bitCount_0f7a4 sp_X2_length sp_X5_boxesOfNames)) (cst := []) (I := iX5_count) (cut := cutX5_count) hO (by decide +kernel) ⟨by decide, by decide, by decide⟩ oX5_count foX5 (fun _ h => absurd h List.not_mem_nil) (List.forall_mem_cons.mpr ⟨⟨yX2_traces, cX2_traces, 1, (some .int), 0, 0, by decide, yoX2_traces, k_X2_traces hO, loX5_73, Or.inr ⟨rfl, rfl, 1, 2, [some 2, some 3, none], TX2, 3, rfl, rfl, spV0_r⟩⟩, List.forall_mem_cons.mpr ⟨⟨yX2_silents, cX2_silents, 3, (some .int), 2, 0, by decide, yoX2_silents, k_X2_silents hO, loX5_58, Or.inr ⟨rfl, rfl, 1, 2, [some 2, some 3, none], TX2, 3, rfl, rfl, spV0_r⟩⟩, List.forall_mem_cons.mpr ⟨⟨yX2_names, cX2_names, 5, (some .int), 1, 0, by decide, yoX2_names, k_X2_names hO, loX5_165, Or.inr ⟨rfl, rfl, 1, 2, [some 2, some 3, none], TX2, 3, rfl, rfl, spV0_r⟩⟩, List.forall_mem_cons.mpr ⟨⟨yJ6_bitCount_0f7a4, cJ6_bitCount_0f7a4, 1, (some .int), 0, 1, by decide, yoJ6_bitCount_0f7a4, k_J6_bitCount_0f7a4 hO, loX5_151, Or.inl ⟨rfl, rfl⟩⟩, List.forall_mem_cons.mpr ⟨⟨yX2_length, cX2_length, 2, (some .int), 0, 1, by decide, yoX2_length, k_X2_length hO, loX5_54, Or.inr ⟨rfl, rfl, 1, 2, [some 2, some 3, none], TX2, 3, rfl, rfl, spV1_r⟩⟩, List.forall_mem_cons.mpr ⟨⟨yX5_boxesOfNames, cX5_boxesOfNames, 1, (some .int), 2, 0, by decide, yoX5_boxesOfNames, k_X5_boxesOfNames hO, loX5_114, Or.inr ⟨rfl, rfl, 0, 5, [some 1, some 4, some 10, some 12], TX5, 4, rfl, rfl, spV0_r⟩⟩, fun _ h => absurd h List.not_mem_nil⟩⟩⟩⟩⟩⟩) b_X5_count
def atA (S : dS) (t i : Int) : Int := if (0 ≤ t ∧ t < S.1) ∧ 0 ≤ i ∧ i < S.2.1 t then S.2.2.1 (t * 6 + i) else -2
def f_X5_at (t i : Int) (M : xM) (Post : xR) : Prop := rg t ∧ rg i ∧ IX M ∧ Post (atA (SX M) t i) M
abbrev sp_X5_at : xT := spV2 0 f_X5_at
set_option maxRecDepth 100000 in
set_option maxHeartbeats 4000000 in
theorem b_X5_at (as : List xV) (M : xM) (Post : xR) (h : sp_X5_at as M Post) : as.length ≤ 3 ∧ xw LX fldX5 (calX5_at sp_X5_isTrace sp_X2_length sp_X2_hopAt) [] 1 Post iX5_at cutX5_at (fun _ _ _ _ => False) 400 0 (xlv as 3) [] M := by
  obtain ⟨v1, v2, rfl, h⟩ := h
  refine ⟨by simp, ?_⟩
  refine Eq.mpr (vcX5_at_0 ..) ?_
  obtain ⟨h1, h2, hI, hp⟩ := h
  have hn := hI.1.1.1
  have hp2 : ∀ v, atA (SX M) v1 v2 = v → Post v M := fun v e => by rw [← e]; exact hp
  refine ⟨_, rfl, h1, hn, fun r hr => ⟨⟨by omega, by omega⟩, fun q => hp2 _ ?_, fun q => ⟨h2, fun q1 => hp2 _ ?_, fun q1 => ⟨_, rfl, ⟨by omega, by omega⟩, h2, ?_, fun q2 => ⟨_, _, rfl, ⟨by omega, by omega⟩, ?_, hp2 _ ?_⟩, fun q2 => hp2 _ ?_⟩⟩⟩⟩
  · unfold atA; rw [if_neg (fun z => by have : v1 < M 1 2 := z.1.2; omega)]
  · unfold atA; rw [if_neg (fun z => by omega)]
  · have := hI.1.1.2.1 v1 (by omega) (by omega); exact ⟨by omega, by omega⟩
  · have := hI.1.1.2.1 v1 (by omega) (by omega); omega
  · unfold atA; rw [if_pos ⟨⟨by omega, show v1 < M 1 2 by omega⟩, q1, q2⟩]; rfl
  · unfold atA; rw [if_neg (fun z => by have : v2 < M 3 v1 := z.2.2; omega)]
theorem k_X5_at {l : Launch} {D : va_G} {T : Nat → ClassId} {ad : Nat → Nat} (hO : xOk ad LX) : xMet l D T ad LX yX5_at cX5_at 3 (some .int) false 2 sp_X5_at :=
  xmet0 (rt := 1) (fld := fldX5) (cals := (calX5_at sp_X5_isTrace sp_X2_length sp_X2_hopAt)) (cst := []) (I := iX5_at) (cut := cutX5_at) hO (by decide +kernel) ⟨by decide, by decide, by decide⟩ oX5_at foX5 (fun _ h => absurd h List.not_mem_nil) (List.forall_mem_cons.mpr ⟨⟨yX5_isTrace, cX5_isTrace, 2, (some .boolean), 1, 1, by decide, yoX5_isTrace, k_X5_isTrace hO, loX5_86, Or.inr ⟨rfl, rfl, 0, 5, [some 1, some 4, some 10, some 12], TX5, 4, rfl, rfl, spV1_r⟩⟩, List.forall_mem_cons.mpr ⟨⟨yX2_length, cX2_length, 2, (some .int), 0, 1, by decide, yoX2_length, k_X2_length hO, loX5_54, Or.inr ⟨rfl, rfl, 1, 2, [some 2, some 3, none], TX2, 3, rfl, rfl, spV1_r⟩⟩, List.forall_mem_cons.mpr ⟨⟨yX2_hopAt, cX2_hopAt, 4, (some .int), 0, 2, by decide, yoX2_hopAt, k_X2_hopAt hO, loX5_76, Or.inr ⟨rfl, rfl, 1, 2, [some 2, some 3, none], TX2, 3, rfl, rfl, spV2_r⟩⟩, fun _ h => absurd h List.not_mem_nil⟩⟩⟩) b_X5_at

