/-! NetShape: the class's invariant, its helpers, its questions -/
def cF (M : xM) : Prop := M 10 4 = 0 ∨ M 10 4 = 1 ∧ stO M (SX M) (LNs (SX M))
def cV (M : xM) : Prop := M 12 7 = 0 ∨ M 12 7 = 1 ∧ M 10 4 = 1 ∧ svO M (SX M)
def hdX (M : xM) : Prop := sS (M 2) (M 3) (M 1 2).toNat + cS (M 2) 36 (M 3 6).toNat ≤ 4
def IX (M : xM) : Prop := wS M ∧ hdX M ∧ cF M ∧ cV M
theorem SX_8 {M N : xM} (h : ∀ c, c < 8 → N c = M c) : SX N = SX M := SX_eq (h 1 (by decide)) (h 2 (by decide)) (h 3 (by decide)) (h 5 (by decide))
theorem IX_8 {M N : xM} (hI : IX M) (h : ∀ c, c < 8 → N c = M c) (h1 : cF N) (h2 : cV N) : IX N := by
  refine ⟨?_, ?_, h1, h2⟩
  · rw [wS_eq (h 1 (by decide)) (h 2 (by decide)) (h 3 (by decide)) (h 5 (by decide)) (h 6 (by decide))]; exact hI.1
  · unfold hdX; rw [h 1 (by decide), h 2 (by decide), h 3 (by decide)]; exact hI.2.1
theorem svO_eq {M N : xM} {S : dS} (h12 : N 12 = M 12) (h13 : N 13 = M 13) (h14 : N 14 = M 14) (h : svO M S) : svO N S := by
  obtain ⟨a, b, c⟩ := h
  refine ⟨?_, ?_, ?_⟩
  · unfold wV; rw [h13, h14]; exact a
  · rw [h13, h14]; exact b
  · revert c
    unfold cbO
    split <;> rw [h12] <;> exact id
/-- LeastNets.many, of an object as it stands -/
theorem many_q {M : xM} {Post : xR} (hI : IX M) (hp : ∀ M' : xM, (∀ c, c < 8 → M' c = M c) → IX M' → M' 10 4 = 1 → stO M' (SX M) (LNs (SX M)) → Post ((LNs (SX M)).2.2.length : Nat) M') : sp_X0_many [.inr 10] M Post := by
  refine ⟨rfl, hI.1, hI.2.2.1, fun M' f h4 hs => ?_⟩
  have f8 : ∀ c, c < 8 → M' c = M c := fun c hc => f c (by omega) (by omega) (by omega) (by omega)
  have eS := SX_8 f8
  refine hp M' f8 (IX_8 hI f8 (Or.inr ⟨h4, by rw [eS]; exact hs⟩) ?_) h4 hs
  have e12 : M' 12 = M 12 := f 12 (by decide) (by decide) (by decide) (by decide)
  rcases hI.2.2.2 with h | ⟨h, h', h''⟩
  · exact Or.inl (by rw [e12]; exact h)
  · exact Or.inr ⟨by rw [e12]; exact h, h4, by rw [eS]; exact svO_eq e12 (f 13 (by decide) (by decide) (by decide) (by decide)) (f 14 (by decide) (by decide) (by decide) (by decide)) h''⟩
theorem make_q {M : xM} {Post : xR} (hI : IX M) (hp : ∀ M' : xM, (∀ c, c < 8 → M' c = M c) → IX M' → svO M' (SX M) → Post 0 M') : sp_X3_make [.inr 12] M Post := by
  refine ⟨rfl, hI.1, hI.2.2.1, hI.2.2.2, fun M' f8 h4 hs h7 hv => ?_⟩
  have eS := SX_8 f8
  exact hp M' f8 (IX_8 hI f8 (Or.inr ⟨h4, by rw [eS]; exact hs⟩) (Or.inr ⟨h7, h4, by rw [eS]; exact hv⟩)) hv
def f_X5_forgetAnswers (M : xM) (Post : xR) : Prop := Post 0 (xup (xup M 10 4 0) 12 7 0)
abbrev sp_X5_forgetAnswers : xT := spV0 0 f_X5_forgetAnswers
set_option maxRecDepth 100000 in
set_option maxHeartbeats 4000000 in
theorem b_X5_forgetAnswers (as : List xV) (M : xM) (Post : xR) (h : sp_X5_forgetAnswers as M Post) : as.length ≤ 1 ∧ xw LX fldX5 (calX5_forgetAnswers sp_X0_forgetFound sp_X3_forgetMade) [] 0 Post iX5_forgetAnswers cutX5_forgetAnswers (fun _ _ _ _ => False) 400 0 (xlv as 1) [] M := by
  obtain ⟨rfl, h⟩ := h
  refine ⟨by simp, ?_⟩
  refine Eq.mpr (vcX5_forgetAnswers_0 ..) ?_
  exact ⟨rfl, rfl, h⟩
theorem k_X5_forgetAnswers {l : Launch} {D : va_G} {T : Nat → ClassId} {ad : Nat → Nat} (hO : xOk ad LX) : xMet l D T ad LX yX5_forgetAnswers cX5_forgetAnswers 1 none true 1 sp_X5_forgetAnswers :=
  xmet0 (rt := 0) (fld := fldX5) (cals := (calX5_forgetAnswers sp_X0_forgetFound sp_X3_forgetMade)) (cst := []) (I := iX5_forgetAnswers) (cut := cutX5_forgetAnswers) hO (by decide +kernel) ⟨by decide, by decide, by decide⟩ oX5_forgetAnswers foX5 (fun _ h => absurd h List.not_mem_nil) (List.forall_mem_cons.mpr ⟨⟨yX0_forgetFound, cX0_forgetFound, 1, none, 0, 0, by decide, yoX0_forgetFound, k_X0_forgetFound hO, loX5_168, Or.inr ⟨rfl, rfl, 10, 0, [some 1, some 4, some 7, some 11, none, none, none, none, none, none], TX0, 10, rfl, rfl, spV0_r⟩⟩, List.forall_mem_cons.mpr ⟨⟨yX3_forgetMade, cX3_forgetMade, 1, none, 0, 0, by decide, yoX3_forgetMade, k_X3_forgetMade hO, loX5_171, Or.inr ⟨rfl, rfl, 12, 3, [some 1, some 4, some 7, some 10, some 13, some 14, some 15, none, none, none], TX3, 10, rfl, rfl, spV0_r⟩⟩, fun _ h => absurd h List.not_mem_nil⟩⟩) b_X5_forgetAnswers
def f_X5_isTrace (t : Int) (M : xM) (Post : xR) : Prop := rg t ∧ (0 ≤ M 1 2 ∧ M 1 2 ≤ 6) ∧ ∀ r, (r = 1 ∧ (0 ≤ t ∧ t < M 1 2) ∨ r = 0 ∧ ¬ (0 ≤ t ∧ t < M 1 2)) → Post r M
abbrev sp_X5_isTrace : xT := spV1 0 f_X5_isTrace
set_option maxRecDepth 100000 in
set_option maxHeartbeats 4000000 in
theorem b_X5_isTrace (as : List xV) (M : xM) (Post : xR) (h : sp_X5_isTrace as M Post) : as.length ≤ 2 ∧ xw LX fldX5 (calX5_isTrace sp_X2_traces) [] 2 Post iX5_isTrace cutX5_isTrace (fun _ _ _ _ => False) 400 0 (xlv as 2) [] M := by
  obtain ⟨v1, rfl, h⟩ := h
  refine ⟨by simp, ?_⟩
  refine Eq.mpr (vcX5_isTrace_0 ..) ?_
  obtain ⟨h1, h2, hp⟩ := h
  exact ⟨h1, fun q => ⟨by omega, hp 0 (by omega)⟩, fun q => ⟨rfl, h1, ⟨by omega, by omega⟩, fun q1 => ⟨by omega, hp 0 (by omega)⟩, fun q1 => ⟨by omega, hp 1 (by omega)⟩⟩⟩
theorem k_X5_isTrace {l : Launch} {D : va_G} {T : Nat → ClassId} {ad : Nat → Nat} (hO : xOk ad LX) : xMet l D T ad LX yX5_isTrace cX5_isTrace 2 (some .boolean) false 1 sp_X5_isTrace :=
  xmet0 (rt := 2) (fld := fldX5) (cals := (calX5_isTrace sp_X2_traces)) (cst := []) (I := iX5_isTrace) (cut := cutX5_isTrace) hO (by decide +kernel) ⟨by decide, by decide, by decide⟩ oX5_isTrace foX5 (fun _ h => absurd h List.not_mem_nil) (List.forall_mem_cons.mpr ⟨⟨yX2_traces, cX2_traces, 1, (some .int), 0, 0, by decide, yoX2_traces, k_X2_traces hO, loX5_73, Or.inr ⟨rfl, rfl, 1, 2, [some 2, some 3, none], TX2, 3, rfl, rfl, spV0_r⟩⟩, fun _ h => absurd h List.not_mem_nil⟩) b_X5_isTrace
def f_X5_isNet (k : Int) (M : xM) (Post : xR) : Prop := rg k ∧ IX M ∧ ∀ (r : Int) (M' : xM), (∀ c, c < 8 → M' c = M c) → IX M' → (M 10 4 = 1 → M' 10 4 = 1) → (r = 1 ∧ (0 ≤ k ∧ k < (LNs (SX M)).2.2.length) ∨ r = 0 ∧ ¬ (0 ≤ k ∧ k < (LNs (SX M)).2.2.length)) → Post r M'
abbrev sp_X5_isNet : xT := spV1 0 f_X5_isNet
set_option maxRecDepth 100000 in
set_option maxHeartbeats 4000000 in
theorem b_X5_isNet (as : List xV) (M : xM) (Post : xR) (h : sp_X5_isNet as M Post) : as.length ≤ 2 ∧ xw LX fldX5 (calX5_isNet sp_X0_many) [] 2 Post iX5_isNet cutX5_isNet (fun _ _ _ _ => False) 400 0 (xlv as 2) [] M := by
  obtain ⟨v1, rfl, h⟩ := h
  refine ⟨by simp, ?_⟩
  refine Eq.mpr (vcX5_isNet_0 ..) ?_
  obtain ⟨h1, hI, hp⟩ := h
  have h369 := LN_369 (wfS_of hI.1)
  exact ⟨h1, fun q => ⟨by omega, hp 0 M (fun _ _ => rfl) hI id (by omega)⟩, fun q => many_q hI (fun M' f8 hI' h4 _ => ⟨h1, ⟨by omega, by omega⟩, fun q1 => ⟨by omega, hp 0 M' f8 hI' (fun _ => h4) (by omega)⟩, fun q1 => ⟨by omega, hp 1 M' f8 hI' (fun _ => h4) (by omega)⟩⟩)⟩
theorem k_X5_isNet {l : Launch} {D : va_G} {T : Nat → ClassId} {ad : Nat → Nat} (hO : xOk ad LX) : xMet l D T ad LX yX5_isNet cX5_isNet 2 (some .boolean) false 11 sp_X5_isNet :=
  xmet0 (rt := 2) (fld := fldX5) (cals := (calX5_isNet sp_X0_many)) (cst := []) (I := iX5_isNet) (cut := cutX5_isNet) hO (by decide +kernel) ⟨by decide, by decide, by decide⟩ oX5_isNet foX5 (fun _ h => absurd h List.not_mem_nil) (List.forall_mem_cons.mpr ⟨⟨yX0_many, cX0_many, 1, (some .int), 10, 0, by decide, yoX0_many, k_X0_many hO, loX5_111, Or.inr ⟨rfl, rfl, 10, 0, [some 1, some 4, some 7, some 11, none, none, none, none, none, none], TX0, 10, rfl, rfl, spV0_r⟩⟩, fun _ h => absurd h List.not_mem_nil⟩) b_X5_isNet
def f_X5_isTraced (n : Int) (M : xM) (Post : xR) : Prop := rg n ∧ wR M ∧ ∀ r, (r = 1 ∧ ((0 ≤ n ∧ n < 6) ∧ nmS (SX M) n) ∨ r = 0 ∧ ¬ ((0 ≤ n ∧ n < 6) ∧ nmS (SX M) n)) → Post r M
abbrev sp_X5_isTraced : xT := spV1 0 f_X5_isTraced
set_option maxRecDepth 100000 in
set_option maxHeartbeats 4000000 in
theorem b_X5_isTraced (as : List xV) (M : xM) (Post : xR) (h : sp_X5_isTraced as M Post) : as.length ≤ 2 ∧ xw LX fldX5 (calX5_isTraced sp_X5_isName sp_X2_names sp_X5_hasBit) [] 2 Post iX5_isTraced cutX5_isTraced (fun _ _ _ _ => False) 400 0 (xlv as 2) [] M := by
  obtain ⟨v1, rfl, h⟩ := h
  refine ⟨by simp, ?_⟩
  refine Eq.mpr (vcX5_isTraced_0 ..) ?_
  obtain ⟨h1, hw, hp⟩ := h
  refine ⟨_, rfl, h1, fun r1 hr1 => ⟨⟨by omega, by omega⟩, fun q => ⟨by omega, hp 0 (Or.inr ⟨rfl, fun z => ?_⟩)⟩, fun q => ⟨rfl, hw, fun x x0 x1 hx => ⟨_, _, rfl, ⟨by omega, by omega⟩, ⟨by omega, by omega⟩, fun r3 hr3 => ⟨⟨by omega, by omega⟩, fun q3 => ⟨by omega, hp 0 (Or.inr ⟨rfl, fun z => ?_⟩)⟩, fun q3 => ⟨by omega, hp 1 (Or.inl ⟨rfl, by omega, ?_⟩)⟩⟩⟩⟩⟩⟩
  · omega
  · have : ¬ tb x v1 := hr3.elim (fun z => by omega) (fun z => z.2)
    exact this ((hx v1 z.1.1 z.1.2).mpr z.2)
  · have : tb x v1 := hr3.elim (fun z => z.2) (fun z => (q3 z.1).elim)
    exact (hx v1 (by omega) (by omega)).mp this
theorem k_X5_isTraced {l : Launch} {D : va_G} {T : Nat → ClassId} {ad : Nat → Nat} (hO : xOk ad LX) : xMet l D T ad LX yX5_isTraced cX5_isTraced 2 (some .boolean) false 2 sp_X5_isTraced :=
  xmet0 (rt := 2) (fld := fldX5) (cals := (calX5_isTraced sp_X5_isName sp_X2_names sp_X5_hasBit)) (cst := []) (I := iX5_isTraced) (cut := cutX5_isTraced) hO (by decide +kernel) ⟨by decide, by decide, by decide⟩ oX5_isTraced foX5 (fun _ h => absurd h List.not_mem_nil) (List.forall_mem_cons.mpr ⟨⟨yX5_isName, cX5_isName, 1, (some .boolean), 0, 1, by decide, yoX5_isName, k_X5_isName hO, loX5_46, Or.inl ⟨rfl, rfl⟩⟩, List.forall_mem_cons.mpr ⟨⟨yX2_names, cX2_names, 5, (some .int), 1, 0, by decide, yoX2_names, k_X2_names hO, loX5_165, Or.inr ⟨rfl, rfl, 1, 2, [some 2, some 3, none], TX2, 3, rfl, rfl, spV0_r⟩⟩, List.forall_mem_cons.mpr ⟨⟨yX5_hasBit, cX5_hasBit, 2, (some .boolean), 0, 2, by decide, yoX5_hasBit, k_X5_hasBit hO, loX5_174, Or.inl ⟨rfl, rfl⟩⟩, fun _ h => absurd h List.not_mem_nil⟩⟩⟩) b_X5_isTraced
noncomputable def nbx (S : dS) : Nat := sm (fun b => bb (thB S (b : Int))) 6
noncomputable def nnm (S : dS) : Nat := sm (fun b => bb (nmS S (b : Int))) 6
theorem pop_6 {y : Int} (hy : 0 ≤ y ∧ y < 64) {P : Int → Prop} (h : ∀ b, 0 ≤ b → b < 6 → (tb y b ↔ P b)) : pop y = ((sm (fun b => bb (P (b : Int))) 6 : Nat) : Int) := by
  rw [pop_sm, show (10 : Nat) = 6 + 4 from rfl, sm_split]
  have e1 : sm (fun i => bb (tb y (i : Int))) 6 = sm (fun b => bb (P (b : Int))) 6 := sm_congr (fun i hi => bb_congr (h i (by omega) (by omega)))
  have e2 : sm (fun i => bb (tb y (((6 + i : Nat)) : Int))) 4 = sm (fun _ => 0) 4 := sm_congr (fun i hi => bb0 (fun z => by
    unfold tb at z
    rw [Int.toNat_natCast, Nat.testBit_lt_two_pow (Nat.lt_of_lt_of_le (m := 2 ^ 6) (by omega) (Nat.pow_le_pow_right (by omega) (by omega)))] at z
    cases z))
  rw [e1, e2]
  rfl
def f_X5_boxesOfNames (M : xM) (Post : xR) : Prop := wS M ∧ Post (nbx (SX M) : Nat) M
abbrev sp_X5_boxesOfNames : xT := spV0 0 f_X5_boxesOfNames
set_option maxRecDepth 100000 in
set_option maxHeartbeats 4000000 in
theorem b_X5_boxesOfNames (as : List xV) (M : xM) (Post : xR) (h : sp_X5_boxesOfNames as M Post) : as.length ≤ 1 ∧ xw LX fldX5 (calX5_boxesOfNames sp_X2_names sp_X4_boxes sp_J6_bitCount_0f7a4) [] 1 Post iX5_boxesOfNames cutX5_boxesOfNames (fun _ _ _ _ => False) 400 0 (xlv as 1) [] M := by
  obtain ⟨rfl, h⟩ := h
  refine ⟨by simp, ?_⟩
  refine Eq.mpr (vcX5_boxesOfNames_0 ..) ?_
  obtain ⟨hw, hp⟩ := h
  refine ⟨rfl, hw.1, fun x x0 x1 hx => ⟨_, rfl, hw.2.1, ⟨x0, x1⟩, fun y y0 y1 hy => ⟨_, rfl, ⟨by omega, by omega⟩, ?_⟩⟩⟩
  rw [pop_6 ⟨y0, y1⟩ (thB_bits hw hx hy)]
  exact hp
theorem k_X5_boxesOfNames {l : Launch} {D : va_G} {T : Nat → ClassId} {ad : Nat → Nat} (hO : xOk ad LX) : xMet l D T ad LX yX5_boxesOfNames cX5_boxesOfNames 1 (some .int) false 2 sp_X5_boxesOfNames :=
  xmet0 (rt := 1) (fld := fldX5) (cals := (calX5_boxesOfNames sp_X2_names sp_X4_boxes sp_J6_bitCount_0f7a4)) (cst := []) (I := iX5_boxesOfNames) (cut := cutX5_boxesOfNames) hO (by decide +kernel) ⟨by decide, by decide, by decide⟩ oX5_boxesOfNames foX5 (fun _ h => absurd h List.not_mem_nil) (List.forall_mem_cons.mpr ⟨⟨yX2_names, cX2_names, 5, (some .int), 1, 0, by decide, yoX2_names, k_X2_names hO, loX5_165, Or.inr ⟨rfl, rfl, 1, 2, [some 2, some 3, none], TX2, 3, rfl, rfl, spV0_r⟩⟩, List.forall_mem_cons.mpr ⟨⟨yX4_boxes, cX4_boxes, 4, (some .int), 1, 1, by decide, yoX4_boxes, k_X4_boxes hO, loX5_177, Or.inr ⟨rfl, rfl, 4, 4, [some 5, some 6, none], TX4, 3, rfl, rfl, spV1_r⟩⟩, List.forall_mem_cons.mpr ⟨⟨yJ6_bitCount_0f7a4, cJ6_bitCount_0f7a4, 1, (some .int), 0, 1, by decide, yoJ6_bitCount_0f7a4, k_J6_bitCount_0f7a4 hO, loX5_151, Or.inl ⟨rfl, rfl⟩⟩, fun _ h => absurd h List.not_mem_nil⟩⟩⟩) b_X5_boxesOfNames
/-- a question: the answer, the object's own cells as they were -/
def qX (M : xM) (Post : xR) (v : Int) : Prop := ∀ M' : xM, (∀ c, c < 8 → M' c = M c) → IX M' → Post v M'
def f_X5_nets (M : xM) (Post : xR) : Prop := IX M ∧ qX M Post ((LNs (SX M)).2.2.length : Nat)
abbrev sp_X5_nets : xT := spV0 0 f_X5_nets
set_option maxRecDepth 100000 in
set_option maxHeartbeats 4000000 in
theorem b_X5_nets (as : List xV) (M : xM) (Post : xR) (h : sp_X5_nets as M Post) : as.length ≤ 1 ∧ xw LX fldX5 (calX5_nets sp_X0_many) [] 1 Post iX5_nets cutX5_nets (fun _ _ _ _ => False) 400 0 (xlv as 1) [] M := by
  obtain ⟨rfl, h⟩ := h
  refine ⟨by simp, ?_⟩
  refine Eq.mpr (vcX5_nets_0 ..) ?_
  obtain ⟨hI, hp⟩ := h
  exact many_q hI (fun M' f8 hI' _ _ => hp M' f8 hI')
theorem k_X5_nets {l : Launch} {D : va_G} {T : Nat → ClassId} {ad : Nat → Nat} (hO : xOk ad LX) : xMet l D T ad LX yX5_nets cX5_nets 1 (some .int) false 11 sp_X5_nets :=
  xmet0 (rt := 1) (fld := fldX5) (cals := (calX5_nets sp_X0_many)) (cst := []) (I := iX5_nets) (cut := cutX5_nets) hO (by decide +kernel) ⟨by decide, by decide, by decide⟩ oX5_nets foX5 (fun _ h => absurd h List.not_mem_nil) (List.forall_mem_cons.mpr ⟨⟨yX0_many, cX0_many, 1, (some .int), 10, 0, by decide, yoX0_many, k_X0_many hO, loX5_111, Or.inr ⟨rfl, rfl, 10, 0, [some 1, some 4, some 7, some 11, none, none, none, none, none, none], TX0, 10, rfl, rfl, spV0_r⟩⟩, fun _ h => absurd h List.not_mem_nil⟩) b_X5_nets
noncomputable def shA (S : dS) (w : Int) : Int := if w ≠ 0 ∧ w ≠ 1 then -2 else if (LNs S).2.2.length = 0 then -6 else if w = 0 then (nbx S : Int) + ((LNs S).1 : Int) else ((LNs S).2.1 : Int)
def f_X5_shape (w : Int) (M : xM) (Post : xR) : Prop := rg w ∧ IX M ∧ qX M Post (shA (SX M) w)
abbrev sp_X5_shape : xT := spV1 0 f_X5_shape
set_option maxRecDepth 100000 in
set_option maxHeartbeats 4000000 in
theorem b_X5_shape (as : List xV) (M : xM) (Post : xR) (h : sp_X5_shape as M Post) : as.length ≤ 2 ∧ xw LX fldX5 (calX5_shape sp_X0_many sp_X5_boxesOfNames sp_X0_newBoxes sp_X0_lines) [] 1 Post iX5_shape cutX5_shape (fun _ _ _ _ => False) 400 0 (xlv as 2) [] M := by
  obtain ⟨v1, rfl, h⟩ := h
  refine ⟨by simp, ?_⟩
  refine Eq.mpr (vcX5_shape_0 ..) ?_
  obtain ⟨h1, hI, hp⟩ := h
  have h369 := LN_369 (wfS_of hI.1)
  have ans : ∀ M' : xM, (∀ c, c < 8 → M' c = M c) → IX M' → ∀ v, shA (SX M) v1 = v → Post v M' := fun M' f8 hI' v e => by rw [← e]; exact hp M' f8 hI'
  refine ⟨h1, fun q => many_q hI (fun M' f8 hI' h4 hs => ⟨⟨by omega, by omega⟩, fun q1 => ⟨h1, fun q2 => by omega, fun _ => ⟨rfl, hI'.1, rfl, ?_⟩⟩, fun q1 => ans M' f8 hI' _ ?_⟩), fun q => ⟨h1, ⟨by omega, by omega⟩, fun q1 => many_q hI (fun M' f8 hI' h4 hs => ⟨⟨by omega, by omega⟩, fun q2 => ⟨h1, fun q3 => ⟨rfl, ?_⟩, fun q3 => by omega⟩, fun q2 => ans M' f8 hI' _ ?_⟩), fun q1 => ans M (fun _ _ => rfl) hI _ ?_⟩⟩
  · refine ans M' f8 hI' _ ?_
    unfold shA
    rw [if_neg (by omega), if_neg (by omega), if_pos q, SX_8 f8, hs.1]
  · unfold shA; rw [if_neg (by omega), if_pos (by omega)]
  · refine ans M' f8 hI' _ ?_
    unfold shA
    rw [if_neg (by omega), if_neg (by omega), if_neg q, hs.2.1]
  · unfold shA; rw [if_neg (by omega), if_pos (by omega)]
  · unfold shA; rw [if_pos ⟨q, q1⟩]
theorem k_X5_shape {l : Launch} {D : va_G} {T : Nat → ClassId} {ad : Nat → Nat} (hO : xOk ad LX) : xMet l D T ad LX yX5_shape cX5_shape 2 (some .int) false 11 sp_X5_shape :=
  xmet0 (rt := 1) (fld := fldX5) (cals := (calX5_shape sp_X0_many sp_X5_boxesOfNames sp_X0_newBoxes sp_X0_lines)) (cst := []) (I := iX5_shape) (cut := cutX5_shape) hO (by decide +kernel) ⟨by decide, by decide, by decide⟩ oX5_shape foX5 (fun _ h => absurd h List.not_mem_nil) (List.forall_mem_cons.mpr ⟨⟨yX0_many, cX0_many, 1, (some .int), 10, 0, by decide, yoX0_many, k_X0_many hO, loX5_111, Or.inr ⟨rfl, rfl, 10, 0, [some 1, some 4, some 7, some 11, none, none, none, none, none, none], TX0, 10, rfl, rfl, spV0_r⟩⟩, List.forall_mem_cons.mpr ⟨⟨yX5_boxesOfNames, cX5_boxesOfNames, 1, (some .int), 2, 0, by decide, yoX5_boxesOfNames, k_X5_boxesOfNames hO, loX5_114, Or.inr ⟨rfl, rfl, 0, 5, [some 1, some 4, some 10, some 12], TX5, 4, rfl, rfl, spV0_r⟩⟩, List.forall_mem_cons.mpr ⟨⟨yX0_newBoxes, cX0_newBoxes, 1, (some .int), 0, 0, by decide, yoX0_newBoxes, k_X0_newBoxes hO, loX5_117, Or.inr ⟨rfl, rfl, 10, 0, [some 1, some 4, some 7, some 11, none, none, none, none, none, none], TX0, 10, rfl, rfl, spV0_r⟩⟩, List.forall_mem_cons.mpr ⟨⟨yX0_lines, cX0_lines, 1, (some .int), 0, 0, by decide, yoX0_lines, k_X0_lines hO, loX5_120, Or.inr ⟨rfl, rfl, 10, 0, [some 1, some 4, some 7, some 11, none, none, none, none, none, none], TX0, 10, rfl, rfl, spV0_r⟩⟩, fun _ h => absurd h List.not_mem_nil⟩⟩⟩⟩) b_X5_shape
noncomputable def bxA (S : dS) (k s : Int) : Int := if (LNs S).2.2.length = 0 then -6 else if 0 ≤ k ∧ k < (LNs S).2.2.length ∧ 0 ≤ s ∧ s < (mS S : Int) then (if lkA ((LNs S).2.2.getD k.toNat []) s < 6 then lkA ((LNs S).2.2.getD k.toNat []) s else lkA ((LNs S).2.2.getD k.toNat []) s + 4) else -2
def f_X5_boxOf (k s : Int) (M : xM) (Post : xR) : Prop := rg k ∧ rg s ∧ IX M ∧ qX M Post (bxA (SX M) k s)
abbrev sp_X5_boxOf : xT := spV2 0 f_X5_boxOf
set_option maxRecDepth 100000 in
set_option maxHeartbeats 4000000 in
theorem b_X5_boxOf (as : List xV) (M : xM) (Post : xR) (h : sp_X5_boxOf as M Post) : as.length ≤ 4 ∧ xw LX fldX5 (calX5_boxOf sp_X0_many sp_X5_isNet sp_X2_silents sp_X0_code sp_X5_boxIn) [] 1 Post iX5_boxOf cutX5_boxOf (fun _ _ _ _ => False) 400 0 (xlv as 4) [] M := by
  obtain ⟨v1, v2, rfl, h⟩ := h
  refine ⟨by simp, ?_⟩
  refine Eq.mpr (vcX5_boxOf_0 ..) ?_
  obtain ⟨hk, hs, hI, hp⟩ := h
  have h369 := LN_369 (wfS_of hI.1)
  have hm4 := mS_4 (wfS_of hI.1)
  have ans : ∀ M' : xM, (∀ c, c < 8 → M' c = M c) → IX M' → ∀ v, bxA (SX M) v1 v2 = v → Post v M' := fun M' f8 hI' v e => by rw [← e]; exact hp M' f8 hI'
  refine many_q hI (fun M1 f1 hI1 h14 hs1 => ⟨⟨by omega, by omega⟩, fun q => ⟨_, rfl, hk, hI1, fun r M2 f2 hI2 h24 hr => ⟨⟨by omega, by omega⟩, fun q2 => ?_, fun q2 => ⟨hs, fun q3 => ?_, fun q3 => ⟨rfl, hI2.1.1, ?_⟩⟩⟩⟩, fun q => ans M1 f1 hI1 _ (by unfold bxA; rw [if_pos (by omega)])⟩)
  · rw [SX_8 f1] at hr
    refine ans M2 (fun c hc => by rw [f2 c hc]; exact f1 c hc) hI2 _ ?_
    unfold bxA; rw [if_neg (by omega), if_neg (by omega)]
  · refine ans M2 (fun c hc => by rw [f2 c hc]; exact f1 c hc) hI2 _ ?_
    unfold bxA; rw [if_neg (by omega), if_neg (by omega)]
  · rw [SX_8 f1] at hr
    have f8 : ∀ c, c < 8 → M2 c = M c := fun c hc => by rw [f2 c hc]; exact f1 c hc
    have eS := SX_8 f8
    have em : sS (M2 2) (M2 3) (M2 1 2).toNat = (mS (SX M) : Nat) := by rw [← eS, mS_c]; rfl
    rw [em]
    refine ⟨hs, ⟨by omega, by omega⟩, fun q4 => ⟨_, rfl, ⟨by omega, by omega⟩, ?_⟩, fun q4 => ans M2 f8 hI2 _ (by unfold bxA; rw [if_neg (by omega), if_neg (by omega)])⟩
    obtain ⟨kn, rfl⟩ : ∃ kn : Nat, v1 = kn := ⟨v1.toNat, by omega⟩
    have hlt : kn < (LNs (SX M)).2.2.length := by omega
    have hst2 : stO M2 (SX M) (LNs (SX M)) := by
      rcases hI2.2.2.1 with z | ⟨-, z⟩
      · have := h24 h14; omega
      · rw [eS] at z; exact z
    obtain ⟨c1, c2, c3⟩ := hst2.2.2.2 kn _ (List.getElem?_eq_getElem hlt)
    have c3' := c3 v2 q3 q4
    have c2' := c2 v2 q3 (by omega)
    have c0 := bxc_0 (x := M2 11 kn) (s := v2)
    refine ⟨_, _, rfl, c1, ⟨by omega, by omega⟩, ⟨by omega, by omega⟩, ⟨by omega, by omega⟩, fun q5 => ?_, fun q5 => ?_⟩
    all_goals
      refine ans M2 f8 hI2 _ ?_
      unfold bxA
      rw [if_neg (by omega), if_pos (by omega), Int.toNat_natCast, List.getD_eq_getElem?_getD, List.getElem?_eq_getElem hlt, Option.getD_some, ← c3']
    · rw [if_neg (by omega)]; omega
    · rw [if_pos q5]
theorem k_X5_boxOf {l : Launch} {D : va_G} {T : Nat → ClassId} {ad : Nat → Nat} (hO : xOk ad LX) : xMet l D T ad LX yX5_boxOf cX5_boxOf 4 (some .int) false 12 sp_X5_boxOf :=
  xmet0 (rt := 1) (fld := fldX5) (cals := (calX5_boxOf sp_X0_many sp_X5_isNet sp_X2_silents sp_X0_code sp_X5_boxIn)) (cst := []) (I := iX5_boxOf) (cut := cutX5_boxOf) hO (by decide +kernel) ⟨by decide, by decide, by decide⟩ oX5_boxOf foX5 (fun _ h => absurd h List.not_mem_nil) (List.forall_mem_cons.mpr ⟨⟨yX0_many, cX0_many, 1, (some .int), 10, 0, by decide, yoX0_many, k_X0_many hO, loX5_111, Or.inr ⟨rfl, rfl, 10, 0, [some 1, some 4, some 7, some 11, none, none, none, none, none, none], TX0, 10, rfl, rfl, spV0_r⟩⟩, List.forall_mem_cons.mpr ⟨⟨yX5_isNet, cX5_isNet, 2, (some .boolean), 11, 1, by decide, yoX5_isNet, k_X5_isNet hO, loX5_123, Or.inr ⟨rfl, rfl, 0, 5, [some 1, some 4, some 10, some 12], TX5, 4, rfl, rfl, spV1_r⟩⟩, List.forall_mem_cons.mpr ⟨⟨yX2_silents, cX2_silents, 3, (some .int), 2, 0, by decide, yoX2_silents, k_X2_silents hO, loX5_58, Or.inr ⟨rfl, rfl, 1, 2, [some 2, some 3, none], TX2, 3, rfl, rfl, spV0_r⟩⟩, List.forall_mem_cons.mpr ⟨⟨yX0_code, cX0_code, 2, (some .int), 0, 1, by decide, yoX0_code, k_X0_code hO, loX5_126, Or.inr ⟨rfl, rfl, 10, 0, [some 1, some 4, some 7, some 11, none, none, none, none, none, none], TX0, 10, rfl, rfl, spV1_r⟩⟩, List.forall_mem_cons.mpr ⟨⟨yX5_boxIn, cX5_boxIn, 2, (some .int), 0, 2, by decide, yoX5_boxIn, k_X5_boxIn hO, loX5_129, Or.inl ⟨rfl, rfl⟩⟩, fun _ h => absurd h List.not_mem_nil⟩⟩⟩⟩⟩) b_X5_boxOf

