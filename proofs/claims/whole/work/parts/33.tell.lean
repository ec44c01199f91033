/-! untell, tell -/
theorem IX_told {M N : xM} (hI : IX M) (h : ∀ c, c ≠ 4 → c ≠ 5 → c ≠ 6 → N c = M c) (hT : wT N) : IX (xup (xup N 10 4 0) 12 7 0) := by
  have e1 := h 1 (by decide) (by decide) (by decide)
  have e2 := h 2 (by decide) (by decide) (by decide)
  have e3 := h 3 (by decide) (by decide) (by decide)
  refine IX_new (M := M) ?_ hT ?_ ?_ ?_
  · unfold wR; rw [e1, e2, e3]; exact hI.1.1
  · rw [e1, e2, e3]; exact hI.1.2.2.1
  · rw [e1, e2, e3]; exact hI.1.2.2.2
  · rw [e1, e2, e3]; exact hI.2.1
def f_X5_untell (M : xM) (Post : xR) : Prop := IX M ∧ ∀ M' : xM, IX M' → (∀ c, c ≠ 4 → c ≠ 5 → c ≠ 6 → c ≠ 10 → c ≠ 12 → M' c = M c) → (∀ n, 0 ≤ n → n < 6 → M' 5 n = n) → (∀ n, 0 ≤ n → n < 6 → M' 6 n = 0) → M' 4 2 = 0 → Post (M 4 2) M'
abbrev sp_X5_untell : xT := spV0 0 f_X5_untell
set_option maxRecDepth 100000 in
set_option maxHeartbeats 4000000 in
theorem b_X5_untell (as : List xV) (M : xM) (Post : xR) (h : sp_X5_untell as M Post) : as.length ≤ 2 ∧ xw LX fldX5 (calX5_untell sp_X4_times sp_X4_clear sp_X5_forgetAnswers) [] 1 Post iX5_untell cutX5_untell (fun _ _ _ _ => False) 400 0 (xlv as 2) [] M := by
  obtain ⟨rfl, h⟩ := h
  refine ⟨by simp, ?_⟩
  refine Eq.mpr (vcX5_untell_0 ..) ?_
  obtain ⟨hI, hp⟩ := h
  refine ⟨rfl, rfl, fun N g1 g2 g3 g4 => ⟨rfl, ?_⟩⟩
  refine hp _ (IX_told hI g1 ⟨fun n a b => by rw [g2 n a b]; omega, fun n a b => by rw [g2 n a b, g2 n a b], fun n a b => by rw [g3 n a b]; omega⟩) (fun c q1 q2 q3 q4 q5 => by rw [xup_ne q5, xup_ne q4]; exact g1 c q1 q2 q3) (fun n a b => by rw [xup_ne (by decide), xup_ne (by decide)]; exact g2 n a b) (fun n a b => by rw [xup_ne (by decide), xup_ne (by decide)]; exact g3 n a b) (by rw [xup_ne (by decide), xup_ne (by decide)]; exact g4)
theorem k_X5_untell {l : Launch} {D : va_G} {T : Nat → ClassId} {ad : Nat → Nat} (hO : xOk ad LX) : xMet l D T ad LX yX5_untell cX5_untell 2 (some .int) false 2 sp_X5_untell :=
  xmet0 (rt := 1) (fld := fldX5) (cals := (calX5_untell sp_X4_times sp_X4_clear sp_X5_forgetAnswers)) (cst := []) (I := iX5_untell) (cut := cutX5_untell) hO (by decide +kernel) ⟨by decide, by decide, by decide⟩ oX5_untell foX5 (fun _ h => absurd h List.not_mem_nil) (List.forall_mem_cons.mpr ⟨⟨yX4_times, cX4_times, 1, (some .int), 0, 0, by decide, yoX4_times, k_X4_times hO, loX5_105, Or.inr ⟨rfl, rfl, 4, 4, [some 5, some 6, none], TX4, 3, rfl, rfl, spV0_r⟩⟩, List.forall_mem_cons.mpr ⟨⟨yX4_clear, cX4_clear, 2, none, 1, 0, by decide, yoX4_clear, k_X4_clear hO, loX5_108, Or.inr ⟨rfl, rfl, 4, 4, [some 5, some 6, none], TX4, 3, rfl, rfl, spV0_r⟩⟩, List.forall_mem_cons.mpr ⟨⟨yX5_forgetAnswers, cX5_forgetAnswers, 1, none, 1, 0, by decide, yoX5_forgetAnswers, k_X5_forgetAnswers hO, loX5_83, Or.inr ⟨rfl, rfl, 0, 5, [some 1, some 4, some 10, some 12], TX5, 4, rfl, rfl, spV0_r⟩⟩, fun _ h => absurd h List.not_mem_nil⟩⟩⟩) b_X5_untell
def okT (a b : Int) : Prop := (0 ≤ a ∧ a < 6) ∧ (0 ≤ b ∧ b < 6) ∧ a ≠ b
def f_X5_tell (a b one : Int) (M : xM) (Post : xR) : Prop := rg a ∧ rg b ∧ rg one ∧ IX M ∧ (¬ okT a b → Post (-2) M) ∧ (okT a b → one ≠ 0 → M 5 a = M 5 b → Post (-3) M) ∧ (okT a b → one ≠ 0 → M 5 a ≠ M 5 b → apB M a b → Post (-4) M) ∧ (okT a b → one = 0 → tb (M 6 a) b → Post (-3) M) ∧ (okT a b → one = 0 → ¬ tb (M 6 a) b → M 5 a = M 5 b → Post (-4) M) ∧ (okT a b → one ≠ 0 → M 5 a ≠ M 5 b → ¬ apB M a b → ∀ M' : xM, IX M' → (∀ c, c ≠ 4 → c ≠ 5 → c ≠ 10 → c ≠ 12 → M' c = M c) → M' 4 2 = M 4 2 + 1 → (∀ n, 0 ≤ n → n < 6 → M' 5 n = if M 5 n = M 5 a ∨ M 5 n = M 5 b then min (M 5 a) (M 5 b) else M 5 n) → Post 1 M') ∧ (okT a b → one = 0 → ¬ tb (M 6 a) b → M 5 a ≠ M 5 b → ∀ M' : xM, IX M' → (∀ c, c ≠ 4 → c ≠ 6 → c ≠ 10 → c ≠ 12 → M' c = M c) → M' 4 2 = M 4 2 + 1 → (∀ n d, 0 ≤ n → n < 6 → 0 ≤ d → d < 6 → (tb (M' 6 n) d ↔ tb (M 6 n) d ∨ n = a ∧ d = b ∨ n = b ∧ d = a)) → Post 1 M')
abbrev sp_X5_tell : xT := spV3 0 f_X5_tell
set_option maxRecDepth 100000 in
set_option maxHeartbeats 4000000 in
theorem b_X5_tell (as : List xV) (M : xM) (Post : xR) (h : sp_X5_tell as M Post) : as.length ≤ 6 ∧ xw LX fldX5 (calX5_tell sp_X5_isName sp_X4_areOneBox sp_X4_areToldApart sp_X4_haveBoxesApart sp_X4_add sp_X5_forgetAnswers) [] 1 Post iX5_tell cutX5_tell (fun _ _ _ _ => False) 400 0 (xlv as 6) [] M := by
  obtain ⟨v1, v2, v3, rfl, h⟩ := h
  refine ⟨by simp, ?_⟩
  refine Eq.mpr (vcX5_tell_0 ..) ?_
  obtain ⟨h1, h2, h3, hI, p1, p2, p3, p4, p5, p6, p7⟩ := h
  have hT := hI.1.2.1
  refine ⟨_, rfl, h1, fun r1 hr1 => ⟨⟨by omega, by omega⟩, fun q1 => p1 (fun z => by have := z.1; omega), fun q1 => ⟨_, rfl, h2, fun r2 hr2 => ⟨⟨by omega, by omega⟩, fun q2 => p1 (fun z => by have := z.2.1; omega), fun q2 => ⟨h1, h2, fun q3 => ?_, fun q3 => p1 (fun z => z.2.2 q3)⟩⟩⟩⟩⟩
  have ha : 0 ≤ v1 ∧ v1 < 6 := by omega
  have hb : 0 ≤ v2 ∧ v2 < 6 := by omega
  have hok : okT v1 v2 := ⟨ha, hb, q3⟩
  have ba := hT.1 v1 ha.1 ha.2
  have bb' := hT.1 v2 hb.1 hb.2
  refine ⟨h3, fun q4 => ⟨_, _, rfl, hT, ha, hb, fun r3 hr3 => ⟨⟨by omega, by omega⟩, fun q5 => ⟨h3, fun _ => ⟨_, _, rfl, hT, ha, hb, fun r4 hr4 => ⟨⟨by omega, by omega⟩, fun q6 => ⟨_, _, _, rfl, hT, ha, hb, h3, fun z => (z q4).elim, fun _ N g1 g2 g3 => ⟨rfl, ?_⟩⟩, fun q6 => p5 hok q4 (hr3.elim (fun z => by omega) (fun z => z.2)) (hr4.elim (fun z => z.2) (fun z => (q6 z.1).elim))⟩⟩, fun z => (z q4).elim⟩, fun q5 => p4 hok q4 (hr3.elim (fun z => z.2) (fun z => (q5 z.1).elim))⟩⟩, fun q4 => ⟨_, _, rfl, hT, ha, hb, fun r3 hr3 => ⟨⟨by omega, by omega⟩, fun q5 => ⟨h3, fun z => (q4 z).elim, fun _ => ⟨_, _, rfl, hT, ha, hb, fun r4 hr4 => ⟨⟨by omega, by omega⟩, fun q6 => ⟨_, _, _, rfl, hT, ha, hb, h3, fun _ N g1 g2 g3 => ⟨rfl, ?_⟩, fun z => (q4 z).elim⟩, fun q6 => p3 hok q4 (hr3.elim (fun z => by omega) (fun z => z.2)) (hr4.elim (fun z => z.2) (fun z => (q6 z.1).elim))⟩⟩⟩, fun q5 => p2 hok q4 (hr3.elim (fun z => z.2) (fun z => (q5 z.1).elim))⟩⟩⟩
  · have e5 : N 5 = M 5 := g1 5 (by decide) (by decide)
    refine p7 hok q4 (hr3.elim (fun z => by omega) (fun z => z.2)) (hr4.elim (fun z => by omega) (fun z => z.2)) _ (IX_told hI (fun c q _ q' => g1 c q q') ⟨by rw [e5]; exact hT.1, by rw [e5]; exact hT.2.1, fun n a b => (g3 n a b).1⟩) (fun c a b d e => by rw [xup_ne e, xup_ne d]; exact g1 c a b) (by rw [xup_ne (by decide), xup_ne (by decide)]; exact g2) (fun n d a b c e => by rw [xup_ne (by decide), xup_ne (by decide)]; exact (g3 n a b).2 d c e)
  · have e6 : N 6 = M 6 := g1 6 (by decide) (by decide)
    have ia := hT.2.1 v1 ha.1 ha.2
    have ib := hT.2.1 v2 hb.1 hb.2
    have hmin : min (M 5 v1) (M 5 v2) = M 5 v1 ∨ min (M 5 v1) (M 5 v2) = M 5 v2 := by omega
    have imin : M 5 (min (M 5 v1) (M 5 v2)) = min (M 5 v1) (M 5 v2) := by
      rcases hmin with z | z <;> rw [z]
      · exact ia
      · exact ib
    refine p6 hok q4 (hr3.elim (fun z => by omega) (fun z => z.2)) (hr4.elim (fun z => by omega) (fun z => z.2)) _ (IX_told hI (fun c q q' _ => g1 c q q') ⟨fun n a b => ?_, fun n a b => ?_, by rw [e6]; exact hT.2.2⟩) (fun c a b d e => by rw [xup_ne e, xup_ne d]; exact g1 c a b) (by rw [xup_ne (by decide), xup_ne (by decide)]; exact g2) (fun n a b => by rw [xup_ne (by decide), xup_ne (by decide)]; exact g3 n a b)
    · rw [g3 n a b]
      have := hT.1 n a b
      split <;> omega
    · have hn := hT.1 n a b
      rw [g3 n a b]
      split
      · rw [g3 _ (by omega) (by omega), imin, if_pos (by omega)]
      · rename_i hz
        rw [g3 _ (by omega) (by omega), hT.2.1 n a b, if_neg hz]
theorem k_X5_tell {l : Launch} {D : va_G} {T : Nat → ClassId} {ad : Nat → Nat} (hO : xOk ad LX) : xMet l D T ad LX yX5_tell cX5_tell 6 (some .int) false 3 sp_X5_tell :=
  xmet0 (rt := 1) (fld := fldX5) (cals := (calX5_tell sp_X5_isName sp_X4_areOneBox sp_X4_areToldApart sp_X4_haveBoxesApart sp_X4_add sp_X5_forgetAnswers)) (cst := []) (I := iX5_tell) (cut := cutX5_tell) hO (by decide +kernel) ⟨by decide, by decide, by decide⟩ oX5_tell foX5 (fun _ h => absurd h List.not_mem_nil) (List.forall_mem_cons.mpr ⟨⟨yX5_isName, cX5_isName, 1, (some .boolean), 0, 1, by decide, yoX5_isName, k_X5_isName hO, loX5_46, Or.inl ⟨rfl, rfl⟩⟩, List.forall_mem_cons.mpr ⟨⟨yX4_areOneBox, cX4_areOneBox, 3, (some .boolean), 1, 2, by decide, yoX4_areOneBox, k_X4_areOneBox hO, loX5_92, Or.inr ⟨rfl, rfl, 4, 4, [some 5, some 6, none], TX4, 3, rfl, rfl, spV2_r⟩⟩, List.forall_mem_cons.mpr ⟨⟨yX4_areToldApart, cX4_areToldApart, 3, (some .boolean), 1, 2, by decide, yoX4_areToldApart, k_X4_areToldApart hO, loX5_95, Or.inr ⟨rfl, rfl, 4, 4, [some 5, some 6, none], TX4, 3, rfl, rfl, spV2_r⟩⟩, List.forall_mem_cons.mpr ⟨⟨yX4_haveBoxesApart, cX4_haveBoxesApart, 5, (some .boolean), 2, 2, by decide, yoX4_haveBoxesApart, k_X4_haveBoxesApart hO, loX5_98, Or.inr ⟨rfl, rfl, 4, 4, [some 5, some 6, none], TX4, 3, rfl, rfl, spV2_r⟩⟩, List.forall_mem_cons.mpr ⟨⟨yX4_add, cX4_add, 4, none, 2, 3, by decide, yoX4_add, k_X4_add hO, loX5_101, Or.inr ⟨rfl, rfl, 4, 4, [some 5, some 6, none], TX4, 3, rfl, rfl, spV3_r⟩⟩, List.forall_mem_cons.mpr ⟨⟨yX5_forgetAnswers, cX5_forgetAnswers, 1, none, 1, 0, by decide, yoX5_forgetAnswers, k_X5_forgetAnswers hO, loX5_83, Or.inr ⟨rfl, rfl, 0, 5, [some 1, some 4, some 10, some 12], TX5, 4, rfl, rfl, spV0_r⟩⟩, fun _ h => absurd h List.not_mem_nil⟩⟩⟩⟩⟩⟩) b_X5_tell

