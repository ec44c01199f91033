/-! trace, forget, untell, tell -/
theorem sS_row {M N : xM} : ∀ k : Nat, (∀ t, 0 ≤ t → t < (k : Int) → rowEq M t N t ∧ 0 ≤ M 3 t) → sS (N 2) (N 3) k = sS (M 2) (M 3) k := by
  intro k
  induction k with
  | zero => intro _; rfl
  | succ k ih =>
    intro h
    have hk := h k (by omega) (by omega)
    simp only [sS]
    rw [ih (fun t a b => h t a (by omega)), hk.1.1]
    congr 1
    exact cS_congr (fun i a b => hk.1.2 i a (by omega))
theorem cS_row {M N : xM} {t u : Int} (h : rowEq M t N u) (h0 : 0 ≤ M 3 t) : cS (N 2) (u * 6) (N 3 u).toNat = cS (M 2) (t * 6) (M 3 t).toNat := by
  rw [h.1]
  exact cS_congr (fun i a b => h.2 i a (by omega))
/-- behind a change the answers are forgotten -/
theorem IX_new {M N : xM} (hR : wR N) (hT : wT N) (hs : sS (N 2) (N 3) (N 1 2).toNat ≤ 4) (he : ∀ t, 0 ≤ t → t < N 1 2 → 2 ≤ N 3 t ∧ N 2 (t * 6) ≠ -1 ∧ N 2 (t * 6 + (N 3 t - 1)) ≠ -1) (hh : sS (N 2) (N 3) (N 1 2).toNat + cS (N 2) 36 (N 3 6).toNat ≤ 4) : IX (xup (xup N 10 4 0) 12 7 0) := by
  have e : ∀ c, c ≠ 10 → c ≠ 12 → (xup (xup N 10 4 0) 12 7 0) c = N c := fun c h1 h2 => by rw [xup_ne h2, xup_ne h1]
  refine ⟨?_, ?_, Or.inl (by simp [xup]), Or.inl (by simp [xup])⟩
  · rw [wS_eq (e 1 (by decide) (by decide)) (e 2 (by decide) (by decide)) (e 3 (by decide) (by decide)) (e 5 (by decide) (by decide)) (e 6 (by decide) (by decide))]
    exact ⟨hR, hT, hs, he⟩
  · unfold hdX
    rw [e 1 (by decide) (by decide), e 2 (by decide) (by decide), e 3 (by decide) (by decide)]
    exact hh
def okH (M : xM) : Prop := 2 ≤ M 3 6 ∧ M 2 36 ≠ -1 ∧ M 2 (36 + (M 3 6 - 1)) ≠ -1
def f_X5_trace (M : xM) (Post : xR) : Prop := IX M ∧ (6 ≤ M 1 2 → Post (-5) M) ∧ (M 1 2 < 6 → ¬ okH M → Post (-6) M) ∧ (M 1 2 < 6 → okH M → ∀ M' : xM, IX M' → M' 1 2 = M 1 2 + 1 → M' 3 6 = 0 → rowEq M 6 M' (M 1 2) → (∀ t, 0 ≤ t → t < M 1 2 → rowEq M t M' t) → (∀ c, c ≠ 1 → c ≠ 2 → c ≠ 3 → c ≠ 10 → c ≠ 12 → M' c = M c) → Post (M 1 2) M')
abbrev sp_X5_trace : xT := spV0 0 f_X5_trace
set_option maxRecDepth 100000 in
set_option maxHeartbeats 4000000 in
theorem b_X5_trace (as : List xV) (M : xM) (Post : xR) (h : sp_X5_trace as M Post) : as.length ≤ 2 ∧ xw LX fldX5 (calX5_trace sp_X2_traces sp_X2_length sp_X2_hopAt sp_X2_keepHand sp_X5_forgetAnswers) [] 1 Post iX5_trace cutX5_trace (fun _ _ _ _ => False) 400 0 (xlv as 2) [] M := by
  obtain ⟨rfl, h⟩ := h
  refine ⟨by simp, ?_⟩
  refine Eq.mpr (vcX5_trace_0 ..) ?_
  obtain ⟨hI, p1, p2, p3⟩ := h
  have hn := hI.1.1.1
  have hl := hI.1.1.2.1 6 (by omega) (by omega)
  have ha := hI.1.1.2.2 36 (by omega) (by omega)
  refine ⟨rfl, ⟨by omega, by omega⟩, ⟨by omega, by omega⟩, fun q => ⟨_, rfl, ⟨by omega, by omega⟩, ⟨by omega, by omega⟩, ⟨by omega, by omega⟩, fun q1 => p2 q (fun z => by have := z.1; omega), fun q1 => ⟨_, _, rfl, ⟨by omega, by omega⟩, ⟨by omega, by omega⟩, ?_⟩⟩, p1⟩
  rw [show (6 : Int) * 6 + 0 = 36 from rfl]
  have hb := hI.1.1.2.2 (36 + (M 3 6 - 1)) (by omega) (by omega)
  refine ⟨⟨by omega, by omega⟩, ⟨by omega, by omega⟩, fun q2 => p2 q (fun z => z.2.1 q2), fun q2 => ⟨_, _, rfl, ⟨by omega, by omega⟩, ⟨by omega, by omega⟩, ?_⟩⟩
  rw [show (6 : Int) * 6 = 36 from rfl]
  refine ⟨⟨by omega, by omega⟩, ⟨by omega, by omega⟩, fun q3 => ⟨rfl, hI.1.1, q, fun N hR g1 g2 g3 g4 g5 => ⟨rfl, rfl, ?_⟩⟩, fun q3 => p2 q (fun z => z.2.2 q3)⟩
  have hrow : ∀ t, 0 ≤ t → t < M 1 2 → rowEq M t N t ∧ 0 ≤ M 3 t := fun t a b => ⟨g5 t a b, (hI.1.1.2.1 t a (by omega)).1⟩
  have eS : sS (N 2) (N 3) (N 1 2).toNat = sS (M 2) (M 3) (M 1 2).toNat + cS (M 2) 36 (M 3 6).toNat := by
    rw [g2, show (M 1 2 + 1).toNat = (M 1 2).toNat + 1 by omega]
    simp only [sS]
    rw [sS_row (M := M) (N := N) (M 1 2).toNat (fun t a b => hrow t a (by omega)), Int.toNat_of_nonneg hn.1, cS_row g4 hl.1]
    rfl
  have h4 := hI.2.1
  unfold hdX at h4
  have hIn := IX_new (M := M) (N := N) hR (by unfold wT; rw [g1 5 (by decide) (by decide) (by decide), g1 6 (by decide) (by decide) (by decide)]; exact hI.1.2.1) (by rw [eS]; exact h4) (fun t a b => by
    rw [g2] at b
    by_cases ht : t = M 1 2
    · subst ht
      have e0 := g4.2 0 (by omega) (by omega)
      have e1 := g4.2 (M 3 6 - 1) (by omega) (by omega)
      rw [Int.add_zero, Int.add_zero] at e0
      rw [g4.1, e0, e1]
      exact ⟨q1, q2, q3⟩
    · have hr := g5 t a (by omega)
      have hz := hI.1.2.2.2 t a (by omega)
      have e0 := hr.2 0 (by omega) (by omega)
      have e1 := hr.2 (M 3 t - 1) (by omega) (by omega)
      rw [Int.add_zero] at e0
      rw [hr.1, e0, e1]
      exact hz) (by rw [eS, g3]; show _ + 0 ≤ _; omega)
  have hfin := p3 q ⟨q1, q2, q3⟩ _ hIn (by rw [xup_ne (by decide), xup_ne (by decide)]; exact g2) (by rw [xup_ne (by decide), xup_ne (by decide)]; exact g3) ⟨by rw [xup_ne (by decide), xup_ne (by decide)]; exact g4.1, fun i a b => by rw [xup_ne (by decide), xup_ne (by decide)]; exact g4.2 i a b⟩ (fun t a b => ⟨by rw [xup_ne (by decide), xup_ne (by decide)]; exact (g5 t a b).1, fun i c d => by rw [xup_ne (by decide), xup_ne (by decide)]; exact (g5 t a b).2 i c d⟩) (fun c q1 q2 q3 q4 q5 => by rw [xup_ne q5, xup_ne q4]; exact g1 c q1 q2 q3)
  show Post ((xup (xup N 10 4 0) 12 7 0) 1 2 - 1) _
  rw [xup_ne (by decide), xup_ne (by decide), g2, Int.add_sub_cancel]
  exact hfin
theorem k_X5_trace {l : Launch} {D : va_G} {T : Nat → ClassId} {ad : Nat → Nat} (hO : xOk ad LX) : xMet l D T ad LX yX5_trace cX5_trace 2 (some .int) false 4 sp_X5_trace :=
  xmet0 (rt := 1) (fld := fldX5) (cals := (calX5_trace sp_X2_traces sp_X2_length sp_X2_hopAt sp_X2_keepHand sp_X5_forgetAnswers)) (cst := []) (I := iX5_trace) (cut := cutX5_trace) hO (by decide +kernel) ⟨by decide, by decide, by decide⟩ oX5_trace foX5 (fun _ h => absurd h List.not_mem_nil) (List.forall_mem_cons.mpr ⟨⟨yX2_traces, cX2_traces, 1, (some .int), 0, 0, by decide, yoX2_traces, k_X2_traces hO, loX5_73, Or.inr ⟨rfl, rfl, 1, 2, [some 2, some 3, none], TX2, 3, rfl, rfl, spV0_r⟩⟩, List.forall_mem_cons.mpr ⟨⟨yX2_length, cX2_length, 2, (some .int), 0, 1, by decide, yoX2_length, k_X2_length hO, loX5_54, Or.inr ⟨rfl, rfl, 1, 2, [some 2, some 3, none], TX2, 3, rfl, rfl, spV1_r⟩⟩, List.forall_mem_cons.mpr ⟨⟨yX2_hopAt, cX2_hopAt, 4, (some .int), 0, 2, by decide, yoX2_hopAt, k_X2_hopAt hO, loX5_76, Or.inr ⟨rfl, rfl, 1, 2, [some 2, some 3, none], TX2, 3, rfl, rfl, spV2_r⟩⟩, List.forall_mem_cons.mpr ⟨⟨yX2_keepHand, cX2_keepHand, 1, none, 3, 0, by decide, yoX2_keepHand, k_X2_keepHand hO, loX5_80, Or.inr ⟨rfl, rfl, 1, 2, [some 2, some 3, none], TX2, 3, rfl, rfl, spV0_r⟩⟩, List.forall_mem_cons.mpr ⟨⟨yX5_forgetAnswers, cX5_forgetAnswers, 1, none, 1, 0, by decide, yoX5_forgetAnswers, k_X5_forgetAnswers hO, loX5_83, Or.inr ⟨rfl, rfl, 0, 5, [some 1, some 4, some 10, some 12], TX5, 4, rfl, rfl, spV0_r⟩⟩, fun _ h => absurd h List.not_mem_nil⟩⟩⟩⟩⟩) b_X5_trace
theorem sS_shift {M N : xM} {t0 : Int} (h0 : 0 ≤ t0) (hl : ∀ t, 0 ≤ t → t < 7 → 0 ≤ M 3 t) : ∀ k : Nat, (k : Int) ≤ 5 → (∀ t, 0 ≤ t → t < t0 → t < (k : Int) → rowEq M t N t) → (∀ t, t0 ≤ t → t < (k : Int) → rowEq M (t + 1) N t) → ((k : Int) ≤ t0 → sS (N 2) (N 3) k = sS (M 2) (M 3) k) ∧ (t0 < (k : Int) → sS (N 2) (N 3) k + cS (M 2) (t0 * 6) (M 3 t0).toNat = sS (M 2) (M 3) (k + 1)) := by
  intro k
  induction k with
  | zero => intro _ _ _; exact ⟨fun _ => rfl, fun q => by omega⟩
  | succ k ih =>
    intro hk h1 h2
    have ih' := ih (by omega) (fun t a b c => h1 t a b (by omega)) (fun t a b => h2 t a (by omega))
    refine ⟨fun q => ?_, fun q => ?_⟩
    · have := ih'.1 (by omega)
      simp only [sS]
      rw [this, cS_row (h1 k (by omega) (by omega) (by omega)) (hl k (by omega) (by omega))]
    · have hr := h2 k (by omega) (by omega)
      have hc := cS_row hr (hl (k + 1) (by omega) (by omega))
      have e1 : sS (M 2) (M 3) (k + 1 + 1) = sS (M 2) (M 3) (k + 1) + cS (M 2) (((k + 1 : Nat) : Int) * 6) (M 3 ((k + 1 : Nat) : Int)).toNat := rfl
      have e2 : sS (N 2) (N 3) (k + 1) = sS (N 2) (N 3) k + cS (N 2) ((k : Int) * 6) (N 3 k).toNat := rfl
      have e3 : ((k + 1 : Nat) : Int) = (k : Int) + 1 := by omega
      rw [e1, e2, e3, hc]
      by_cases ht : t0 < (k : Int)
      · have := ih'.2 ht
        omega
      · have htk : t0 = k := by omega
        have h3 := ih'.1 (by omega)
        have e4 : sS (M 2) (M 3) (k + 1) = sS (M 2) (M 3) k + cS (M 2) ((k : Int) * 6) (M 3 k).toNat := rfl
        rw [e4, htk]
        omega
def f_X5_forget (t0 : Int) (M : xM) (Post : xR) : Prop := rg t0 ∧ IX M ∧ (¬ (0 ≤ t0 ∧ t0 < M 1 2) → Post (-2) M) ∧ (0 ≤ t0 → t0 < M 1 2 → ∀ M' : xM, IX M' → M' 1 2 = M 1 2 - 1 → rowEq M 6 M' 6 → (∀ t, 0 ≤ t → t < t0 → rowEq M t M' t) → (∀ t, t0 ≤ t → t < M 1 2 - 1 → rowEq M (t + 1) M' t) → (∀ c, c ≠ 1 → c ≠ 2 → c ≠ 3 → c ≠ 10 → c ≠ 12 → M' c = M c) → Post (M 1 2 - 1) M')
abbrev sp_X5_forget : xT := spV1 0 f_X5_forget
set_option maxRecDepth 100000 in
set_option maxHeartbeats 4000000 in
theorem b_X5_forget (as : List xV) (M : xM) (Post : xR) (h : sp_X5_forget as M Post) : as.length ≤ 2 ∧ xw LX fldX5 (calX5_forget sp_X5_isTrace sp_X2_remove sp_X5_forgetAnswers sp_X2_traces) [] 1 Post iX5_forget cutX5_forget (fun _ _ _ _ => False) 400 0 (xlv as 2) [] M := by
  obtain ⟨v1, rfl, h⟩ := h
  refine ⟨by simp, ?_⟩
  refine Eq.mpr (vcX5_forget_0 ..) ?_
  obtain ⟨h1, hI, p1, p2⟩ := h
  have hn := hI.1.1.1
  refine ⟨_, rfl, h1, hn, fun r hr => ⟨⟨by omega, by omega⟩, fun q => ?_, fun q => p1 (by omega)⟩⟩
  have ht : 0 ≤ v1 ∧ v1 < M 1 2 := by omega
  refine ⟨_, rfl, hI.1.1, ht, fun N hR g1 g2 g3 g4 g5 => ⟨rfl, rfl, ?_⟩⟩
  have hl7 : ∀ t, 0 ≤ t → t < 7 → 0 ≤ M 3 t := fun t a b => (hI.1.1.2.1 t a b).1
  have hs1 := sS_shift (M := M) (N := N) (t0 := v1) ht.1 hl7 (M 1 2 - 1).toNat (by omega) (fun t a b c => g4 t a b) (fun t a b => g5 t a (by omega))
  have e1 : (M 1 2 - 1).toNat + 1 = (M 1 2).toNat := by omega
  have hle : sS (N 2) (N 3) (N 1 2).toNat ≤ sS (M 2) (M 3) (M 1 2).toNat := by
    rw [g2]
    by_cases hv : v1 < (((M 1 2 - 1).toNat : Nat) : Int)
    · have := hs1.2 hv
      rw [e1] at this
      have := cS_b (M 2) (v1 * 6) (M 3 v1).toNat
      omega
    · rw [hs1.1 (by omega)]
      exact sS_mono _ _ (by omega)
  have h4 := hI.2.1
  unfold hdX at h4
  have hc6 : cS (N 2) 36 (N 3 6).toNat = cS (M 2) 36 (M 3 6).toNat := cS_row g3 (hl7 6 (by omega) (by omega))
  have hIn := IX_new (M := M) (N := N) hR (by unfold wT; rw [g1 5 (by decide) (by decide) (by decide), g1 6 (by decide) (by decide) (by decide)]; exact hI.1.2.1) (by have := hI.1.2.2.1; omega) (fun t a b => by
    rw [g2] at b
    have key : ∀ u, 0 ≤ u → u < M 1 2 → rowEq M u N t → 2 ≤ N 3 t ∧ N 2 (t * 6) ≠ -1 ∧ N 2 (t * 6 + (N 3 t - 1)) ≠ -1 := fun u u0 u1 hr => by
      have hz := hI.1.2.2.2 u u0 u1
      have e0 := hr.2 0 (by omega) (by omega)
      have e1 := hr.2 (M 3 u - 1) (by omega) (by omega)
      rw [Int.add_zero, Int.add_zero] at e0
      rw [hr.1, e0, e1]
      exact hz
    by_cases htv : t < v1
    · exact key t a (by omega) (g4 t a htv)
    · exact key (t + 1) (by omega) (by omega) (g5 t (by omega) b)) (by rw [hc6]; omega)
  have hfin := p2 ht.1 ht.2 _ hIn (by rw [xup_ne (by decide), xup_ne (by decide)]; exact g2) ⟨by rw [xup_ne (by decide), xup_ne (by decide)]; exact g3.1, fun i a b => by rw [xup_ne (by decide), xup_ne (by decide)]; exact g3.2 i a b⟩ (fun t a b => ⟨by rw [xup_ne (by decide), xup_ne (by decide)]; exact (g4 t a b).1, fun i c d => by rw [xup_ne (by decide), xup_ne (by decide)]; exact (g4 t a b).2 i c d⟩) (fun t a b => ⟨by rw [xup_ne (by decide), xup_ne (by decide)]; exact (g5 t a b).1, fun i c d => by rw [xup_ne (by decide), xup_ne (by decide)]; exact (g5 t a b).2 i c d⟩) (fun c q1 q2 q3 q4 q5 => by rw [xup_ne q5, xup_ne q4]; exact g1 c q1 q2 q3)
  show Post ((xup (xup N 10 4 0) 12 7 0) 1 2) _
  rw [xup_ne (by decide), xup_ne (by decide), g2]
  exact hfin
theorem k_X5_forget {l : Launch} {D : va_G} {T : Nat → ClassId} {ad : Nat → Nat} (hO : xOk ad LX) : xMet l D T ad LX yX5_forget cX5_forget 2 (some .int) false 4 sp_X5_forget :=
  xmet0 (rt := 1) (fld := fldX5) (cals := (calX5_forget sp_X5_isTrace sp_X2_remove sp_X5_forgetAnswers sp_X2_traces)) (cst := []) (I := iX5_forget) (cut := cutX5_forget) hO (by decide +kernel) ⟨by decide, by decide, by decide⟩ oX5_forget foX5 (fun _ h => absurd h List.not_mem_nil) (List.forall_mem_cons.mpr ⟨⟨yX5_isTrace, cX5_isTrace, 2, (some .boolean), 1, 1, by decide, yoX5_isTrace, k_X5_isTrace hO, loX5_86, Or.inr ⟨rfl, rfl, 0, 5, [some 1, some 4, some 10, some 12], TX5, 4, rfl, rfl, spV1_r⟩⟩, List.forall_mem_cons.mpr ⟨⟨yX2_remove, cX2_remove, 3, none, 3, 1, by decide, yoX2_remove, k_X2_remove hO, loX5_89, Or.inr ⟨rfl, rfl, 1, 2, [some 2, some 3, none], TX2, 3, rfl, rfl, spV1_r⟩⟩, List.forall_mem_cons.mpr ⟨⟨yX5_forgetAnswers, cX5_forgetAnswers, 1, none, 1, 0, by decide, yoX5_forgetAnswers, k_X5_forgetAnswers hO, loX5_83, Or.inr ⟨rfl, rfl, 0, 5, [some 1, some 4, some 10, some 12], TX5, 4, rfl, rfl, spV0_r⟩⟩, List.forall_mem_cons.mpr ⟨⟨yX2_traces, cX2_traces, 1, (some .int), 0, 0, by decide, yoX2_traces, k_X2_traces hO, loX5_73, Or.inr ⟨rfl, rfl, 1, 2, [some 2, some 3, none], TX2, 3, rfl, rfl, spV0_r⟩⟩, fun _ h => absurd h List.not_mem_nil⟩⟩⟩⟩) b_X5_forget

