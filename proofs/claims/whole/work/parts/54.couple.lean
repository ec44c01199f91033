/-! the two objects side by side: what ties them, and that every call keeps it and answers alike -/
def CP (M N : xM) : Prop := IX M ∧ wM N ∧ ap01 N ∧ eqS (SX M) (SM N) ∧ M 3 6 = N 0 3 ∧ (∀ i, 0 ≤ i → i < M 3 6 → M 2 (36 + i) = N 3 i) ∧ (∀ a b, 0 ≤ a → a < 6 → 0 ≤ b → b < 6 → (tb (M 6 a) b ↔ N 5 (6 * a + b) ≠ 0)) ∧ M 4 2 = N 0 7
theorem eqS.symm {S S' : dS} (h : eqS S S') : eqS S' S := by
  obtain ⟨h1, h2, h3, h4⟩ := h
  refine ⟨h1.symm, fun t a b => (h2 t a (by rw [h1]; exact b)).symm, fun t i a b c d => ?_, fun n a b => (h4 n a b).symm⟩
  rw [← h1] at b
  rw [← h2 t a b] at d
  exact (h3 t i a b c d).symm
theorem eqS.trans {S S' S'' : dS} (h : eqS S S') (g : eqS S' S'') : eqS S S'' := by
  obtain ⟨h1, h2, h3, h4⟩ := h
  obtain ⟨g1, g2, g3, g4⟩ := g
  refine ⟨h1.trans g1, fun t a b => (h2 t a b).trans (g2 t a (by rw [← h1]; exact b)), fun t i a b c d => ?_, fun n a b => (h4 n a b).trans (g4 n a b)⟩
  rw [h3 t i a b c d]
  exact g3 t i a (by rw [← h1]; exact b) c (by rw [← h2 t a b]; exact d)
theorem eqS.rf (S : dS) : eqS S S := ⟨rfl, fun _ _ _ => rfl, fun _ _ _ _ _ _ => rfl, fun _ _ _ => rfl⟩
theorem eqS.wf {S S' : dS} (h : eqS S S') (hw : wfS S) : wfS S' := by
  have hs := h.sS_e hw.len0 S.1.toNat (by have := hw.1; omega)
  obtain ⟨w1, w2, w3, w4, w5⟩ := hw
  obtain ⟨h1, h2, h3, h4⟩ := h
  refine ⟨by rw [← h1]; exact w1, fun t a b => ?_, fun t i a b c d => ?_, fun n a b => ?_, by rw [← h1, ← hs]; exact w5⟩
  · rw [← h1] at b
    obtain ⟨x1, x2, x3⟩ := w2 t a b
    have e0 := h3 t 0 a b (by omega) (by omega)
    rw [Int.add_zero] at e0
    have e1 := h3 t (S.2.1 t - 1) a b (by omega) (by omega)
    rw [← h2 t a b, ← e0, ← e1]
    exact ⟨x1, x2, x3⟩
  · rw [← h1] at b
    rw [← h2 t a b] at d
    rw [← h3 t i a b c d]
    exact w3 t i a b c d
  · rw [← h4 n a b]
    exact w4 n a b
theorem CP.wf {M N : xM} (h : CP M N) : wfS (SM N) := h.2.2.2.1.wf (wfS_of h.1.1)
/-- a question: both stay as they were -/
theorem CP.q {M N M' N' : xM} (h : CP M N) (f8 : ∀ c, c < 8 → M' c = M c) (hI : IX M') (f : fM N N') : CP M' N' := by
  obtain ⟨h1, h2, h3, h4, h5, h6, h7, h8⟩ := h
  have f5 := f.2 5 (by decide) (by decide)
  refine ⟨hI, by rw [f.sM.wM_e]; exact h2, by unfold ap01; rw [f5]; exact h3, by rw [SX_8 f8, f.sM.SM_e]; exact h4, by rw [f8 3 (by decide), f.1 3 (by decide)]; exact h5, ?_, ?_, by rw [f8 4 (by decide), f.1 7 (by decide)]; exact h8⟩
  · rw [f8 3 (by decide), f8 2 (by decide), f.2 3 (by decide) (by decide)]; exact h6
  · rw [f8 6 (by decide), f5]; exact h7
theorem cp_nets {M N : xM} (h : CP M N) : f_X5_nets M (fun r M' => f_X6_nets N (fun r' N' => r' = r ∧ CP M' N')) := by
  refine ⟨h.1, fun M' f8 hI => ⟨h.2.1, h.wf, fun N' f => ⟨?_, h.q f8 hI f⟩⟩⟩
  rw [h.2.2.2.1.LN_e (wfS_of h.1.1)]
theorem cp_shape {M N : xM} (h : CP M N) {w : Int} (hr : rg w) : f_X5_shape w M (fun r M' => f_X6_shape w N (fun r' N' => r' = r ∧ CP M' N')) := by
  refine ⟨hr, h.1, fun M' f8 hI => ⟨hr, h.2.1, h.wf, fun N' f => ⟨?_, h.q f8 hI f⟩⟩⟩
  unfold shA
  rw [h.2.2.2.1.LN_e (wfS_of h.1.1), h.2.2.2.1.nbx_e]
theorem cp_boxOf {M N : xM} (h : CP M N) {k s : Int} (hk : rg k) (hs : rg s) : f_X5_boxOf k s M (fun r M' => f_X6_boxOf k s N (fun r' N' => r' = r ∧ CP M' N')) := by
  refine ⟨hk, hs, h.1, fun M' f8 hI => ⟨hk, hs, h.2.1, h.wf, fun N' f => ⟨?_, h.q f8 hI f⟩⟩⟩
  unfold bxA
  rw [h.2.2.2.1.LN_e (wfS_of h.1.1), h.2.2.2.1.mS_e (wfS_of h.1.1)]
theorem farR_e {S S' : dS} (h : eqS S S') (hw : wfS S) {k a b v : Int} (hf : farR S k a b v) : farR S' k a b v := by
  unfold farR okF lnK at hf ⊢
  rw [← h.LN_e hw, ← h.nm_e]
  rcases hf with z | z | ⟨z1, z2, z3⟩
  · exact Or.inl z
  · exact Or.inr (Or.inl z)
  · refine Or.inr (Or.inr ⟨z1, z2, ?_⟩)
    rw [← h.Adj_e hw, ← h.2.2.2 a z2.2.1.1.1 z2.2.1.1.2, ← h.2.2.2 b z2.2.2.1.1 z2.2.2.1.2]
    exact z3
theorem farR_u {S : dS} {k a b v w : Int} (h1 : farR S k a b v) (h2 : farR S k a b w) : v = w := by
  rcases h1 with ⟨x, y⟩ | ⟨x, y, z⟩ | ⟨x, y, z⟩ <;> rcases h2 with ⟨x', y'⟩ | ⟨x', y', z'⟩ | ⟨x', y', z'⟩
  · omega
  · exact (x' x).elim
  · exact (x' x).elim
  · exact (x x').elim
  · omega
  · exact (y y').elim
  · exact (x x').elim
  · exact (y' y).elim
  · exact isD_uniq z z'
theorem cp_far {M N : xM} (h : CP M N) {k a b : Int} (hk : rg k) (ha : rg a) (hb : rg b) : f_X5_far k a b M (fun r M' => f_X6_far k a b N (fun r' N' => r' = r ∧ CP M' N')) := by
  refine ⟨hk, ha, hb, h.1, fun v hv M' f8 hI => ⟨hk, ha, hb, h.2.1, h.wf, fun w hw N' f => ⟨?_, h.q f8 hI f⟩⟩⟩
  exact farR_u hw (farR_e h.2.2.2.1 (wfS_of h.1.1) hv)
theorem surR_e {S S' : dS} (h : eqS S S') (hw : wfS S) {a b v : Int} (hf : surR S a b v) : surR S' a b v := by
  unfold surR okS evL alL at hf ⊢
  rw [← h.LN_e hw, ← h.nm_e]
  rcases hf with z | z | ⟨z1, z2, z3⟩
  · exact Or.inl z
  · exact Or.inr (Or.inl z)
  · refine Or.inr (Or.inr ⟨z1, z2, ?_⟩)
    have e : ∀ A, Adj S' all0 (plL S' A) = Adj S all0 (plL S A) := fun A => (h.Adj_e hw A).symm
    simp only [e]
    rw [← h.2.2.2 a z2.1.1.1 z2.1.1.2, ← h.2.2.2 b z2.2.1.1 z2.2.1.2]
    exact z3
theorem surR_u {S : dS} {a b v w : Int} (h1 : surR S a b v) (h2 : surR S a b w) : v = w := by
  rcases h1 with ⟨x, y⟩ | ⟨x, y, z⟩ | ⟨x, y, z1, z2, z3, -⟩ <;> rcases h2 with ⟨x', y'⟩ | ⟨x', y', z'⟩ | ⟨x', y', z1', z2', z3', -⟩
  · omega
  · exact (x' x).elim
  · exact (x' x).elim
  · exact (x x').elim
  · omega
  · exact (y y').elim
  · exact (x x').elim
  · exact (y' y).elim
  · by_cases e : evL S a b
    · by_cases f : alL S a b
      · rw [z3 e f, z3' e f]
      · rw [z2 e f, z2' e f]
    · rw [z1 e, z1' e]
theorem cp_sure {M N : xM} (h : CP M N) {a b : Int} (ha : rg a) (hb : rg b) : f_X5_sure a b M (fun r M' => f_X6_sure a b N (fun r' N' => r' = r ∧ CP M' N')) := by
  refine ⟨ha, hb, h.1, fun v hv M' f8 hI => ⟨ha, hb, h.2.1, h.wf, fun w hw N' f => ⟨?_, h.q f8 hI f⟩⟩⟩
  exact surR_u hw (surR_e h.2.2.2.1 (wfS_of h.1.1) hv)
theorem FR_e {S S' : dS} (h : eqS S S') (hw : wfS S) (g : Int) : FR S g ↔ FR S' g := FT_iff h.1 h.2.1 (fun _ _ _ => Iff.rfl) (fun t i a b c d => h.Pl_e hw _ ⟨a, b⟩ ⟨c, d⟩)
theorem flR_e {S S' : dS} (h : eqS S S') (hw : wfS S) {v : Int} (hf : flR S v) : flR S' v := by
  unfold flR allV at hf ⊢
  rw [← h.LN_e hw, ← h.1]
  rcases hf with z | ⟨z1, z2, z3, z4⟩
  · exact Or.inl z
  · exact Or.inr ⟨z1, z2, (FR_e h hw v).mp z3, fun g a b c => z4 g a b ((FR_e h hw g).mpr c)⟩
theorem flR_u {S : dS} {v w : Int} (h1 : flR S v) (h2 : flR S w) : v = w := by
  rcases h1 with ⟨x, y⟩ | ⟨x, y, z, t⟩ <;> rcases h2 with ⟨x', y'⟩ | ⟨x', y', z', t'⟩
  · omega
  · exact (x x').elim
  · exact (x' x).elim
  · have a := t w y'.1 y'.2 z'
    have b := t' v y.1 y.2 z
    omega
theorem cp_falses {M N : xM} (h : CP M N) : f_X5_falses M (fun r M' => f_X6_falses N (fun r' N' => r' = r ∧ CP M' N')) := by
  refine ⟨h.1, fun v hv M' f8 hI => ⟨h.2.1, h.wf, fun w hw N' f => ⟨?_, h.q f8 hI f⟩⟩⟩
  exact flR_u hw (flR_e h.2.2.2.1 (wfS_of h.1.1) hv)
theorem cp_next {M N : xM} (h : CP M N) : f_X5_next M (fun r M' => f_X6_next N (fun r' N' => r' = r ∧ CP M' N')) := by
  refine ⟨h.1, fun M' f8 hI => ⟨h.2.1, h.wf, fun N' f => ⟨?_, h.q f8 hI f⟩⟩⟩
  unfold nxV
  rw [h.2.2.2.1.LN_e (wfS_of h.1.1), h.2.2.2.1.NXT_e (wfS_of h.1.1)]
theorem cp_worst {M N : xM} (h : CP M N) : f_X5_worst M (fun r M' => f_X6_worst N (fun r' N' => r' = r ∧ CP M' N')) := by
  refine ⟨h.1, fun M' f8 hI => ⟨h.2.1, h.wf, fun N' f => ⟨?_, h.q f8 hI f⟩⟩⟩
  unfold woV
  rw [h.2.2.2.1.LN_e (wfS_of h.1.1), h.2.2.2.1.NXT_e (wfS_of h.1.1)]
theorem cp_count {M N : xM} (h : CP M N) {w : Int} (hr : rg w) : f_X5_count w M (fun r M' => f_X6_count w N (fun r' N' => r' = r ∧ CP M' N')) := by
  refine ⟨hr, h.1, hr, h.2.1, ?_, h⟩
  unfold ctA
  rw [h.2.2.2.1.1, h.2.2.2.1.mS_e (wfS_of h.1.1), h.2.2.2.1.nnm_e, h.2.2.2.1.nbx_e, h.2.2.2.2.1]
theorem cp_at {M N : xM} (h : CP M N) {t i : Int} (ht : rg t) (hi : rg i) : f_X5_at t i M (fun r M' => f_X6_at t i N (fun r' N' => r' = r ∧ CP M' N')) := by
  refine ⟨ht, hi, h.1, ht, hi, h.2.1, ?_, h⟩
  obtain ⟨e1, e2, e3, e4⟩ := h.2.2.2.1
  unfold atA
  by_cases hc : (0 ≤ t ∧ t < (SX M).1) ∧ 0 ≤ i ∧ i < (SX M).2.1 t
  · have l := e2 t hc.1.1 hc.1.2
    rw [if_pos hc, if_pos ⟨⟨hc.1.1, by rw [← e1]; exact hc.1.2⟩, hc.2.1, by rw [← l]; exact hc.2.2⟩, e3 t i hc.1.1 hc.1.2 hc.2.1 hc.2.2]
  · rw [if_neg hc, if_neg]
    rintro ⟨⟨a, b⟩, c, d⟩
    rw [← e1] at b
    rw [← e2 t a b] at d
    exact hc ⟨⟨a, b⟩, c, d⟩

