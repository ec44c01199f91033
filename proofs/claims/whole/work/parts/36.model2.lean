/-! the reference: trace, untell -/
def f_X6_trace (M : xM) (Post : xR) : Prop := wM M ∧ (6 ≤ M 0 0 → Post (-5) M) ∧ (M 0 0 < 6 → ¬ (2 ≤ M 0 3 ∧ M 3 0 ≠ -1 ∧ M 3 (M 0 3 - 1) ≠ -1) → Post (-6) M) ∧ (M 0 0 < 6 → 2 ≤ M 0 3 ∧ M 3 0 ≠ -1 ∧ M 3 (M 0 3 - 1) ≠ -1 → ∀ M' : xM, M' 0 0 = M 0 0 + 1 → M' 0 3 = 0 → M' 0 7 = M 0 7 → M' 1 (M 0 0) = M 0 3 → (∀ t, t ≠ M 0 0 → M' 1 t = M 1 t) → (∀ i, 0 ≤ i → i < M 0 3 → M' 2 (M 0 0 * 6 + i) = M 3 i) → (∀ q, q < M 0 0 * 6 → M' 2 q = M 2 q) → (∀ q, 0 ≤ q → q < 36 → -1 ≤ M' 2 q ∧ M' 2 q ≤ 5) → (∀ c, c ≠ 0 → c ≠ 1 → c ≠ 2 → M' c = M c) → Post (M 0 0) M')
abbrev sp_X6_trace : xT := spV0 0 f_X6_trace
set_option maxRecDepth 100000 in
set_option maxHeartbeats 4000000 in
theorem b_X6_trace (as : List xV) (M : xM) (Post : xR) (h : sp_X6_trace as M Post) : as.length ≤ 2 ∧ ∃ (Inv : xG) (μ : Nat → xL → List xV → xM → Nat) (f0 f1 : Nat), xw LM fldX6 calX6_trace [] 1 Post iX6_trace cutX6_trace Inv f0 0 (xlv as 2) [] M ∧ ∀ pc lv st M', Inv pc lv st M' → xw LM fldX6 calX6_trace [] 1 Post iX6_trace cutX6_trace (fun pc2 lv2 st2 M2 => Inv pc2 lv2 st2 M2 ∧ μ pc2 lv2 st2 M2 < μ pc lv st M') f1 pc lv st M' := by
  obtain ⟨rfl, h⟩ := h
  refine ⟨by simp, (fun pc lv st N => ∃ (i : Int), pc = 50 ∧ lv = [some (.inr 0), some (.inl i)] ∧ st = [] ∧ (0 ≤ i ∧ i ≤ M 0 3) ∧ M 0 0 < 6 ∧ (2 ≤ M 0 3 ∧ M 3 0 ≠ -1 ∧ M 3 (M 0 3 - 1) ≠ -1) ∧ (∀ c, c ≠ 2 → N c = M c) ∧ (∀ j, 0 ≤ j → j < i → N 2 (M 0 0 * 6 + j) = M 3 j) ∧ (∀ q, q < M 0 0 * 6 → N 2 q = M 2 q) ∧ ∀ q, 0 ≤ q → q < 36 → -1 ≤ N 2 q ∧ N 2 q ≤ 5), (fun pc lv st N => match lv with | [_, some (.inl i)] => (10 - i).toNat | _ => 0), 400, 400, Eq.mpr (vcX6_trace_0 ..) ?_, ?_⟩
  · obtain ⟨hw, p1, p2, p3⟩ := h
    have hn := hw.1
    have hh := hw.2.2.2.1
    have b0 := hw.2.2.2.2.1 0 (by omega) (by omega)
    refine ⟨⟨by omega, by omega⟩, ⟨by omega, by omega⟩, fun q => ⟨⟨by omega, by omega⟩, ⟨by omega, by omega⟩, fun q1 => p2 (by omega) (fun z => by omega), fun q1 => ?_⟩, fun q => p1 (by omega)⟩
    have b1 := hw.2.2.2.2.1 (M 0 3 - 1) (by omega) (by omega)
    exact ⟨⟨by omega, by omega⟩, ⟨by omega, by omega⟩, ⟨by omega, by omega⟩, fun q2 => p2 (by omega) (fun z => z.2.1 q2), fun q2 => ⟨⟨by omega, by omega⟩, ⟨by omega, by omega⟩, ⟨by omega, by omega⟩, fun q3 => ⟨0, rfl, rfl, rfl, by omega, by omega, ⟨q1, q2, q3⟩, fun _ _ => rfl, fun j _ _ => by omega, fun _ _ => rfl, hw.2.2.1⟩, fun q3 => p2 (by omega) (fun z => z.2.2 q3)⟩⟩
  · obtain ⟨hw, p1, p2, p3⟩ := h
    have hn := hw.1
    have hh := hw.2.2.2.1
    rintro pc lv st N ⟨i, rfl, rfl, rfl, h1, h2, h3, h4, h5, h6, h7⟩
    refine Eq.mpr (vcX6_trace_50 ..) ?_
    have e0 : N 0 = M 0 := h4 0 (by decide)
    have e3 : N 3 = M 3 := h4 3 (by decide)
    have e1 : N 1 = M 1 := h4 1 (by decide)
    rw [e0, e3]
    refine ⟨⟨by omega, by omega⟩, ⟨by omega, by omega⟩, fun q => ⟨⟨by omega, by omega⟩, ?_⟩, fun q => ⟨⟨by omega, by omega⟩, ⟨by omega, by omega⟩, ⟨i + 1, rfl, rfl, rfl, by omega, h2, h3, fun c hc => by rw [xup_ne hc]; exact h4 c hc, fun j a b => ?_, fun u hu => ?_, fun u a b => ?_⟩, by (change Int.toNat _ < Int.toNat _); omega⟩⟩
    · have x0 : (xup (xup N 1 (M 0 0) (M 0 3)) 0 3 0) 0 0 = M 0 0 := by rw [xup_at, if_neg (by decide), xup_ne (by decide), e0]
      rw [x0, xup_at, if_pos rfl, Int.add_sub_cancel]
      refine p3 h2 h3 _ (by rw [xup_at, if_pos rfl]) (by rw [xup_at, if_neg (by decide), xup_at, if_pos rfl]) (by rw [xup_at, if_neg (by decide), xup_at, if_neg (by decide), xup_ne (by decide), e0]) (by rw [xup_ne (by decide), xup_ne (by decide), xup_at, if_pos rfl]) (fun t ht => by rw [xup_ne (by decide), xup_ne (by decide), xup_at, if_neg ht, e1]) (fun j a b => by rw [xup_ne (by decide), xup_ne (by decide), xup_ne (by decide)]; exact h5 j a (by omega)) (fun u hu => by rw [xup_ne (by decide), xup_ne (by decide), xup_ne (by decide)]; exact h6 u hu) (fun u a b => by rw [xup_ne (by decide), xup_ne (by decide), xup_ne (by decide)]; exact h7 u a b) (fun c c0 c1 c2 => by rw [xup_ne c0, xup_ne c0, xup_ne c1]; exact h4 c c2)
    · rw [xup_at]
      by_cases hj : j = i
      · rw [if_pos (by omega), hj]
      · rw [if_neg (by omega)]; exact h5 j a (by omega)
    · rw [xup_at, if_neg (by omega)]; exact h6 u hu
    · rw [xup_at]
      split
      · exact hw.2.2.2.2.1 i (by omega) (by omega)
      · exact h7 u a b
theorem k_X6_trace {l : Launch} {D : va_G} {T : Nat → ClassId} {ad : Nat → Nat} (hO : xOk ad LM) : xMet l D T ad LM yX6_trace cX6_trace 2 (some .int) false 0 sp_X6_trace :=
  xmet (rt := 1) (fld := fldX6) (cals := calX6_trace) (cst := []) (I := iX6_trace) (cut := cutX6_trace) hO (by decide +kernel) ⟨by decide, by decide, by decide⟩ oX6_trace foX6 (fun _ h => absurd h List.not_mem_nil) (fun _ h => absurd h List.not_mem_nil) b_X6_trace
def f_X6_untell (M : xM) (Post : xR) : Prop := ∀ M' : xM, (∀ k, k ≠ 7 → M' 0 k = M 0 k) → M' 0 7 = 0 → (∀ n, 0 ≤ n → n < 6 → M' 4 n = n) → (∀ k, 0 ≤ k → k < 36 → M' 5 k = 0) → (∀ c, c ≠ 0 → c ≠ 4 → c ≠ 5 → M' c = M c) → Post (M 0 7) M'
abbrev sp_X6_untell : xT := spV0 0 f_X6_untell
set_option maxRecDepth 100000 in
set_option maxHeartbeats 4000000 in
theorem b_X6_untell (as : List xV) (M : xM) (Post : xR) (h : sp_X6_untell as M Post) : as.length ≤ 3 ∧ ∃ (Inv : xG) (μ : Nat → xL → List xV → xM → Nat) (f0 f1 : Nat), xw LM fldX6 calX6_untell [] 1 Post iX6_untell cutX6_untell Inv f0 0 (xlv as 3) [] M ∧ ∀ pc lv st M', Inv pc lv st M' → xw LM fldX6 calX6_untell [] 1 Post iX6_untell cutX6_untell (fun pc2 lv2 st2 M2 => Inv pc2 lv2 st2 M2 ∧ μ pc2 lv2 st2 M2 < μ pc lv st M') f1 pc lv st M' := by
  obtain ⟨rfl, h⟩ := h
  refine ⟨by simp, (fun pc lv st N => (∃ (i : Int), pc = 12 ∧ lv = [some (.inr 0), some (.inl (M 0 7)), some (.inl i)] ∧ st = [] ∧ (0 ≤ i ∧ i ≤ 6) ∧ (∀ k, k ≠ 7 → N 0 k = M 0 k) ∧ N 0 7 = 0 ∧ (∀ c, c ≠ 0 → c ≠ 4 → N c = M c) ∧ ∀ n, 0 ≤ n → n < i → N 4 n = n) ∨ (∃ (i : Int), pc = 33 ∧ lv = [some (.inr 0), some (.inl (M 0 7)), some (.inl i)] ∧ st = [] ∧ (0 ≤ i ∧ i ≤ 36) ∧ (∀ k, k ≠ 7 → N 0 k = M 0 k) ∧ N 0 7 = 0 ∧ (∀ c, c ≠ 0 → c ≠ 4 → c ≠ 5 → N c = M c) ∧ (∀ n, 0 ≤ n → n < 6 → N 4 n = n) ∧ ∀ k, 0 ≤ k → k < i → N 5 k = 0)), (fun pc lv st N => match pc, lv with | 12, [_, _, some (.inl i)] => (200 - i).toNat | 33, [_, _, some (.inl i)] => (100 - i).toNat | _, _ => 0), 400, 400, Eq.mpr (vcX6_untell_0 ..) ?_, ?_⟩
  · exact Or.inl ⟨0, rfl, rfl, rfl, by omega, fun k hk => by rw [xup_at, if_neg hk], by rw [xup_at, if_pos rfl], fun c c0 _ => xup_ne c0, fun n _ _ => by omega⟩
  · rintro pc lv st N (⟨i, rfl, rfl, rfl, h1, h2, h3, h4, h5⟩ | ⟨i, rfl, rfl, rfl, h1, h2, h3, h4, h5, h6⟩)
    · refine Eq.mpr (vcX6_untell_12 ..) ?_
      refine ⟨⟨by omega, by omega⟩, ⟨by omega, by omega⟩, fun q => ⟨Or.inr ⟨0, rfl, rfl, rfl, by omega, h2, h3, fun c c0 c4 _ => h4 c c0 c4, fun n a b => h5 n a (by omega), fun k _ _ => by omega⟩, by (change Int.toNat _ < Int.toNat _); omega⟩, fun q => ⟨⟨by omega, by omega⟩, Or.inl ⟨i + 1, rfl, rfl, rfl, by omega, fun k hk => by rw [xup_ne (by decide)]; exact h2 k hk, by rw [xup_ne (by decide)]; exact h3, fun c c0 c4 => by rw [xup_ne c4]; exact h4 c c0 c4, fun n a b => ?_⟩, by (change Int.toNat _ < Int.toNat _); omega⟩⟩
      rw [xup_at]
      split
      · omega
      · exact h5 n a (by omega)
    · refine Eq.mpr (vcX6_untell_33 ..) ?_
      refine ⟨⟨by omega, by omega⟩, ⟨by omega, by omega⟩, fun q => h N h2 h3 h5 (fun k a b => h6 k a (by omega)) h4, fun q => ⟨⟨by omega, by omega⟩, by omega, Or.inr ⟨i + 1, rfl, rfl, rfl, by omega, fun k hk => by rw [xup_ne (by decide)]; exact h2 k hk, by rw [xup_ne (by decide)]; exact h3, fun c c0 c4 c5 => by rw [xup_ne c5]; exact h4 c c0 c4 c5, fun n a b => by rw [xup_ne (by decide)]; exact h5 n a b, fun k a b => ?_⟩, by (change Int.toNat _ < Int.toNat _); omega⟩⟩
      rw [xup_at]
      split
      · rfl
      · exact h6 k a (by omega)
theorem k_X6_untell {l : Launch} {D : va_G} {T : Nat → ClassId} {ad : Nat → Nat} (hO : xOk ad LM) : xMet l D T ad LM yX6_untell cX6_untell 3 (some .int) false 0 sp_X6_untell :=
  xmet (rt := 1) (fld := fldX6) (cals := calX6_untell) (cst := []) (I := iX6_untell) (cut := cutX6_untell) hO (by decide +kernel) ⟨by decide, by decide, by decide⟩ oX6_untell foX6 (fun _ h => absurd h List.not_mem_nil) (fun _ h => absurd h List.not_mem_nil) b_X6_untell

