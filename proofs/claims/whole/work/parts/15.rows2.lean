/-! Rows: names, and what changes them -/
theorem h64 : ((2 ^ 6 : Nat) : Int) = 64 := rfl
theorem h1024 : ((2 ^ 10 : Nat) : Int) = 1024 := rfl
def f_X2_names (M : xM) (Post : xR) : Prop := wR M ∧ ∀ x, 0 ≤ x → x < 64 → (∀ n, 0 ≤ n → n < 6 → (tb x n ↔ nmIn M n)) → Post x M
abbrev sp_X2_names : xT := spV0 1 f_X2_names
set_option maxRecDepth 100000 in
set_option maxHeartbeats 4000000 in
theorem b_X2_names (as : List xV) (M : xM) (Post : xR) (h : sp_X2_names as M Post) : as.length ≤ 5 ∧ ∃ (Inv : xG) (μ : Nat → xL → List xV → xM → Nat) (f0 f1 : Nat), xw LX fldX2 (calX2_names sp_X2_length sp_X2_hopAt) [] 1 Post iX2_names cutX2_names Inv f0 0 (xlv as 5) [] M ∧ ∀ pc lv st M', Inv pc lv st M' → xw LX fldX2 (calX2_names sp_X2_length sp_X2_hopAt) [] 1 Post iX2_names cutX2_names (fun pc2 lv2 st2 M2 => Inv pc2 lv2 st2 M2 ∧ μ pc2 lv2 st2 M2 < μ pc lv st M') f1 pc lv st M' := by
  obtain ⟨rfl, h⟩ := h
  refine ⟨by simp, (fun pc lv st N => (∃ (x t : Int) (o3 o4 : Option xV), pc = 4 ∧ lv = [some (.inr 1), some (.inl x), some (.inl t), o3, o4] ∧ st = [] ∧ M = N ∧ 0 ≤ t ∧ t ≤ M 1 2 ∧ 0 ≤ x ∧ x < 64 ∧ ∀ n, 0 ≤ n → n < 6 → (tb x n ↔ ∃ s i, 0 ≤ s ∧ s < t ∧ 0 ≤ i ∧ i < M 3 s ∧ M 2 (s * 6 + i) = n)) ∨ (∃ (x t i : Int) (o4 : Option xV), pc = 14 ∧ lv = [some (.inr 1), some (.inl x), some (.inl t), some (.inl i), o4] ∧ st = [] ∧ M = N ∧ 0 ≤ t ∧ t < M 1 2 ∧ 0 ≤ i ∧ i ≤ M 3 t ∧ 0 ≤ x ∧ x < 64 ∧ ∀ n, 0 ≤ n → n < 6 → (tb x n ↔ (∃ s i, 0 ≤ s ∧ s < t ∧ 0 ≤ i ∧ i < M 3 s ∧ M 2 (s * 6 + i) = n) ∨ ∃ j, 0 ≤ j ∧ j < i ∧ M 2 (t * 6 + j) = n))), (fun pc lv st N => match pc, lv with | 4, [_, _, some (.inl t), _, _] => ((7 - t) * 100).toNat | 14, [_, _, some (.inl t), some (.inl i), _] => ((6 - t) * 100 + 50 - i).toNat | _, _ => 0), 400, 400, Eq.mpr (vcX2_names_0 ..) ?_, ?_⟩
  · obtain ⟨hw, hp⟩ := h
    refine Or.inl ⟨0, 0, none, none, rfl, rfl, rfl, rfl, by omega, hw.1.1, by omega, by omega, fun n h1 h2 => ⟨fun q => (tb_0 n q).elim, ?_⟩⟩
    rintro ⟨s, i, q1, q2, -⟩
    omega
  · obtain ⟨hw, hp⟩ := h
    rintro pc lv st N (⟨x, t, o3, o4, rfl, rfl, rfl, rfl, h1, h2, h3, h4, h5⟩ | ⟨x, t, i, o4, rfl, rfl, rfl, rfl, h1, h2, h3, h4, h5, h6, h7⟩)
    · refine Eq.mpr (vcX2_names_4 ..) ?_
      have hn := hw.1
      refine ⟨⟨by omega, by omega⟩, ⟨by omega, by omega⟩, fun q => ?_, fun q => ⟨Or.inr ⟨x, t, 0, o4, rfl, rfl, rfl, rfl, h1, q, by omega, (hw.2.1 t (by omega) (by omega)).1, h3, h4, fun n q1 q2 => ?_⟩, by (change Int.toNat _ < Int.toNat _); omega⟩⟩
      · refine hp x h3 h4 (fun n q1 q2 => ?_)
        rw [h5 n q1 q2, show t = M 1 2 by omega]
        rfl
      · rw [h5 n q1 q2]
        refine ⟨Or.inl, ?_⟩
        rintro (q3 | ⟨j, q3, q4, -⟩)
        · exact q3
        · omega
    · refine Eq.mpr (vcX2_names_14 ..) ?_
      have hn := hw.1
      have hl := hw.2.1 t (by omega) (by omega)
      refine ⟨_, rfl, ⟨by omega, by omega⟩, ⟨by omega, by omega⟩, ⟨by omega, by omega⟩, fun q => ⟨Or.inl ⟨x, t + 1, _, o4, rfl, rfl, rfl, rfl, by omega, by omega, h5, h6, fun n q1 q2 => ?_⟩, by (change Int.toNat _ < Int.toNat _); omega⟩, fun q => ⟨_, _, rfl, ⟨by omega, by omega⟩, ⟨by omega, by omega⟩, ?_, ⟨by omega, by omega⟩, fun q3 => ⟨Or.inr ⟨_, t, i + 1, _, rfl, rfl, rfl, rfl, h1, h2, by omega, by omega, ?_, ?_, fun n q1 q2 => ?_⟩, by (change Int.toNat _ < Int.toNat _); omega⟩, fun q3 => ⟨Or.inr ⟨_, t, i + 1, _, rfl, rfl, rfl, rfl, h1, h2, by omega, by omega, ?_, ?_, fun n q1 q2 => ?_⟩, by (change Int.toNat _ < Int.toNat _); omega⟩⟩⟩
      · rw [h7 n q1 q2]
        constructor
        · rintro (⟨s, j, a1, a2, a3⟩ | ⟨j, a1, a2, a3⟩)
          · exact ⟨s, j, a1, by omega, a3⟩
          · exact ⟨t, j, h1, by omega, a1, by omega, a3⟩
        · rintro ⟨s, j, a1, a2, a3, a4, a5⟩
          by_cases hs : s = t
          · subst hs
            exact Or.inr ⟨j, a3, by omega, a5⟩
          · exact Or.inl ⟨s, j, a1, by omega, a3, a4, a5⟩
      · have := hw.2.2 (t * 6 + i) (by omega) (by omega)
        exact ⟨by omega, by omega⟩
      all_goals have hh := hw.2.2 (t * 6 + i) (by omega) (by omega)
      · exact (or1 (x := x) (h := M 2 (t * 6 + i)) 6 (by omega) ⟨h5, by rw [h64]; omega⟩ ⟨by omega, by omega⟩).1.1
      · have := (or1 (x := x) (h := M 2 (t * 6 + i)) 6 (by omega) ⟨h5, by rw [h64]; omega⟩ ⟨by omega, by omega⟩).1.2
        rw [h64] at this
        exact this
      · rw [(or1 (x := x) (h := M 2 (t * 6 + i)) 6 (by omega) ⟨h5, by rw [h64]; omega⟩ ⟨by omega, by omega⟩).2 n q1, h7 n q1 q2]
        constructor
        · rintro ((a | ⟨j, a1, a2, a3⟩) | a)
          · exact Or.inl a
          · exact Or.inr ⟨j, a1, by omega, a3⟩
          · exact Or.inr ⟨i, h3, by omega, a.symm⟩
        · rintro (a | ⟨j, a1, a2, a3⟩)
          · exact Or.inl (Or.inl a)
          · by_cases hj : j = i
            · subst hj
              exact Or.inr a3.symm
            · exact Or.inl (Or.inr ⟨j, a1, by omega, a3⟩)
      · rw [or0 ⟨by omega, by omega⟩]; exact h5
      · rw [or0 ⟨by omega, by omega⟩]; exact h6
      · rw [or0 ⟨by omega, by omega⟩, h7 n q1 q2]
        constructor
        · rintro (a | ⟨j, a1, a2, a3⟩)
          · exact Or.inl a
          · exact Or.inr ⟨j, a1, by omega, a3⟩
        · rintro (a | ⟨j, a1, a2, a3⟩)
          · exact Or.inl a
          · by_cases hj : j = i
            · subst hj
              omega
            · exact Or.inr ⟨j, a1, by omega, a3⟩
theorem k_X2_names {l : Launch} {D : va_G} {T : Nat → ClassId} {ad : Nat → Nat} (hO : xOk ad LX) : xMet l D T ad LX yX2_names cX2_names 5 (some .int) false 1 sp_X2_names :=
  xmet (rt := 1) (fld := fldX2) (cals := (calX2_names sp_X2_length sp_X2_hopAt)) (cst := []) (I := iX2_names) (cut := cutX2_names) hO (by decide +kernel) ⟨by decide, by decide, by decide⟩ oX2_names foX2 (fun _ h => absurd h List.not_mem_nil) (List.forall_mem_cons.mpr ⟨⟨yX2_length, cX2_length, 2, (some .int), 0, 1, by decide, yoX2_length, k_X2_length hO, loX2_22, Or.inr ⟨rfl, rfl, 1, 2, [some 2, some 3, none], TX2, 3, rfl, rfl, spV1_r⟩⟩, List.forall_mem_cons.mpr ⟨⟨yX2_hopAt, cX2_hopAt, 4, (some .int), 0, 2, by decide, yoX2_hopAt, k_X2_hopAt hO, loX2_26, Or.inr ⟨rfl, rfl, 1, 2, [some 2, some 3, none], TX2, 3, rfl, rfl, spV2_r⟩⟩, fun _ h => absurd h List.not_mem_nil⟩⟩) b_X2_names
def f_X2_append (r x : Int) (M : xM) (Post : xR) : Prop := (0 ≤ r ∧ r < 7) ∧ (0 ≤ M 3 r ∧ M 3 r < 6) ∧ Post 0 (xup (xup M 2 (r * 6 + M 3 r) x) 3 r (M 3 r + 1))
abbrev sp_X2_append : xT := spV2 1 f_X2_append
set_option maxRecDepth 100000 in
set_option maxHeartbeats 4000000 in
theorem b_X2_append (as : List xV) (M : xM) (Post : xR) (h : sp_X2_append as M Post) : as.length ≤ 5 ∧ xw LX fldX2 (calX2_append sp_X2_length) [] 0 Post iX2_append cutX2_append (fun _ _ _ _ => False) 400 0 (xlv as 5) [] M := by
  obtain ⟨v1, v2, rfl, h⟩ := h
  refine ⟨by simp, ?_⟩
  refine Eq.mpr (vcX2_append_0 ..) ?_
  obtain ⟨h0, h1, hp⟩ := h
  refine ⟨_, rfl, h0, ?_⟩
  simp only [rg]
  grind
theorem k_X2_append {l : Launch} {D : va_G} {T : Nat → ClassId} {ad : Nat → Nat} (hO : xOk ad LX) : xMet l D T ad LX yX2_append cX2_append 5 none true 1 sp_X2_append :=
  xmet0 (rt := 0) (fld := fldX2) (cals := (calX2_append sp_X2_length)) (cst := []) (I := iX2_append) (cut := cutX2_append) hO (by decide +kernel) ⟨by decide, by decide, by decide⟩ oX2_append foX2 (fun _ h => absurd h List.not_mem_nil) (List.forall_mem_cons.mpr ⟨⟨yX2_length, cX2_length, 2, (some .int), 0, 1, by decide, yoX2_length, k_X2_length hO, loX2_22, Or.inr ⟨rfl, rfl, 1, 2, [some 2, some 3, none], TX2, 3, rfl, rfl, spV1_r⟩⟩, fun _ h => absurd h List.not_mem_nil⟩) b_X2_append
def f_X2_empty (r : Int) (M : xM) (Post : xR) : Prop := (0 ≤ r ∧ r < 7) ∧ Post 0 (xup M 3 r 0)
abbrev sp_X2_empty : xT := spV1 1 f_X2_empty
set_option maxRecDepth 100000 in
set_option maxHeartbeats 4000000 in
theorem b_X2_empty (as : List xV) (M : xM) (Post : xR) (h : sp_X2_empty as M Post) : as.length ≤ 2 ∧ xw LX fldX2 calX2_empty [] 0 Post iX2_empty cutX2_empty (fun _ _ _ _ => False) 400 0 (xlv as 2) [] M := by
  obtain ⟨v1, rfl, h⟩ := h
  refine ⟨by simp, ?_⟩
  refine Eq.mpr (vcX2_empty_0 ..) ?_
  obtain ⟨h0, hp⟩ := h
  simp only [rg]
  grind
theorem k_X2_empty {l : Launch} {D : va_G} {T : Nat → ClassId} {ad : Nat → Nat} (hO : xOk ad LX) : xMet l D T ad LX yX2_empty cX2_empty 2 none true 0 sp_X2_empty :=
  xmet0 (rt := 0) (fld := fldX2) (cals := calX2_empty) (cst := []) (I := iX2_empty) (cut := cutX2_empty) hO (by decide +kernel) ⟨by decide, by decide, by decide⟩ oX2_empty foX2 (fun _ h => absurd h List.not_mem_nil) (fun _ h => absurd h List.not_mem_nil) b_X2_empty
def f_X2_copy (a b : Int) (M : xM) (Post : xR) : Prop := wR M ∧ (0 ≤ a ∧ a < 7) ∧ (0 ≤ b ∧ b < 7) ∧ a ≠ b ∧ ∀ M' : xM, wR M' → (∀ c, c ≠ 2 → c ≠ 3 → M' c = M c) → rowEq M a M' b → (∀ t, 0 ≤ t → t < 7 → t ≠ b → rowEq M t M' t) → Post 0 M'
abbrev sp_X2_copy : xT := spV2 1 f_X2_copy
set_option maxRecDepth 100000 in
set_option maxHeartbeats 4000000 in
theorem b_X2_copy (as : List xV) (M : xM) (Post : xR) (h : sp_X2_copy as M Post) : as.length ≤ 5 ∧ ∃ (Inv : xG) (μ : Nat → xL → List xV → xM → Nat) (f0 f1 : Nat), xw LX fldX2 (calX2_copy sp_X2_length sp_X2_empty sp_X2_hopAt sp_X2_append) [] 0 Post iX2_copy cutX2_copy Inv f0 0 (xlv as 5) [] M ∧ ∀ pc lv st M', Inv pc lv st M' → xw LX fldX2 (calX2_copy sp_X2_length sp_X2_empty sp_X2_hopAt sp_X2_append) [] 0 Post iX2_copy cutX2_copy (fun pc2 lv2 st2 M2 => Inv pc2 lv2 st2 M2 ∧ μ pc2 lv2 st2 M2 < μ pc lv st M') f1 pc lv st M' := by
  obtain ⟨v1, v2, rfl, h⟩ := h
  refine ⟨by simp, (fun pc lv st N => ∃ (i : Int), pc = 14 ∧ lv = [some (.inr 1), some (.inl v1), some (.inl v2), some (.inl (M 3 v1)), some (.inl i)] ∧ st = [] ∧ 0 ≤ i ∧ i ≤ M 3 v1 ∧ (∀ c, c ≠ 2 → c ≠ 3 → N c = M c) ∧ N 3 v2 = i ∧ (∀ t, t ≠ v2 → N 3 t = M 3 t) ∧ (∀ q, ¬ (v2 * 6 ≤ q ∧ q < v2 * 6 + 6) → N 2 q = M 2 q) ∧ (∀ j, 0 ≤ j → j < i → N 2 (v2 * 6 + j) = M 2 (v1 * 6 + j)) ∧ ∀ q, 0 ≤ q → q < 42 → -1 ≤ N 2 q ∧ N 2 q ≤ 5), (fun pc lv st N => match lv with | [_, _, _, _, some (.inl i)] => (10 - i).toNat | _ => 0), 400, 400, Eq.mpr (vcX2_copy_0 ..) ?_, ?_⟩
  · obtain ⟨hw, ha, hb, hab, hp⟩ := h
    have hl := hw.2.1 v1 ha.1 ha.2
    refine ⟨_, rfl, ha, _, rfl, hb, 0, rfl, rfl, rfl, by omega, by omega, fun c h1 h2 => xup_ne h2, by simp [xup], fun t ht => by simp [xup, ht], fun q _ => by rw [xup_ne (by decide)], fun j _ _ => by omega, fun q h1 h2 => by rw [xup_ne (by decide)]; exact hw.2.2 q h1 h2⟩
  · obtain ⟨hw, ha, hb, hab, hp⟩ := h
    have hl := hw.2.1 v1 ha.1 ha.2
    rintro pc lv st N ⟨i, rfl, rfl, rfl, h1, h2, h3, h4, h5, h6, h7, h8⟩
    refine Eq.mpr (vcX2_copy_14 ..) ?_
    refine ⟨⟨by omega, by omega⟩, ⟨by omega, by omega⟩, fun q => ?_, fun q => ⟨_, _, rfl, ha, ⟨by omega, by omega⟩, _, _, rfl, hb, ⟨by omega, by omega⟩, ⟨i + 1, rfl, rfl, rfl, by omega, by omega, fun c q1 q2 => ?_, ?_, fun t ht => ?_, fun u hu => ?_, fun j q1 q2 => ?_, fun u q1 q2 => ?_⟩, by (change Int.toNat _ < Int.toNat _); omega⟩⟩
    · have hi : i = M 3 v1 := by omega
      refine hp N ⟨?_, fun r q1 q2 => ?_, h8⟩ h3 ⟨by rw [h4]; exact hi, fun j q1 q2 => h7 j q1 (by omega)⟩ (fun t q1 q2 q3 => ⟨h5 t q3, fun j q4 q5 => h6 _ ?_⟩)
      · rw [h3 1 (by decide) (by decide)]; exact hw.1
      · by_cases hr : r = v2
        · subst hr; omega
        · rw [h5 r hr]; exact hw.2.1 r q1 q2
      · have := hw.2.1 t q1 q2
        omega
    · rw [xup_ne q2, xup_ne q1]; exact h3 c q1 q2
    · rw [xup_at, if_pos rfl, h4]
    · rw [xup_at, if_neg ht, xup_ne (by decide)]; exact h5 t ht
    · rw [xup_ne (by decide), xup_at, if_neg (by rw [h4]; omega)]; exact h6 u hu
    · rw [xup_ne (by decide), xup_at]
      by_cases hj : j = i
      · subst hj
        rw [if_pos (by rw [h4]), h6 _ (by omega)]
      · rw [if_neg (by rw [h4]; omega)]; exact h7 j q1 (by omega)
    · rw [xup_ne (by decide), xup_at]
      split
      · exact h8 _ (by omega) (by omega)
      · exact h8 u q1 q2
theorem k_X2_copy {l : Launch} {D : va_G} {T : Nat → ClassId} {ad : Nat → Nat} (hO : xOk ad LX) : xMet l D T ad LX yX2_copy cX2_copy 5 none true 2 sp_X2_copy :=
  xmet (rt := 0) (fld := fldX2) (cals := (calX2_copy sp_X2_length sp_X2_empty sp_X2_hopAt sp_X2_append)) (cst := []) (I := iX2_copy) (cut := cutX2_copy) hO (by decide +kernel) ⟨by decide, by decide, by decide⟩ oX2_copy foX2 (fun _ h => absurd h List.not_mem_nil) (List.forall_mem_cons.mpr ⟨⟨yX2_length, cX2_length, 2, (some .int), 0, 1, by decide, yoX2_length, k_X2_length hO, loX2_22, Or.inr ⟨rfl, rfl, 1, 2, [some 2, some 3, none], TX2, 3, rfl, rfl, spV1_r⟩⟩, List.forall_mem_cons.mpr ⟨⟨yX2_empty, cX2_empty, 2, none, 0, 1, by decide, yoX2_empty, k_X2_empty hO, loX2_37, Or.inr ⟨rfl, rfl, 1, 2, [some 2, some 3, none], TX2, 3, rfl, rfl, spV1_r⟩⟩, List.forall_mem_cons.mpr ⟨⟨yX2_hopAt, cX2_hopAt, 4, (some .int), 0, 2, by decide, yoX2_hopAt, k_X2_hopAt hO, loX2_26, Or.inr ⟨rfl, rfl, 1, 2, [some 2, some 3, none], TX2, 3, rfl, rfl, spV2_r⟩⟩, List.forall_mem_cons.mpr ⟨⟨yX2_append, cX2_append, 5, none, 1, 2, by decide, yoX2_append, k_X2_append hO, loX2_41, Or.inr ⟨rfl, rfl, 1, 2, [some 2, some 3, none], TX2, 3, rfl, rfl, spV2_r⟩⟩, fun _ h => absurd h List.not_mem_nil⟩⟩⟩⟩) b_X2_copy
def f_X2_keepHand (M : xM) (Post : xR) : Prop := wR M ∧ M 1 2 < 6 ∧ ∀ M' : xM, wR M' → (∀ c, c ≠ 1 → c ≠ 2 → c ≠ 3 → M' c = M c) → M' 1 2 = M 1 2 + 1 → M' 3 6 = 0 → rowEq M 6 M' (M 1 2) → (∀ t, 0 ≤ t → t < M 1 2 → rowEq M t M' t) → Post 0 M'
abbrev sp_X2_keepHand : xT := spV0 1 f_X2_keepHand
set_option maxRecDepth 100000 in
set_option maxHeartbeats 4000000 in
theorem b_X2_keepHand (as : List xV) (M : xM) (Post : xR) (h : sp_X2_keepHand as M Post) : as.length ≤ 1 ∧ xw LX fldX2 (calX2_keepHand sp_X2_copy sp_X2_empty) [] 0 Post iX2_keepHand cutX2_keepHand (fun _ _ _ _ => False) 400 0 (xlv as 1) [] M := by
  obtain ⟨rfl, h⟩ := h
  refine ⟨by simp, ?_⟩
  refine Eq.mpr (vcX2_keepHand_0 ..) ?_
  obtain ⟨hw, hn, hp⟩ := h
  have h0 := hw.1
  refine ⟨⟨by omega, by omega⟩, ⟨by omega, by omega⟩, fun q => by omega, fun _ => ⟨_, _, rfl, hw, ⟨by omega, by omega⟩, ⟨by omega, by omega⟩, by omega, fun N hN h1 h2 h3 => ⟨_, rfl, ⟨by omega, by omega⟩, ?_⟩⟩⟩
  have e1 : N 1 = M 1 := h1 1 (by decide) (by decide)
  refine hp _ ⟨?_, fun r q1 q2 => ?_, fun u q1 q2 => ?_⟩ (fun c q1 q2 q3 => ?_) ?_ ?_ ⟨?_, fun i q1 q2 => ?_⟩ (fun t q1 q2 => ⟨?_, fun i q3 q4 => ?_⟩)
  · rw [xup_at, if_pos rfl, xup_ne (by decide), e1]; omega
  · rw [xup_ne (by decide), xup_at]
    split
    · omega
    · exact hN.2.1 r q1 q2
  · rw [xup_ne (by decide), xup_ne (by decide)]; exact hN.2.2 u q1 q2
  · rw [xup_ne q1, xup_ne q3]; exact h1 c q2 q3
  · rw [xup_at, if_pos rfl, xup_ne (by decide), e1]
  · rw [xup_ne (by decide), xup_at, if_pos rfl]
  · rw [xup_ne (by decide), xup_at, if_neg (by omega)]; exact h2.1
  · rw [xup_ne (by decide), xup_ne (by decide)]; exact h2.2 i q1 q2
  · rw [xup_ne (by decide), xup_at, if_neg (by omega)]; exact (h3 t (by omega) (by omega) (by omega)).1
  · rw [xup_ne (by decide), xup_ne (by decide)]; exact (h3 t (by omega) (by omega) (by omega)).2 i q3 q4
theorem k_X2_keepHand {l : Launch} {D : va_G} {T : Nat → ClassId} {ad : Nat → Nat} (hO : xOk ad LX) : xMet l D T ad LX yX2_keepHand cX2_keepHand 1 none true 3 sp_X2_keepHand :=
  xmet0 (rt := 0) (fld := fldX2) (cals := (calX2_keepHand sp_X2_copy sp_X2_empty)) (cst := []) (I := iX2_keepHand) (cut := cutX2_keepHand) hO (by decide +kernel) ⟨by decide, by decide, by decide⟩ oX2_keepHand foX2 (fun _ h => absurd h List.not_mem_nil) (List.forall_mem_cons.mpr ⟨⟨yX2_copy, cX2_copy, 5, none, 2, 2, by decide, yoX2_copy, k_X2_copy hO, loX2_33, Or.inr ⟨rfl, rfl, 1, 2, [some 2, some 3, none], TX2, 3, rfl, rfl, spV2_r⟩⟩, List.forall_mem_cons.mpr ⟨⟨yX2_empty, cX2_empty, 2, none, 0, 1, by decide, yoX2_empty, k_X2_empty hO, loX2_37, Or.inr ⟨rfl, rfl, 1, 2, [some 2, some 3, none], TX2, 3, rfl, rfl, spV1_r⟩⟩, fun _ h => absurd h List.not_mem_nil⟩⟩) b_X2_keepHand
theorem rowEq.trans {A B C : xM} {a b c : Int} (h1 : rowEq A a B b) (h2 : rowEq B b C c) : rowEq A a C c := ⟨h2.1.trans h1.1, fun i q1 q2 => by rw [h2.2 i q1 (by rw [h1.1]; exact q2), h1.2 i q1 q2]⟩
theorem rowEq.refl (A : xM) (a : Int) : rowEq A a A a := ⟨rfl, fun _ _ _ => rfl⟩
def f_X2_remove (t0 : Int) (M : xM) (Post : xR) : Prop := wR M ∧ (0 ≤ t0 ∧ t0 < M 1 2) ∧ ∀ M' : xM, wR M' → (∀ c, c ≠ 1 → c ≠ 2 → c ≠ 3 → M' c = M c) → M' 1 2 = M 1 2 - 1 → rowEq M 6 M' 6 → (∀ t, 0 ≤ t → t < t0 → rowEq M t M' t) → (∀ t, t0 ≤ t → t < M 1 2 - 1 → rowEq M (t + 1) M' t) → Post 0 M'
abbrev sp_X2_remove : xT := spV1 1 f_X2_remove
set_option maxRecDepth 100000 in
set_option maxHeartbeats 4000000 in
theorem b_X2_remove (as : List xV) (M : xM) (Post : xR) (h : sp_X2_remove as M Post) : as.length ≤ 3 ∧ ∃ (Inv : xG) (μ : Nat → xL → List xV → xM → Nat) (f0 f1 : Nat), xw LX fldX2 (calX2_remove sp_X2_copy) [] 0 Post iX2_remove cutX2_remove Inv f0 0 (xlv as 3) [] M ∧ ∀ pc lv st M', Inv pc lv st M' → xw LX fldX2 (calX2_remove sp_X2_copy) [] 0 Post iX2_remove cutX2_remove (fun pc2 lv2 st2 M2 => Inv pc2 lv2 st2 M2 ∧ μ pc2 lv2 st2 M2 < μ pc lv st M') f1 pc lv st M' := by
  obtain ⟨v1, rfl, h⟩ := h
  refine ⟨by simp, (fun pc lv st N => ∃ (t : Int), pc = 14 ∧ lv = [some (.inr 1), some (.inl v1), some (.inl t)] ∧ st = [] ∧ v1 ≤ t ∧ t < M 1 2 ∧ wR N ∧ (∀ c, c ≠ 2 → c ≠ 3 → N c = M c) ∧ (∀ s, 0 ≤ s → s < v1 → rowEq M s N s) ∧ (∀ s, v1 ≤ s → s < t → rowEq M (s + 1) N s) ∧ (∀ s, t ≤ s → s < 7 → rowEq M s N s)), (fun pc lv st N => match lv with | [_, _, some (.inl i)] => (10 - i).toNat | _ => 0), 400, 400, Eq.mpr (vcX2_remove_0 ..) ?_, ?_⟩
  · obtain ⟨hw, ha, hp⟩ := h
    have h0 := hw.1
    exact ⟨⟨by omega, by omega⟩, fun q => by omega, fun _ => ⟨⟨by omega, by omega⟩, ⟨by omega, by omega⟩, fun q => by omega, fun _ => ⟨v1, rfl, rfl, rfl, by omega, by omega, hw, fun _ _ _ => rfl, fun s _ _ => rowEq.refl _ _, fun s _ _ => by omega, fun s _ _ => rowEq.refl _ _⟩⟩⟩
  · obtain ⟨hw, ha, hp⟩ := h
    have h0 := hw.1
    rintro pc lv st N ⟨t, rfl, rfl, rfl, h1, h2, h3, h4, h5, h6, h7⟩
    refine Eq.mpr (vcX2_remove_14 ..) ?_
    have e1 : N 1 = M 1 := h4 1 (by decide) (by decide)
    rw [e1]
    refine ⟨⟨by omega, by omega⟩, ⟨by omega, by omega⟩, fun q => ?_, fun q => ⟨_, _, rfl, h3, ⟨by omega, by omega⟩, ⟨by omega, by omega⟩, by omega, fun N2 hN2 g1 g2 g3 => ⟨⟨t + 1, rfl, rfl, rfl, by omega, by omega, hN2, fun c q1 q2 => ?_, fun s q1 q2 => ?_, fun s q1 q2 => ?_, fun s q1 q2 => ?_⟩, by (change Int.toNat _ < Int.toNat _); omega⟩⟩⟩
    · refine hp _ ⟨?_, fun r q1 q2 => ?_, fun u q1 q2 => ?_⟩ (fun c q1 q2 q3 => ?_) ?_ ?_ (fun s q1 q2 => ?_) (fun s q1 q2 => ?_)
      · rw [xup_at, if_pos rfl]; omega
      · rw [xup_ne (by decide)]; exact h3.2.1 r q1 q2
      · rw [xup_ne (by decide)]; exact h3.2.2 u q1 q2
      · rw [xup_ne q1]; exact h4 c q2 q3
      · rw [xup_at, if_pos rfl]
      · have := h7 6 (by omega) (by omega)
        exact ⟨by rw [xup_ne (by decide)]; exact this.1, fun i a b => by rw [xup_ne (by decide)]; exact this.2 i a b⟩
      · have := h5 s q1 q2
        exact ⟨by rw [xup_ne (by decide)]; exact this.1, fun i a b => by rw [xup_ne (by decide)]; exact this.2 i a b⟩
      · have := h6 s q1 (by omega)
        exact ⟨by rw [xup_ne (by decide)]; exact this.1, fun i a b => by rw [xup_ne (by decide)]; exact this.2 i a b⟩
    · rw [g1 c q1 q2]; exact h4 c q1 q2
    · exact (h5 s q1 q2).trans (g3 s q1 (by omega) (by omega))
    · by_cases hs : s = t
      · subst hs
        exact (h7 (s + 1) (by omega) (by omega)).trans g2
      · exact (h6 s q1 (by omega)).trans (g3 s (by omega) (by omega) hs)
    · exact (h7 s (by omega) q2).trans (g3 s (by omega) q2 (by omega))
theorem k_X2_remove {l : Launch} {D : va_G} {T : Nat → ClassId} {ad : Nat → Nat} (hO : xOk ad LX) : xMet l D T ad LX yX2_remove cX2_remove 3 none true 3 sp_X2_remove :=
  xmet (rt := 0) (fld := fldX2) (cals := (calX2_remove sp_X2_copy)) (cst := []) (I := iX2_remove) (cut := cutX2_remove) hO (by decide +kernel) ⟨by decide, by decide, by decide⟩ oX2_remove foX2 (fun _ h => absurd h List.not_mem_nil) (List.forall_mem_cons.mpr ⟨⟨yX2_copy, cX2_copy, 5, none, 2, 2, by decide, yoX2_copy, k_X2_copy hO, loX2_33, Or.inr ⟨rfl, rfl, 1, 2, [some 2, some 3, none], TX2, 3, rfl, rfl, spV2_r⟩⟩, fun _ h => absurd h List.not_mem_nil⟩) b_X2_remove

