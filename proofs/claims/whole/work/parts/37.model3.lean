/-! the reference: isThere, isBoxThere, boxMany, isSeen, count -/
def thr (M : xM) (s n : Int) : Prop := ∃ t i : Int, 0 ≤ t ∧ t < M 0 0 ∧ tb s t ∧ 0 ≤ i ∧ i < M 1 t ∧ M 2 (t * 6 + i) = n
def f_X6_isThere (s n : Int) (M : xM) (Post : xR) : Prop := wM M ∧ (0 ≤ s ∧ s < 64) ∧ rg n ∧ ∀ r, (r = 1 ∧ thr M s n ∨ r = 0 ∧ ¬ thr M s n) → Post r M
abbrev sp_X6_isThere : xT := spV2 0 f_X6_isThere
set_option maxRecDepth 100000 in
set_option maxHeartbeats 4000000 in
theorem b_X6_isThere (as : List xV) (M : xM) (Post : xR) (h : sp_X6_isThere as M Post) : as.length ≤ 6 ∧ ∃ (Inv : xG) (μ : Nat → xL → List xV → xM → Nat) (f0 f1 : Nat), xw LM fldX6 calX6_isThere [] 2 Post iX6_isThere cutX6_isThere Inv f0 0 (xlv as 6) [] M ∧ ∀ pc lv st M', Inv pc lv st M' → xw LM fldX6 calX6_isThere [] 2 Post iX6_isThere cutX6_isThere (fun pc2 lv2 st2 M2 => Inv pc2 lv2 st2 M2 ∧ μ pc2 lv2 st2 M2 < μ pc lv st M') f1 pc lv st M' := by
  obtain ⟨v1, v2, rfl, h⟩ := h
  refine ⟨by simp, (fun pc lv st N => (∃ (r t : Int) (o5 : Option xV), pc = 5 ∧ lv = [some (.inr 0), some (.inl v1), some (.inl v2), some (.inl r), some (.inl t), o5] ∧ st = [] ∧ M = N ∧ (0 ≤ t ∧ t ≤ M 0 0) ∧ (r = 0 ∨ r = 1) ∧ (r = 1 ↔ ∃ u i : Int, 0 ≤ u ∧ u < t ∧ tb v1 u ∧ 0 ≤ i ∧ i < M 1 u ∧ M 2 (u * 6 + i) = v2)) ∨ (∃ (r t i : Int), pc = 17 ∧ lv = [some (.inr 0), some (.inl v1), some (.inl v2), some (.inl r), some (.inl t), some (.inl i)] ∧ st = [] ∧ M = N ∧ (0 ≤ t ∧ t < M 0 0) ∧ (0 ≤ i ∧ i ≤ M 1 t) ∧ (r = 0 ∨ r = 1) ∧ (i = 0 ∨ tb v1 t) ∧ (r = 1 ↔ (∃ u j : Int, 0 ≤ u ∧ u < t ∧ tb v1 u ∧ 0 ≤ j ∧ j < M 1 u ∧ M 2 (u * 6 + j) = v2) ∨ ∃ j, 0 ≤ j ∧ j < i ∧ M 2 (t * 6 + j) = v2))), (fun pc lv st N => match pc, lv with | 5, [_, _, _, _, some (.inl t), _] => ((7 - t) * 100).toNat | 17, [_, _, _, _, some (.inl t), some (.inl i)] => ((6 - t) * 100 + 50 - i).toNat | _, _ => 0), 400, 400, Eq.mpr (vcX6_isThere_0 ..) ?_, ?_⟩
  · obtain ⟨hw, hs, hn, hp⟩ := h
    refine Or.inl ⟨0, 0, none, rfl, rfl, rfl, rfl, ⟨by omega, hw.1.1⟩, Or.inl rfl, ⟨fun q => by omega, ?_⟩⟩
    rintro ⟨u, i, a, b, -⟩
    omega
  · obtain ⟨hw, hs, hn, hp⟩ := h
    have h0 := hw.1
    rintro pc lv st N (⟨r, t, o5, rfl, rfl, rfl, rfl, h1, h2, h3⟩ | ⟨r, t, i, rfl, rfl, rfl, rfl, h1, h2, h3, h4, h5⟩)
    · refine Eq.mpr (vcX6_isThere_5 ..) ?_
      refine ⟨⟨by omega, by omega⟩, ⟨by omega, by omega⟩, fun q => ⟨h2, hp r ?_⟩, fun q => ⟨Or.inr ⟨r, t, 0, rfl, rfl, rfl, rfl, ⟨h1.1, q⟩, ⟨by omega, (hw.2.1 t h1.1 (by omega)).1⟩, h2, Or.inl rfl, ?_⟩, by (change Int.toNat _ < Int.toNat _); omega⟩⟩
      · have e : (∃ u i : Int, 0 ≤ u ∧ u < t ∧ tb v1 u ∧ 0 ≤ i ∧ i < M 1 u ∧ M 2 (u * 6 + i) = v2) ↔ thr M v1 v2 := by rw [show t = M 0 0 by omega]; exact Iff.rfl
        rw [e] at h3
        rcases h2 with z | z
        · exact Or.inr ⟨z, fun y => by have := h3.mpr y; omega⟩
        · exact Or.inl ⟨z, h3.mp z⟩
      · rw [h3]
        refine ⟨Or.inl, ?_⟩
        rintro (z | ⟨j, a, b, -⟩)
        · exact z
        · omega
    · refine Eq.mpr (vcX6_isThere_17 ..) ?_
      have hl := hw.2.1 t h1.1 (by omega)
      have hbit := bs_bit (x := v1) (i := t) ⟨by omega, by omega⟩ ⟨by omega, by omega⟩
      generalize (xi (xi v1 >>> (xi t &&& 31)).toInt &&& xi 1).toInt = z at hbit ⊢
      have up : (i = M 1 t ∨ ¬ tb v1 t) → (r = 1 ↔ ∃ u j : Int, 0 ≤ u ∧ u < t + 1 ∧ tb v1 u ∧ 0 ≤ j ∧ j < M 1 u ∧ M 2 (u * 6 + j) = v2) := by
        intro hc
        rw [h5]
        constructor
        · rintro (⟨u, j, a, b, c⟩ | ⟨j, a, b, c⟩)
          · exact ⟨u, j, a, by omega, c⟩
          · rcases h4 with y | y
            · omega
            · exact ⟨t, j, h1.1, by omega, y, a, by omega, c⟩
        · rintro ⟨u, j, a, b, c, d, e, f⟩
          by_cases hu : u = t
          · subst hu
            rcases hc with y | y
            · exact Or.inr ⟨j, d, by omega, f⟩
            · exact (y c).elim
          · exact Or.inl ⟨u, j, a, by omega, c, d, e, f⟩
      refine ⟨⟨by omega, by omega⟩, ⟨by omega, by omega⟩, ⟨by omega, by omega⟩, fun q => ⟨Or.inl ⟨r, t + 1, _, rfl, rfl, rfl, rfl, by omega, h3, up (Or.inl (by omega))⟩, by (change Int.toNat _ < Int.toNat _); omega⟩, fun q => ⟨⟨by omega, by omega⟩, ⟨by omega, by omega⟩, fun q1 => ⟨Or.inl ⟨r, t + 1, _, rfl, rfl, rfl, rfl, by omega, h3, up (Or.inr (hbit.elim (fun y => (q1 y.1).elim) (fun y => y.2)))⟩, by (change Int.toNat _ < Int.toNat _); omega⟩, fun q1 => ?_⟩⟩
      have htb : tb v1 t := hbit.elim (fun y => y.2) (fun y => by omega)
      rw [show 6 * t + i = t * 6 + i by omega]
      have hh := hw.2.2.1 (t * 6 + i) (by omega) (by omega)
      refine ⟨⟨by omega, by omega⟩, fun q2 => ⟨Or.inr ⟨1, t, i + 1, rfl, rfl, rfl, rfl, h1, by omega, Or.inr rfl, Or.inr htb, ⟨fun _ => ?_, fun _ => rfl⟩⟩, by (change Int.toNat _ < Int.toNat _); omega⟩, fun q2 => ⟨⟨by omega, by omega⟩, ⟨by omega, by omega⟩, hn, fun q3 => ⟨Or.inr ⟨0, t, i + 1, rfl, rfl, rfl, rfl, h1, by omega, Or.inl rfl, Or.inr htb, ⟨fun y => by omega, fun y => ?_⟩⟩, by (change Int.toNat _ < Int.toNat _); omega⟩, fun q3 => ⟨Or.inr ⟨1, t, i + 1, rfl, rfl, rfl, rfl, h1, by omega, Or.inr rfl, Or.inr htb, ⟨fun _ => Or.inr ⟨i, h2.1, by omega, q3⟩, fun _ => rfl⟩⟩, by (change Int.toNat _ < Int.toNat _); omega⟩⟩⟩
      · rcases h5.mp (by omega) with y | ⟨j, a, b, c⟩
        · exact Or.inl y
        · exact Or.inr ⟨j, a, by omega, c⟩
      · exfalso
        have : r = 1 := h5.mpr (by
          rcases y with y | ⟨j, a, b, c⟩
          · exact Or.inl y
          · by_cases hj : j = i
            · subst hj; exact (q3 c).elim
            · exact Or.inr ⟨j, a, by omega, c⟩)
        omega
theorem k_X6_isThere {l : Launch} {D : va_G} {T : Nat → ClassId} {ad : Nat → Nat} (hO : xOk ad LM) : xMet l D T ad LM yX6_isThere cX6_isThere 6 (some .boolean) false 0 sp_X6_isThere :=
  xmet (rt := 2) (fld := fldX6) (cals := calX6_isThere) (cst := []) (I := iX6_isThere) (cut := cutX6_isThere) hO (by decide +kernel) ⟨by decide, by decide, by decide⟩ oX6_isThere foX6 (fun _ h => absurd h List.not_mem_nil) (fun _ h => absurd h List.not_mem_nil) b_X6_isThere
def bxT (M : xM) (s b : Int) : Prop := ∃ n, 0 ≤ n ∧ n < 6 ∧ M 4 n = b ∧ thr M s n
def f_X6_isBoxThere (s b : Int) (M : xM) (Post : xR) : Prop := wM M ∧ (0 ≤ s ∧ s < 64) ∧ rg b ∧ ∀ r, (r = 1 ∧ bxT M s b ∨ r = 0 ∧ ¬ bxT M s b) → Post r M
abbrev sp_X6_isBoxThere : xT := spV2 0 f_X6_isBoxThere
set_option maxRecDepth 100000 in
set_option maxHeartbeats 4000000 in
theorem b_X6_isBoxThere (as : List xV) (M : xM) (Post : xR) (h : sp_X6_isBoxThere as M Post) : as.length ≤ 5 ∧ ∃ (Inv : xG) (μ : Nat → xL → List xV → xM → Nat) (f0 f1 : Nat), xw LM fldX6 (calX6_isBoxThere sp_X6_isThere) [] 2 Post iX6_isBoxThere cutX6_isBoxThere Inv f0 0 (xlv as 5) [] M ∧ ∀ pc lv st M', Inv pc lv st M' → xw LM fldX6 (calX6_isBoxThere sp_X6_isThere) [] 2 Post iX6_isBoxThere cutX6_isBoxThere (fun pc2 lv2 st2 M2 => Inv pc2 lv2 st2 M2 ∧ μ pc2 lv2 st2 M2 < μ pc lv st M') f1 pc lv st M' := by
  obtain ⟨v1, v2, rfl, h⟩ := h
  refine ⟨by simp, (fun pc lv st N => ∃ (r n : Int), pc = 5 ∧ lv = [some (.inr 0), some (.inl v1), some (.inl v2), some (.inl r), some (.inl n)] ∧ st = [] ∧ M = N ∧ (0 ≤ n ∧ n ≤ 6) ∧ (r = 0 ∨ r = 1) ∧ (r = 1 ↔ ∃ k, 0 ≤ k ∧ k < n ∧ M 4 k = v2 ∧ thr M v1 k)), (fun pc lv st N => match lv with | [_, _, _, _, some (.inl n)] => (10 - n).toNat | _ => 0), 400, 400, Eq.mpr (vcX6_isBoxThere_0 ..) ?_, ?_⟩
  · refine ⟨0, 0, rfl, rfl, rfl, rfl, by omega, Or.inl rfl, ⟨fun q => by omega, ?_⟩⟩
    rintro ⟨k, a, b, -⟩
    omega
  · obtain ⟨hw, hs, hb, hp⟩ := h
    rintro pc lv st N ⟨r, n, rfl, rfl, rfl, rfl, h1, h2, h3⟩
    refine Eq.mpr (vcX6_isBoxThere_5 ..) ?_
    have nxt : ∀ r' : Int, (r' = 0 ∨ r' = 1) → n < 6 → (r' = 1 ↔ r = 1 ∨ M 4 n = v2 ∧ thr M v1 n) → (r' = 1 ↔ ∃ k, 0 ≤ k ∧ k < n + 1 ∧ M 4 k = v2 ∧ thr M v1 k) := by
      intro r' _ hn6 he
      rw [he, h3]
      constructor
      · rintro (⟨k, a, b, c⟩ | z)
        · exact ⟨k, a, by omega, c⟩
        · exact ⟨n, h1.1, by omega, z⟩
      · rintro ⟨k, a, b, c⟩
        by_cases hk : k = n
        · subst hk; exact Or.inr c
        · exact Or.inl ⟨k, a, by omega, c⟩
    refine ⟨⟨by omega, by omega⟩, ⟨by omega, by omega⟩, fun q => ⟨h2, hp r ?_⟩, fun q => ?_⟩
    · have hn : n = 6 := by omega
      subst hn
      rcases h2 with z | z
      · exact Or.inr ⟨z, fun y => by have := h3.mpr y; omega⟩
      · exact Or.inl ⟨z, h3.mp z⟩
    · have hb4 := hw.2.2.2.2.2 n h1.1 q
      refine ⟨⟨by omega, by omega⟩, fun q1 => ⟨⟨1, n + 1, rfl, rfl, rfl, rfl, by omega, Or.inr rfl, nxt 1 (Or.inr rfl) q ⟨fun _ => Or.inl (by omega), fun _ => rfl⟩⟩, by (change Int.toNat _ < Int.toNat _); omega⟩, fun q1 => ⟨⟨by omega, by omega⟩, ⟨by omega, by omega⟩, hb, fun q2 => ⟨⟨0, n + 1, rfl, rfl, rfl, rfl, by omega, Or.inl rfl, nxt 0 (Or.inl rfl) q ⟨fun y => by omega, fun y => y.elim (fun y => by omega) (fun y => (q2 y.1).elim)⟩⟩, by (change Int.toNat _ < Int.toNat _); omega⟩, fun q2 => ⟨_, _, rfl, hw, hs, ⟨by omega, by omega⟩, fun r1 hr1 => ⟨⟨by omega, by omega⟩, fun q3 => ⟨⟨0, n + 1, rfl, rfl, rfl, rfl, by omega, Or.inl rfl, nxt 0 (Or.inl rfl) q ⟨fun y => by omega, fun y => ?_⟩⟩, by (change Int.toNat _ < Int.toNat _); omega⟩, fun q3 => ⟨⟨1, n + 1, rfl, rfl, rfl, rfl, by omega, Or.inr rfl, nxt 1 (Or.inr rfl) q ⟨fun _ => Or.inr ⟨q2, hr1.elim (fun z => z.2) (fun z => (q3 z.1).elim)⟩, fun _ => rfl⟩⟩, by (change Int.toNat _ < Int.toNat _); omega⟩⟩⟩⟩⟩
      rcases y with y | y
      · omega
      · exact ((hr1.elim (fun z => by omega) (fun z => z.2) : ¬ thr M v1 n) y.2).elim
theorem k_X6_isBoxThere {l : Launch} {D : va_G} {T : Nat → ClassId} {ad : Nat → Nat} (hO : xOk ad LM) : xMet l D T ad LM yX6_isBoxThere cX6_isBoxThere 5 (some .boolean) false 1 sp_X6_isBoxThere :=
  xmet (rt := 2) (fld := fldX6) (cals := (calX6_isBoxThere sp_X6_isThere)) (cst := []) (I := iX6_isBoxThere) (cut := cutX6_isBoxThere) hO (by decide +kernel) ⟨by decide, by decide, by decide⟩ oX6_isBoxThere foX6 (fun _ h => absurd h List.not_mem_nil) (List.forall_mem_cons.mpr ⟨⟨yX6_isThere, cX6_isThere, 6, (some .boolean), 0, 2, by decide, yoX6_isThere, k_X6_isThere hO, loX6_74, Or.inr ⟨rfl, rfl, 0, 6, [none, some 1, some 2, none, some 3, some 4, some 5, none, some 6, some 7, some 8, some 9, none, none, none, none, some 10, some 11, some 12, none, none], TX6, 21, rfl, rfl, spV2_r⟩⟩, fun _ h => absurd h List.not_mem_nil⟩) b_X6_isBoxThere
def f_X6_boxMany (s : Int) (M : xM) (Post : xR) : Prop := wM M ∧ (0 ≤ s ∧ s < 64) ∧ Post ((sm (fun b => bb (bxT M s (b : Int))) 6 : Nat) : Int) M
abbrev sp_X6_boxMany : xT := spV1 0 f_X6_boxMany
set_option maxRecDepth 100000 in
set_option maxHeartbeats 4000000 in
theorem b_X6_boxMany (as : List xV) (M : xM) (Post : xR) (h : sp_X6_boxMany as M Post) : as.length ≤ 4 ∧ ∃ (Inv : xG) (μ : Nat → xL → List xV → xM → Nat) (f0 f1 : Nat), xw LM fldX6 (calX6_boxMany sp_X6_isBoxThere) [] 1 Post iX6_boxMany cutX6_boxMany Inv f0 0 (xlv as 4) [] M ∧ ∀ pc lv st M', Inv pc lv st M' → xw LM fldX6 (calX6_boxMany sp_X6_isBoxThere) [] 1 Post iX6_boxMany cutX6_boxMany (fun pc2 lv2 st2 M2 => Inv pc2 lv2 st2 M2 ∧ μ pc2 lv2 st2 M2 < μ pc lv st M') f1 pc lv st M' := by
  obtain ⟨v1, rfl, h⟩ := h
  refine ⟨by simp, (fun pc lv st N => ∃ (b : Nat), pc = 4 ∧ lv = [some (.inr 0), some (.inl v1), some (.inl ((sm (fun b => bb (bxT M v1 (b : Int))) b : Nat) : Int)), some (.inl (b : Int))] ∧ st = [] ∧ M = N ∧ b ≤ 6), (fun pc lv st N => match lv with | [_, _, _, some (.inl n)] => (10 - n).toNat | _ => 0), 400, 400, Eq.mpr (vcX6_boxMany_0 ..) ?_, ?_⟩
  · exact ⟨0, rfl, rfl, rfl, rfl, by omega⟩
  · obtain ⟨hw, hs, hp⟩ := h
    rintro pc lv st N ⟨b, rfl, rfl, rfl, rfl, h1⟩
    refine Eq.mpr (vcX6_boxMany_4 ..) ?_
    refine ⟨⟨by omega, by omega⟩, ⟨by omega, by omega⟩, fun q => ?_, fun q => ⟨_, _, rfl, hw, hs, ⟨by omega, by omega⟩, fun r hr => ⟨⟨by omega, by omega⟩, fun q1 => ⟨⟨b + 1, rfl, ?_, rfl, rfl, by omega⟩, by (change Int.toNat _ < Int.toNat _); omega⟩, fun q1 => ⟨⟨b + 1, rfl, ?_, rfl, rfl, by omega⟩, by (change Int.toNat _ < Int.toNat _); omega⟩⟩⟩⟩
    · rw [show b = 6 by omega]; exact hp
    · have : ¬ bxT M v1 b := hr.elim (fun z => by omega) (fun z => z.2)
      simp only [sm, bb0 this, Nat.add_zero, Int.add_zero]
      rfl
    · have : bxT M v1 b := hr.elim (fun z => z.2) (fun z => (q1 z.1).elim)
      simp only [sm, bb1 this]
      rfl
theorem k_X6_boxMany {l : Launch} {D : va_G} {T : Nat → ClassId} {ad : Nat → Nat} (hO : xOk ad LM) : xMet l D T ad LM yX6_boxMany cX6_boxMany 4 (some .int) false 2 sp_X6_boxMany :=
  xmet (rt := 1) (fld := fldX6) (cals := (calX6_boxMany sp_X6_isBoxThere)) (cst := []) (I := iX6_boxMany) (cut := cutX6_boxMany) hO (by decide +kernel) ⟨by decide, by decide, by decide⟩ oX6_boxMany foX6 (fun _ h => absurd h List.not_mem_nil) (List.forall_mem_cons.mpr ⟨⟨yX6_isBoxThere, cX6_isBoxThere, 5, (some .boolean), 1, 2, by decide, yoX6_isBoxThere, k_X6_isBoxThere hO, loX6_78, Or.inr ⟨rfl, rfl, 0, 6, [none, some 1, some 2, none, some 3, some 4, some 5, none, some 6, some 7, some 8, some 9, none, none, none, none, some 10, some 11, some 12, none, none], TX6, 21, rfl, rfl, spV2_r⟩⟩, fun _ h => absurd h List.not_mem_nil⟩) b_X6_boxMany

