/-! the reference: small methods, the row at hand -/
def SM (N : xM) : dS := (N 0 0, N 1, N 2, N 4)
def wM (N : xM) : Prop := (0 ≤ N 0 0 ∧ N 0 0 ≤ 6) ∧ (∀ t, 0 ≤ t → t < 6 → 0 ≤ N 1 t ∧ N 1 t ≤ 6) ∧ (∀ p, 0 ≤ p → p < 36 → -1 ≤ N 2 p ∧ N 2 p ≤ 5) ∧ (0 ≤ N 0 3 ∧ N 0 3 ≤ 6) ∧ (∀ i, 0 ≤ i → i < 6 → -1 ≤ N 3 i ∧ N 3 i ≤ 5) ∧ (∀ n, 0 ≤ n → n < 6 → 0 ≤ N 4 n ∧ N 4 n ≤ n)
def f_X6_in (v a b : Int) (M : xM) (Post : xR) : Prop := rg v ∧ rg a ∧ rg b ∧ ∀ r, (r = 1 ∧ (a ≤ v ∧ v ≤ b) ∨ r = 0 ∧ ¬ (a ≤ v ∧ v ≤ b)) → Post r M
abbrev sp_X6_in : xT := spS3 f_X6_in
set_option maxRecDepth 100000 in
set_option maxHeartbeats 4000000 in
theorem b_X6_in (as : List xV) (M : xM) (Post : xR) (h : sp_X6_in as M Post) : as.length ≤ 3 ∧ xw LM fldX6 calX6_in [] 2 Post iX6_in cutX6_in (fun _ _ _ _ => False) 400 0 (xlv as 3) [] M := by
  obtain ⟨v0, v1, v2, rfl, h⟩ := h
  refine ⟨by simp, ?_⟩
  refine Eq.mpr (vcX6_in_0 ..) ?_
  obtain ⟨h1, h2, h3, hp⟩ := h
  exact ⟨h1, h2, fun q => ⟨by omega, hp 0 (by omega)⟩, fun q => ⟨h1, h3, fun q1 => ⟨by omega, hp 0 (by omega)⟩, fun q1 => ⟨by omega, hp 1 (by omega)⟩⟩⟩
theorem k_X6_in {l : Launch} {D : va_G} {T : Nat → ClassId} {ad : Nat → Nat} (hO : xOk ad LM) : xMet l D T ad LM yX6_in cX6_in 3 (some .boolean) false 0 sp_X6_in :=
  xmet0 (rt := 2) (fld := fldX6) (cals := calX6_in) (cst := []) (I := iX6_in) (cut := cutX6_in) hO (by decide +kernel) ⟨by decide, by decide, by decide⟩ oX6_in foX6 (fun _ h => absurd h List.not_mem_nil) (fun _ h => absurd h List.not_mem_nil) b_X6_in
def f_X6_isName (n : Int) (M : xM) (Post : xR) : Prop := rg n ∧ ∀ r, (r = 1 ∧ (0 ≤ n ∧ n < 6) ∨ r = 0 ∧ ¬ (0 ≤ n ∧ n < 6)) → Post r M
abbrev sp_X6_isName : xT := spS1 f_X6_isName
set_option maxRecDepth 100000 in
set_option maxHeartbeats 4000000 in
theorem b_X6_isName (as : List xV) (M : xM) (Post : xR) (h : sp_X6_isName as M Post) : as.length ≤ 1 ∧ xw LM fldX6 (calX6_isName sp_X6_in) [] 2 Post iX6_isName cutX6_isName (fun _ _ _ _ => False) 400 0 (xlv as 1) [] M := by
  obtain ⟨v0, rfl, h⟩ := h
  refine ⟨by simp, ?_⟩
  refine Eq.mpr (vcX6_isName_0 ..) ?_
  obtain ⟨h1, hp⟩ := h
  exact ⟨_, _, _, rfl, h1, ⟨by omega, by omega⟩, ⟨by omega, by omega⟩, fun r hr => ⟨by omega, hp r (by omega)⟩⟩
theorem k_X6_isName {l : Launch} {D : va_G} {T : Nat → ClassId} {ad : Nat → Nat} (hO : xOk ad LM) : xMet l D T ad LM yX6_isName cX6_isName 1 (some .boolean) false 1 sp_X6_isName :=
  xmet0 (rt := 2) (fld := fldX6) (cals := (calX6_isName sp_X6_in)) (cst := []) (I := iX6_isName) (cut := cutX6_isName) hO (by decide +kernel) ⟨by decide, by decide, by decide⟩ oX6_isName foX6 (fun _ h => absurd h List.not_mem_nil) (List.forall_mem_cons.mpr ⟨⟨yX6_in, cX6_in, 3, (some .boolean), 0, 3, by decide, yoX6_in, k_X6_in hO, loX6_48, Or.inl ⟨rfl, rfl⟩⟩, fun _ h => absurd h List.not_mem_nil⟩) b_X6_isName
def f_X6_silentOf (t : Int) (M : xM) (Post : xR) : Prop := wM M ∧ (0 ≤ t ∧ t < 6) ∧ Post (cS (M 2) (t * 6) (M 1 t).toNat) M
abbrev sp_X6_silentOf : xT := spV1 0 f_X6_silentOf
set_option maxRecDepth 100000 in
set_option maxHeartbeats 4000000 in
theorem b_X6_silentOf (as : List xV) (M : xM) (Post : xR) (h : sp_X6_silentOf as M Post) : as.length ≤ 4 ∧ ∃ (Inv : xG) (μ : Nat → xL → List xV → xM → Nat) (f0 f1 : Nat), xw LM fldX6 calX6_silentOf [] 1 Post iX6_silentOf cutX6_silentOf Inv f0 0 (xlv as 4) [] M ∧ ∀ pc lv st M', Inv pc lv st M' → xw LM fldX6 calX6_silentOf [] 1 Post iX6_silentOf cutX6_silentOf (fun pc2 lv2 st2 M2 => Inv pc2 lv2 st2 M2 ∧ μ pc2 lv2 st2 M2 < μ pc lv st M') f1 pc lv st M' := by
  obtain ⟨v1, rfl, h⟩ := h
  refine ⟨by simp, (fun pc lv st N => ∃ (i : Nat), pc = 4 ∧ lv = [some (.inr 0), some (.inl v1), some (.inl (cS (M 2) (v1 * 6) i)), some (.inl (i : Int))] ∧ st = [] ∧ M = N ∧ (i : Int) ≤ M 1 v1), (fun pc lv st N => match lv with | [_, _, _, some (.inl i)] => (10 - i).toNat | _ => 0), 400, 400, Eq.mpr (vcX6_silentOf_0 ..) ?_, ?_⟩
  · obtain ⟨hw, ht, hp⟩ := h
    exact ⟨0, rfl, rfl, rfl, rfl, (hw.2.1 v1 ht.1 ht.2).1⟩
  · obtain ⟨hw, ht, hp⟩ := h
    rintro pc lv st N ⟨i, rfl, rfl, rfl, rfl, h1⟩
    refine Eq.mpr (vcX6_silentOf_4 ..) ?_
    have hl := hw.2.1 v1 ht.1 ht.2
    refine ⟨ht, ⟨by omega, by omega⟩, ⟨by omega, by omega⟩, fun q => ?_, fun q => ?_⟩
    · rw [show (M 1 v1).toNat = i by omega] at hp
      exact hp
    · rw [show 6 * v1 + (i : Int) = v1 * 6 + (i : Int) by omega]
      have hh := hw.2.2.1 (v1 * 6 + i) (by omega) (by omega)
      refine ⟨⟨by omega, by omega⟩, ⟨by omega, by omega⟩, ⟨by omega, by omega⟩, fun q1 => ⟨⟨i + 1, rfl, ?_, rfl, rfl, by omega⟩, by (change Int.toNat _ < Int.toNat _); omega⟩, fun q1 => ⟨⟨i + 1, rfl, ?_, rfl, rfl, by omega⟩, by (change Int.toNat _ < Int.toNat _); omega⟩⟩
      · simp only [cS, if_neg q1]
        rfl
      · simp only [cS, if_pos q1]
        rfl
theorem k_X6_silentOf {l : Launch} {D : va_G} {T : Nat → ClassId} {ad : Nat → Nat} (hO : xOk ad LM) : xMet l D T ad LM yX6_silentOf cX6_silentOf 4 (some .int) false 0 sp_X6_silentOf :=
  xmet (rt := 1) (fld := fldX6) (cals := calX6_silentOf) (cst := []) (I := iX6_silentOf) (cut := cutX6_silentOf) hO (by decide +kernel) ⟨by decide, by decide, by decide⟩ oX6_silentOf foX6 (fun _ h => absurd h List.not_mem_nil) (fun _ h => absurd h List.not_mem_nil) b_X6_silentOf
def f_X6_silentMany (M : xM) (Post : xR) : Prop := wM M ∧ Post (sS (M 2) (M 1) (M 0 0).toNat) M
abbrev sp_X6_silentMany : xT := spV0 0 f_X6_silentMany
set_option maxRecDepth 100000 in
set_option maxHeartbeats 4000000 in
theorem b_X6_silentMany (as : List xV) (M : xM) (Post : xR) (h : sp_X6_silentMany as M Post) : as.length ≤ 3 ∧ ∃ (Inv : xG) (μ : Nat → xL → List xV → xM → Nat) (f0 f1 : Nat), xw LM fldX6 (calX6_silentMany sp_X6_silentOf) [] 1 Post iX6_silentMany cutX6_silentMany Inv f0 0 (xlv as 3) [] M ∧ ∀ pc lv st M', Inv pc lv st M' → xw LM fldX6 (calX6_silentMany sp_X6_silentOf) [] 1 Post iX6_silentMany cutX6_silentMany (fun pc2 lv2 st2 M2 => Inv pc2 lv2 st2 M2 ∧ μ pc2 lv2 st2 M2 < μ pc lv st M') f1 pc lv st M' := by
  obtain ⟨rfl, h⟩ := h
  refine ⟨by simp, (fun pc lv st N => ∃ (t : Nat), pc = 4 ∧ lv = [some (.inr 0), some (.inl (sS (M 2) (M 1) t)), some (.inl (t : Int))] ∧ st = [] ∧ M = N ∧ (t : Int) ≤ M 0 0), (fun pc lv st N => match lv with | [_, _, some (.inl i)] => (10 - i).toNat | _ => 0), 400, 400, Eq.mpr (vcX6_silentMany_0 ..) ?_, ?_⟩
  · obtain ⟨hw, hp⟩ := h
    exact ⟨0, rfl, rfl, rfl, rfl, hw.1.1⟩
  · obtain ⟨hw, hp⟩ := h
    rintro pc lv st N ⟨t, rfl, rfl, rfl, rfl, h1⟩
    refine Eq.mpr (vcX6_silentMany_4 ..) ?_
    have hn := hw.1
    refine ⟨⟨by omega, by omega⟩, ⟨by omega, by omega⟩, fun q => ?_, fun q => ⟨_, rfl, hw, ⟨by omega, by omega⟩, ⟨t + 1, rfl, rfl, rfl, rfl, by omega⟩, by (change Int.toNat _ < Int.toNat _); omega⟩⟩
    rw [show (M 0 0).toNat = t by omega] at hp
    exact hp
theorem k_X6_silentMany {l : Launch} {D : va_G} {T : Nat → ClassId} {ad : Nat → Nat} (hO : xOk ad LM) : xMet l D T ad LM yX6_silentMany cX6_silentMany 3 (some .int) false 1 sp_X6_silentMany :=
  xmet (rt := 1) (fld := fldX6) (cals := (calX6_silentMany sp_X6_silentOf)) (cst := []) (I := iX6_silentMany) (cut := cutX6_silentMany) hO (by decide +kernel) ⟨by decide, by decide, by decide⟩ oX6_silentMany foX6 (fun _ h => absurd h List.not_mem_nil) (List.forall_mem_cons.mpr ⟨⟨yX6_silentOf, cX6_silentOf, 4, (some .int), 0, 1, by decide, yoX6_silentOf, k_X6_silentOf hO, loX6_56, Or.inr ⟨rfl, rfl, 0, 6, [none, some 1, some 2, none, some 3, some 4, some 5, none, some 6, some 7, some 8, some 9, none, none, none, none, some 10, some 11, some 12, none, none], TX6, 21, rfl, rfl, spV1_r⟩⟩, fun _ h => absurd h List.not_mem_nil⟩) b_X6_silentMany
def f_X6_drop (M : xM) (Post : xR) : Prop := Post (M 0 3) (xup M 0 3 0)
abbrev sp_X6_drop : xT := spV0 0 f_X6_drop
set_option maxRecDepth 100000 in
set_option maxHeartbeats 4000000 in
theorem b_X6_drop (as : List xV) (M : xM) (Post : xR) (h : sp_X6_drop as M Post) : as.length ≤ 2 ∧ xw LM fldX6 calX6_drop [] 1 Post iX6_drop cutX6_drop (fun _ _ _ _ => False) 400 0 (xlv as 2) [] M := by
  obtain ⟨rfl, h⟩ := h
  refine ⟨by simp, ?_⟩
  refine Eq.mpr (vcX6_drop_0 ..) ?_
  exact h
theorem k_X6_drop {l : Launch} {D : va_G} {T : Nat → ClassId} {ad : Nat → Nat} (hO : xOk ad LM) : xMet l D T ad LM yX6_drop cX6_drop 2 (some .int) false 0 sp_X6_drop :=
  xmet0 (rt := 1) (fld := fldX6) (cals := calX6_drop) (cst := []) (I := iX6_drop) (cut := cutX6_drop) hO (by decide +kernel) ⟨by decide, by decide, by decide⟩ oX6_drop foX6 (fun _ h => absurd h List.not_mem_nil) (fun _ h => absurd h List.not_mem_nil) b_X6_drop
def f_X6_at (t i : Int) (M : xM) (Post : xR) : Prop := rg t ∧ rg i ∧ wM M ∧ Post (atA (SM M) t i) M
abbrev sp_X6_at : xT := spV2 0 f_X6_at
set_option maxRecDepth 100000 in
set_option maxHeartbeats 4000000 in
theorem b_X6_at (as : List xV) (M : xM) (Post : xR) (h : sp_X6_at as M Post) : as.length ≤ 3 ∧ xw LM fldX6 (calX6_at sp_X6_in) [] 1 Post iX6_at cutX6_at (fun _ _ _ _ => False) 400 0 (xlv as 3) [] M := by
  obtain ⟨v1, v2, rfl, h⟩ := h
  refine ⟨by simp, ?_⟩
  refine Eq.mpr (vcX6_at_0 ..) ?_
  obtain ⟨h1, h2, hw, hp⟩ := h
  have hn := hw.1
  have hp2 : ∀ v, atA (SM M) v1 v2 = v → Post v M := fun v e => by rw [← e]; exact hp
  refine ⟨_, _, _, rfl, h1, ⟨by omega, by omega⟩, ⟨by omega, by omega⟩, fun r hr => ⟨⟨by omega, by omega⟩, fun q => hp2 _ ?_, fun q => ?_⟩⟩
  · unfold atA; rw [if_neg (fun z => by have : v1 < M 0 0 := z.1.2; omega)]
  · have hl := hw.2.1 v1 (by omega) (by omega)
    refine ⟨⟨by omega, by omega⟩, _, _, _, rfl, h2, ⟨by omega, by omega⟩, ⟨by omega, by omega⟩, fun r2 hr2 => ⟨⟨by omega, by omega⟩, fun q2 => hp2 _ ?_, fun q2 => ⟨⟨by omega, by omega⟩, hp2 _ ?_⟩⟩⟩
    · unfold atA; rw [if_neg (fun z => by have : v2 < M 1 v1 := z.2.2; omega)]
    · unfold atA
      rw [if_pos ⟨⟨by omega, show v1 < M 0 0 by omega⟩, by omega, show v2 < M 1 v1 by omega⟩]
      show M 2 (v1 * 6 + v2) = _
      rw [show v1 * 6 + v2 = 6 * v1 + v2 by omega]
theorem k_X6_at {l : Launch} {D : va_G} {T : Nat → ClassId} {ad : Nat → Nat} (hO : xOk ad LM) : xMet l D T ad LM yX6_at cX6_at 3 (some .int) false 1 sp_X6_at :=
  xmet0 (rt := 1) (fld := fldX6) (cals := (calX6_at sp_X6_in)) (cst := []) (I := iX6_at) (cut := cutX6_at) hO (by decide +kernel) ⟨by decide, by decide, by decide⟩ oX6_at foX6 (fun _ h => absurd h List.not_mem_nil) (List.forall_mem_cons.mpr ⟨⟨yX6_in, cX6_in, 3, (some .boolean), 0, 3, by decide, yoX6_in, k_X6_in hO, loX6_48, Or.inl ⟨rfl, rfl⟩⟩, fun _ h => absurd h List.not_mem_nil⟩) b_X6_at
def twM (M : xM) (n : Int) : Prop := ∃ i, 0 ≤ i ∧ i < M 0 3 ∧ M 3 i = n
def f_X6_hop (n : Int) (M : xM) (Post : xR) : Prop := rg n ∧ wM M ∧ sS (M 2) (M 1) (M 0 0).toNat + cS (M 3) 0 (M 0 3).toNat ≤ 4 ∧ (¬ (-1 ≤ n ∧ n ≤ 5) → Post (-2) M) ∧ (0 ≤ n → n ≤ 5 → twM M n → Post (-3) M) ∧ (-1 ≤ n → n ≤ 5 → (n = -1 ∨ ¬ twM M n) → (6 ≤ M 0 3 ∨ n = -1 ∧ 4 ≤ sS (M 2) (M 1) (M 0 0).toNat + cS (M 3) 0 (M 0 3).toNat) → Post (-5) M) ∧ (-1 ≤ n → n ≤ 5 → (n = -1 ∨ ¬ twM M n) → M 0 3 < 6 → (n = -1 → sS (M 2) (M 1) (M 0 0).toNat + cS (M 3) 0 (M 0 3).toNat < 4) → Post (M 0 3 + 1) (xup (xup M 3 (M 0 3) n) 0 3 (M 0 3 + 1)))
abbrev sp_X6_hop : xT := spV1 0 f_X6_hop
set_option maxRecDepth 100000 in
set_option maxHeartbeats 4000000 in
theorem b_X6_hop (as : List xV) (M : xM) (Post : xR) (h : sp_X6_hop as M Post) : as.length ≤ 4 ∧ ∃ (Inv : xG) (μ : Nat → xL → List xV → xM → Nat) (f0 f1 : Nat), xw LM fldX6 (calX6_hop sp_X6_in sp_X6_silentMany) [] 1 Post iX6_hop cutX6_hop Inv f0 0 (xlv as 4) [] M ∧ ∀ pc lv st M', Inv pc lv st M' → xw LM fldX6 (calX6_hop sp_X6_in sp_X6_silentMany) [] 1 Post iX6_hop cutX6_hop (fun pc2 lv2 st2 M2 => Inv pc2 lv2 st2 M2 ∧ μ pc2 lv2 st2 M2 < μ pc lv st M') f1 pc lv st M' := by
  obtain ⟨v1, rfl, h⟩ := h
  refine ⟨by simp, (fun pc lv st N => ∃ (i : Nat), pc = 19 ∧ lv = [some (.inr 0), some (.inl v1), some (.inl (sS (M 2) (M 1) (M 0 0).toNat + cS (M 3) 0 i)), some (.inl (i : Int))] ∧ st = [] ∧ M = N ∧ (i : Int) ≤ M 0 3 ∧ (-1 ≤ v1 ∧ v1 ≤ 5) ∧ ∀ j, 0 ≤ j → j < (i : Int) → v1 ≠ -1 → M 3 j ≠ v1), (fun pc lv st N => match lv with | [_, _, _, some (.inl i)] => (10 - i).toNat | _ => 0), 400, 400, Eq.mpr (vcX6_hop_0 ..) ?_, ?_⟩
  · obtain ⟨h1, hw, h4, p1, p2, p3, p4⟩ := h
    refine ⟨_, _, _, rfl, h1, ⟨by omega, by omega⟩, ⟨by omega, by omega⟩, fun r hr => ⟨⟨by omega, by omega⟩, fun q => ⟨rfl, hw, 0, rfl, ?_, rfl, rfl, hw.2.2.2.1.1, by omega, fun j _ _ => by omega⟩, fun q => p1 (by omega)⟩⟩
    show _ = ([some (.inr 0), some (.inl v1), some (.inl (sS (M 2) (M 1) (M 0 0).toNat + 0)), some (.inl 0)] : xL)
    rw [Int.add_zero]
  · obtain ⟨h1, hw, h4, p1, p2, p3, p4⟩ := h
    rintro pc lv st N ⟨i, rfl, rfl, rfl, rfl, h2, h3, h5⟩
    refine Eq.mpr (vcX6_hop_19 ..) ?_
    have hh := hw.2.2.2.1
    have hs0 := sS_0 (M 2) (M 1) (M 0 0).toNat
    have hc0 := cS_b (M 3) 0 i
    have hcm : cS (M 3) 0 i ≤ cS (M 3) 0 (M 0 3).toNat := cS_mono _ _ (by omega)
    have e00 : (xup M 3 (M 0 3) v1) 0 3 = M 0 3 := by rw [xup_ne (by decide)]
    have e01 : (xup (xup M 3 (M 0 3) v1) 0 3 (M 0 3 + 1)) 0 3 = M 0 3 + 1 := by rw [xup_at, if_pos rfl]
    refine ⟨⟨by omega, by omega⟩, ⟨by omega, by omega⟩, fun q => ?_, fun q => ?_⟩
    · have hi : i = (M 0 3).toNat := by omega
      have hnt : v1 = -1 ∨ ¬ twM M v1 := by
        by_cases hv : v1 = -1
        · exact Or.inl hv
        · right
          rintro ⟨j, a, b, c⟩
          exact h5 j a (by omega) hv c
      rw [e00, e01]
      refine ⟨⟨by omega, by omega⟩, ⟨by omega, by omega⟩, fun q1 => p3 h3.1 h3.2 hnt (Or.inl (by omega)), fun q1 => ⟨h1, ⟨by omega, by omega⟩, fun q2 => ⟨⟨by omega, by omega⟩, p4 h3.1 h3.2 hnt (by omega) (fun z => (q2 z).elim)⟩, fun q2 => ⟨⟨by omega, by omega⟩, ⟨by omega, by omega⟩, fun q3 => ⟨⟨by omega, by omega⟩, p4 h3.1 h3.2 hnt (by omega) (fun _ => by rw [← hi]; rw [← hi] at h4; omega)⟩, fun q3 => p3 h3.1 h3.2 hnt (Or.inr ⟨q2, by rw [← hi]; omega⟩)⟩⟩⟩
    · have hb := hw.2.2.2.2.1 i (by omega) (by omega)
      have nx : ∀ v, v = sS (M 2) (M 1) (M 0 0).toNat + cS (M 3) 0 (i + 1) → (v1 ≠ -1 → M 3 i ≠ v1) → ∃ (i' : Nat), (19 : Nat) = 19 ∧ ([some (.inr 0), some (.inl v1), some (.inl v), some (.inl ((i : Int) + 1))] : xL) = [some (.inr 0), some (.inl v1), some (.inl (sS (M 2) (M 1) (M 0 0).toNat + cS (M 3) 0 i')), some (.inl (i' : Int))] ∧ ([] : List xV) = [] ∧ M = M ∧ (i' : Int) ≤ M 0 3 ∧ (-1 ≤ v1 ∧ v1 ≤ 5) ∧ ∀ j, 0 ≤ j → j < (i' : Int) → v1 ≠ -1 → M 3 j ≠ v1 := by
        intro v hv hne
        refine ⟨i + 1, rfl, by rw [hv]; rfl, rfl, rfl, by omega, h3, fun j a b c => ?_⟩
        by_cases hj : j = i
        · subst hj; exact hne c
        · exact h5 j a (by omega) c
      have c1 : M 3 i = -1 → cS (M 3) 0 (i + 1) = cS (M 3) 0 i + 1 := fun z => by simp only [cS]; rw [Int.zero_add, if_pos z]
      have c2 : M 3 i ≠ -1 → cS (M 3) 0 (i + 1) = cS (M 3) 0 i := fun z => by simp only [cS]; rw [Int.zero_add, if_neg z, Int.add_zero]
      refine ⟨h1, ⟨by omega, by omega⟩, fun q1 => ⟨⟨by omega, by omega⟩, ⟨by omega, by omega⟩, ⟨by omega, by omega⟩, fun q2 => ⟨nx _ (by rw [c2 q2]; omega) (fun z => (z q1).elim), by (change Int.toNat _ < Int.toNat _); omega⟩, fun q2 => ⟨nx _ (by rw [c1 q2]; omega) (fun z => (z q1).elim), by (change Int.toNat _ < Int.toNat _); omega⟩⟩, fun q1 => ⟨⟨by omega, by omega⟩, ⟨by omega, by omega⟩, h1, fun q2 => ⟨⟨by omega, by omega⟩, ⟨by omega, by omega⟩, ⟨by omega, by omega⟩, fun q3 => ⟨nx _ (by rw [c2 q3]; omega) (fun _ => q2), by (change Int.toNat _ < Int.toNat _); omega⟩, fun q3 => ⟨nx _ (by rw [c1 q3]; omega) (fun _ => q2), by (change Int.toNat _ < Int.toNat _); omega⟩⟩, fun q2 => p2 (by omega) h3.2 ⟨i, by omega, q, q2⟩⟩⟩
theorem k_X6_hop {l : Launch} {D : va_G} {T : Nat → ClassId} {ad : Nat → Nat} (hO : xOk ad LM) : xMet l D T ad LM yX6_hop cX6_hop 4 (some .int) false 2 sp_X6_hop :=
  xmet (rt := 1) (fld := fldX6) (cals := (calX6_hop sp_X6_in sp_X6_silentMany)) (cst := []) (I := iX6_hop) (cut := cutX6_hop) hO (by decide +kernel) ⟨by decide, by decide, by decide⟩ oX6_hop foX6 (fun _ h => absurd h List.not_mem_nil) (List.forall_mem_cons.mpr ⟨⟨yX6_in, cX6_in, 3, (some .boolean), 0, 3, by decide, yoX6_in, k_X6_in hO, loX6_48, Or.inl ⟨rfl, rfl⟩⟩, List.forall_mem_cons.mpr ⟨⟨yX6_silentMany, cX6_silentMany, 3, (some .int), 1, 0, by decide, yoX6_silentMany, k_X6_silentMany hO, loX6_60, Or.inr ⟨rfl, rfl, 0, 6, [none, some 1, some 2, none, some 3, some 4, some 5, none, some 6, some 7, some 8, some 9, none, none, none, none, some 10, some 11, some 12, none, none], TX6, 21, rfl, rfl, spV0_r⟩⟩, fun _ h => absurd h List.not_mem_nil⟩⟩) b_X6_hop

