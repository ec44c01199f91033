/-! the reference: isSeen, count, forget -/
theorem allM {M : xM} (h : 0 ≤ M 0 0 ∧ M 0 0 ≤ 6) : (xi 1 <<< (xi (M 0 0) &&& 31)).toInt - 1 = allV (SM M) := by
  have e : (xi 1 <<< (xi (M 0 0) &&& 31)).toInt = ((2 ^ (M 0 0).toNat : Nat) : Int) := by
    rw [← bs_one (by omega), Int.toNat_of_nonneg h.1]
  rw [e]
  rfl
theorem thr_all {M : xM} (h : 0 ≤ M 0 0 ∧ M 0 0 ≤ 6) (n : Int) : thr M (allV (SM M)) n ↔ nmS (SM M) n := by
  constructor
  · rintro ⟨t, i, a, b, -, c⟩
    exact ⟨t, i, a, b, c⟩
  · rintro ⟨t, i, a, b, c⟩
    exact ⟨t, i, a, b, (tb_all h.1 a).mpr b, c⟩
theorem bxT_all {M : xM} (h : 0 ≤ M 0 0 ∧ M 0 0 ≤ 6) (b : Int) : bxT M (allV (SM M)) b ↔ thB (SM M) b := by
  constructor
  · rintro ⟨n, a1, a2, a3, a4⟩
    exact ⟨n, a1, a2, a3, (thr_all h n).mp a4⟩
  · rintro ⟨n, a1, a2, a3, a4⟩
    exact ⟨n, a1, a2, a3, (thr_all h n).mpr a4⟩
def f_X6_isSeen (n : Int) (M : xM) (Post : xR) : Prop := rg n ∧ wM M ∧ ∀ r, (r = 1 ∧ ((0 ≤ n ∧ n < 6) ∧ nmS (SM M) n) ∨ r = 0 ∧ ¬ ((0 ≤ n ∧ n < 6) ∧ nmS (SM M) n)) → Post r M
abbrev sp_X6_isSeen : xT := spV1 0 f_X6_isSeen
set_option maxRecDepth 100000 in
set_option maxHeartbeats 4000000 in
theorem b_X6_isSeen (as : List xV) (M : xM) (Post : xR) (h : sp_X6_isSeen as M Post) : as.length ≤ 2 ∧ xw LM fldX6 (calX6_isSeen sp_X6_isName sp_X6_isThere) [] 2 Post iX6_isSeen cutX6_isSeen (fun _ _ _ _ => False) 400 0 (xlv as 2) [] M := by
  obtain ⟨v1, rfl, h⟩ := h
  refine ⟨by simp, ?_⟩
  refine Eq.mpr (vcX6_isSeen_0 ..) ?_
  obtain ⟨h1, hw, hp⟩ := h
  refine ⟨_, rfl, h1, fun r1 hr1 => ⟨⟨by omega, by omega⟩, fun q => ⟨by omega, hp 0 (Or.inr ⟨rfl, fun z => by have := z.1; omega⟩)⟩, fun q => ?_⟩⟩
  rw [allM hw.1]
  refine ⟨_, _, rfl, hw, all_b hw.1, h1, fun r2 hr2 => ⟨⟨by omega, by omega⟩, fun q2 => ⟨by omega, hp 0 (Or.inr ⟨rfl, fun z => ?_⟩)⟩, fun q2 => ⟨by omega, hp 1 (Or.inl ⟨rfl, by omega, ?_⟩)⟩⟩⟩
  · exact (hr2.elim (fun y => by omega) (fun y => y.2) : ¬ thr M (allV (SM M)) v1) ((thr_all hw.1 v1).mpr z.2)
  · exact (thr_all hw.1 v1).mp (hr2.elim (fun y => y.2) (fun y => (q2 y.1).elim))
theorem k_X6_isSeen {l : Launch} {D : va_G} {T : Nat → ClassId} {ad : Nat → Nat} (hO : xOk ad LM) : xMet l D T ad LM yX6_isSeen cX6_isSeen 2 (some .boolean) false 2 sp_X6_isSeen :=
  xmet0 (rt := 2) (fld := fldX6) (cals := (calX6_isSeen sp_X6_isName sp_X6_isThere)) (cst := []) (I := iX6_isSeen) (cut := cutX6_isSeen) hO (by decide +kernel) ⟨by decide, by decide, by decide⟩ oX6_isSeen foX6 (fun _ h => absurd h List.not_mem_nil) (List.forall_mem_cons.mpr ⟨⟨yX6_isName, cX6_isName, 1, (some .boolean), 1, 1, by decide, yoX6_isName, k_X6_isName hO, loX6_67, Or.inl ⟨rfl, rfl⟩⟩, List.forall_mem_cons.mpr ⟨⟨yX6_isThere, cX6_isThere, 6, (some .boolean), 0, 2, by decide, yoX6_isThere, k_X6_isThere hO, loX6_74, Or.inr ⟨rfl, rfl, 0, 6, [none, some 1, some 2, none, some 3, some 4, some 5, none, some 6, some 7, some 8, some 9, none, none, none, none, some 10, some 11, some 12, none, none], TX6, 21, rfl, rfl, spV2_r⟩⟩, fun _ h => absurd h List.not_mem_nil⟩⟩) b_X6_isSeen
def f_X6_count (w : Int) (M : xM) (Post : xR) : Prop := rg w ∧ wM M ∧ Post (ctA (SM M) (M 0 3) w) M
abbrev sp_X6_count : xT := spV1 0 f_X6_count
set_option maxRecDepth 100000 in
set_option maxHeartbeats 4000000 in
theorem b_X6_count (as : List xV) (M : xM) (Post : xR) (h : sp_X6_count as M Post) : as.length ≤ 4 ∧ ∃ (Inv : xG) (μ : Nat → xL → List xV → xM → Nat) (f0 f1 : Nat), xw LM fldX6 (calX6_count sp_X6_silentMany sp_X6_isSeen sp_X6_boxMany) [] 1 Post iX6_count cutX6_count Inv f0 0 (xlv as 4) [] M ∧ ∀ pc lv st M', Inv pc lv st M' → xw LM fldX6 (calX6_count sp_X6_silentMany sp_X6_isSeen sp_X6_boxMany) [] 1 Post iX6_count cutX6_count (fun pc2 lv2 st2 M2 => Inv pc2 lv2 st2 M2 ∧ μ pc2 lv2 st2 M2 < μ pc lv st M') f1 pc lv st M' := by
  obtain ⟨v1, rfl, h⟩ := h
  refine ⟨by simp, (fun pc lv st N => ∃ (b : Nat), pc = 48 ∧ lv = [some (.inr 0), some (.inl v1), some (.inl ((sm (fun b => bb (nmS (SM M) (b : Int))) b : Nat) : Int)), some (.inl (b : Int))] ∧ st = [] ∧ M = N ∧ b ≤ 6 ∧ v1 = 2), (fun pc lv st N => match lv with | [_, _, _, some (.inl n)] => (10 - n).toNat | _ => 0), 400, 400, Eq.mpr (vcX6_count_0 ..) ?_, ?_⟩
  · obtain ⟨h1, hw, hp⟩ := h
    unfold ctA at hp
    refine ⟨h1, fun q => ?_, fun q => ?_, fun q => ?_, fun q => ⟨rfl, hw, ?_⟩, fun q => ⟨0, rfl, rfl, rfl, rfl, by omega, by omega⟩, fun q => ?_, fun q => ?_, trivial⟩
    · rw [if_neg (by omega), if_neg (by omega), if_neg (by omega), if_neg (by omega), if_neg (by omega)] at hp; exact hp
    · rw [if_neg (by omega), if_neg (by omega), if_neg (by omega), if_neg (by omega), if_neg (by omega)] at hp; exact hp
    · rw [if_pos q] at hp; exact hp
    · rw [if_neg (by omega), if_pos (by omega), mS_c] at hp; exact hp
    · rw [if_neg (by omega), if_neg (by omega), if_neg (by omega), if_pos (by omega)] at hp; exact hp
    · rw [if_neg (by omega), if_neg (by omega), if_neg (by omega), if_neg (by omega), if_pos (by omega)] at hp
      rw [allM hw.1]
      refine ⟨_, rfl, hw, all_b hw.1, ?_⟩
      have e : sm (fun b => bb (bxT M (allV (SM M)) (b : Int))) 6 = nbx (SM M) := sm_congr (fun i _ => bb_congr (bxT_all hw.1 i))
      rw [e]
      exact hp
  · obtain ⟨h1, hw, hp⟩ := h
    rintro pc lv st N ⟨b, rfl, rfl, rfl, rfl, h2, rfl⟩
    refine Eq.mpr (vcX6_count_48 ..) ?_
    refine ⟨⟨by omega, by omega⟩, ⟨by omega, by omega⟩, fun q => ?_, fun q => ⟨_, rfl, ⟨by omega, by omega⟩, hw, fun r hr => ⟨⟨by omega, by omega⟩, fun q1 => ⟨⟨b + 1, rfl, ?_, rfl, rfl, by omega, rfl⟩, by (change Int.toNat _ < Int.toNat _); omega⟩, fun q1 => ⟨⟨b + 1, rfl, ?_, rfl, rfl, by omega, rfl⟩, by (change Int.toNat _ < Int.toNat _); omega⟩⟩⟩⟩
    · rw [show b = 6 by omega]
      unfold ctA at hp
      rw [if_neg (by omega), if_neg (by omega), if_pos rfl] at hp
      exact hp
    · have : ¬ nmS (SM M) b := fun z => (hr.elim (fun y => by omega) (fun y => y.2) : ¬ ((0 ≤ (b : Int) ∧ (b : Int) < 6) ∧ nmS (SM M) b)) ⟨by omega, z⟩
      simp only [sm, bb0 this, Nat.add_zero, Int.add_zero]
      rfl
    · have : nmS (SM M) b := (hr.elim (fun y => y.2) (fun y => (q1 y.1).elim)).2
      simp only [sm, bb1 this]
      rfl
theorem k_X6_count {l : Launch} {D : va_G} {T : Nat → ClassId} {ad : Nat → Nat} (hO : xOk ad LM) : xMet l D T ad LM yX6_count cX6_count 4 (some .int) false 3 sp_X6_count :=
  xmet (rt := 1) (fld := fldX6) (cals := (calX6_count sp_X6_silentMany sp_X6_isSeen sp_X6_boxMany)) (cst := []) (I := iX6_count) (cut := cutX6_count) hO (by decide +kernel) ⟨by decide, by decide, by decide⟩ oX6_count foX6 (fun _ h => absurd h List.not_mem_nil) (List.forall_mem_cons.mpr ⟨⟨yX6_silentMany, cX6_silentMany, 3, (some .int), 1, 0, by decide, yoX6_silentMany, k_X6_silentMany hO, loX6_60, Or.inr ⟨rfl, rfl, 0, 6, [none, some 1, some 2, none, some 3, some 4, some 5, none, some 6, some 7, some 8, some 9, none, none, none, none, some 10, some 11, some 12, none, none], TX6, 21, rfl, rfl, spV0_r⟩⟩, List.forall_mem_cons.mpr ⟨⟨yX6_isSeen, cX6_isSeen, 2, (some .boolean), 2, 1, by decide, yoX6_isSeen, k_X6_isSeen hO, loX6_130, Or.inr ⟨rfl, rfl, 0, 6, [none, some 1, some 2, none, some 3, some 4, some 5, none, some 6, some 7, some 8, some 9, none, none, none, none, some 10, some 11, some 12, none, none], TX6, 21, rfl, rfl, spV1_r⟩⟩, List.forall_mem_cons.mpr ⟨⟨yX6_boxMany, cX6_boxMany, 4, (some .int), 2, 1, by decide, yoX6_boxMany, k_X6_boxMany hO, loX6_100, Or.inr ⟨rfl, rfl, 0, 6, [none, some 1, some 2, none, some 3, some 4, some 5, none, some 6, some 7, some 8, some 9, none, none, none, none, some 10, some 11, some 12, none, none], TX6, 21, rfl, rfl, spV1_r⟩⟩, fun _ h => absurd h List.not_mem_nil⟩⟩⟩) b_X6_count
def f_X6_forget (t0 : Int) (M : xM) (Post : xR) : Prop := rg t0 ∧ wM M ∧ (¬ (0 ≤ t0 ∧ t0 < M 0 0) → Post (-2) M) ∧ (0 ≤ t0 → t0 < M 0 0 → ∀ M' : xM, M' 0 0 = M 0 0 - 1 → (∀ k, k ≠ 0 → M' 0 k = M 0 k) → (∀ t, t < t0 → M' 1 t = M 1 t) → (∀ t, t0 ≤ t → t < M 0 0 - 1 → M' 1 t = M 1 (t + 1)) → (∀ t, M 0 0 - 1 ≤ t → M' 1 t = M 1 t) → (∀ q, q < t0 * 6 → M' 2 q = M 2 q) → (∀ t i, t0 ≤ t → t < M 0 0 - 1 → 0 ≤ i → i < 6 → M' 2 (t * 6 + i) = M 2 ((t + 1) * 6 + i)) → (∀ q, (M 0 0 - 1) * 6 ≤ q → M' 2 q = M 2 q) → (∀ c, c ≠ 0 → c ≠ 1 → c ≠ 2 → M' c = M c) → Post (M 0 0 - 1) M')
abbrev sp_X6_forget : xT := spV1 0 f_X6_forget
set_option maxRecDepth 100000 in
set_option maxHeartbeats 4000000 in
theorem b_X6_forget (as : List xV) (M : xM) (Post : xR) (h : sp_X6_forget as M Post) : as.length ≤ 4 ∧ ∃ (Inv : xG) (μ : Nat → xL → List xV → xM → Nat) (f0 f1 : Nat), xw LM fldX6 (calX6_forget sp_X6_in) [] 1 Post iX6_forget cutX6_forget Inv f0 0 (xlv as 4) [] M ∧ ∀ pc lv st M', Inv pc lv st M' → xw LM fldX6 (calX6_forget sp_X6_in) [] 1 Post iX6_forget cutX6_forget (fun pc2 lv2 st2 M2 => Inv pc2 lv2 st2 M2 ∧ μ pc2 lv2 st2 M2 < μ pc lv st M') f1 pc lv st M' := by
  obtain ⟨v1, rfl, h⟩ := h
  refine ⟨by simp, (fun pc lv st N => (∃ (k : Int) (o3 : Option xV), pc = 29 ∧ lv = [some (.inr 0), some (.inl v1), some (.inl k), o3] ∧ st = [] ∧ (0 ≤ v1 ∧ v1 < M 0 0) ∧ (v1 ≤ k ∧ k ≤ M 0 0 - 1) ∧ N 0 0 = M 0 0 - 1 ∧ (∀ j, j ≠ 0 → N 0 j = M 0 j) ∧ (∀ t, t < v1 → N 1 t = M 1 t) ∧ (∀ t, v1 ≤ t → t < k → N 1 t = M 1 (t + 1)) ∧ (∀ t, k ≤ t → N 1 t = M 1 t) ∧ (∀ q, q < v1 * 6 → N 2 q = M 2 q) ∧ (∀ t i, v1 ≤ t → t < k → 0 ≤ i → i < 6 → N 2 (t * 6 + i) = M 2 ((t + 1) * 6 + i)) ∧ (∀ q, k * 6 ≤ q → N 2 q = M 2 q) ∧ ∀ c, c ≠ 0 → c ≠ 1 → c ≠ 2 → N c = M c) ∨ (∃ (k i : Int), pc = 53 ∧ lv = [some (.inr 0), some (.inl v1), some (.inl k), some (.inl i)] ∧ st = [] ∧ (0 ≤ v1 ∧ v1 < M 0 0) ∧ (v1 ≤ k ∧ k < M 0 0 - 1) ∧ (0 ≤ i ∧ i ≤ 6) ∧ N 0 0 = M 0 0 - 1 ∧ (∀ j, j ≠ 0 → N 0 j = M 0 j) ∧ (∀ t, t < v1 → N 1 t = M 1 t) ∧ (∀ t, v1 ≤ t → t < k + 1 → N 1 t = M 1 (t + 1)) ∧ (∀ t, k + 1 ≤ t → N 1 t = M 1 t) ∧ (∀ q, q < v1 * 6 → N 2 q = M 2 q) ∧ (∀ t j, v1 ≤ t → t < k → 0 ≤ j → j < 6 → N 2 (t * 6 + j) = M 2 ((t + 1) * 6 + j)) ∧ (∀ j, 0 ≤ j → j < i → N 2 (k * 6 + j) = M 2 ((k + 1) * 6 + j)) ∧ (∀ q, k * 6 + i ≤ q → N 2 q = M 2 q) ∧ ∀ c, c ≠ 0 → c ≠ 1 → c ≠ 2 → N c = M c)), (fun pc lv st N => match pc, lv with | 29, [_, _, some (.inl k), _] => ((7 - k) * 100).toNat | 53, [_, _, some (.inl k), some (.inl i)] => ((6 - k) * 100 + 50 - i).toNat | _, _ => 0), 400, 400, Eq.mpr (vcX6_forget_0 ..) ?_, ?_⟩
  · obtain ⟨h1, hw, p1, p2⟩ := h
    have hn := hw.1
    refine ⟨_, _, _, rfl, h1, ⟨by omega, by omega⟩, ⟨by omega, by omega⟩, fun r hr => ⟨⟨by omega, by omega⟩, fun q => Or.inl ⟨v1, none, rfl, rfl, rfl, by omega, by omega, by rw [xup_at, if_pos rfl], fun j hj => by rw [xup_at, if_neg hj], fun t _ => by rw [xup_ne (by decide)], fun t _ _ => by omega, fun t _ => by rw [xup_ne (by decide)], fun u _ => by rw [xup_ne (by decide)], fun t i _ _ => by omega, fun u _ => by rw [xup_ne (by decide)], fun c c0 _ _ => xup_ne c0⟩, fun q => p1 (by omega)⟩⟩
  · obtain ⟨h1, hw, p1, p2⟩ := h
    have hn := hw.1
    rintro pc lv st N (⟨k, o3, rfl, rfl, rfl, a0, a1, a2, a3, a4, a5, a6, a7, a8, a9, a10⟩ | ⟨k, i, rfl, rfl, rfl, a0, a1, ai, a2, a3, a4, a5, a6, a7, a8, a8', a9, a10⟩)
    · refine Eq.mpr (vcX6_forget_29 ..) ?_
      rw [a2]
      refine ⟨⟨by omega, by omega⟩, ⟨by omega, by omega⟩, fun q => ?_, fun q => ⟨⟨by omega, by omega⟩, ⟨by omega, by omega⟩, Or.inr ⟨k, 0, rfl, rfl, rfl, a0, by omega, by omega, by rw [xup_ne (by decide)]; exact a2, fun j hj => by rw [xup_ne (by decide)]; exact a3 j hj, fun t ht => by rw [xup_at, if_neg (by omega)]; exact a4 t ht, fun t b c => ?_, fun t b => by rw [xup_at, if_neg (by omega)]; exact a6 t (by omega), fun u b => by rw [xup_ne (by decide)]; exact a7 u b, fun t j b c d e => by rw [xup_ne (by decide)]; exact a8 t j b c d e, fun j _ _ => by omega, fun u b => by rw [xup_ne (by decide)]; exact a9 u (by omega), fun c c0 c1 c2 => by rw [xup_ne c1]; exact a10 c c0 c1 c2⟩, by (change Int.toNat _ < Int.toNat _); omega⟩⟩
      · have hk : k = M 0 0 - 1 := by omega
        subst hk
        exact p2 a0.1 a0.2 N a2 a3 a4 a5 a6 a7 a8 a9 a10
      · rw [xup_at]
        by_cases ht : t = k
        · rw [if_pos ht, ht]; exact a6 (k + 1) (by omega)
        · rw [if_neg ht]; exact a5 t b (by omega)
    · refine Eq.mpr (vcX6_forget_53 ..) ?_
      refine ⟨⟨by omega, by omega⟩, ⟨by omega, by omega⟩, fun q => ⟨Or.inl ⟨k + 1, _, rfl, rfl, rfl, a0, by omega, a2, a3, a4, a5, a6, a7, fun t j b c d e => ?_, fun u b => a9 u (by omega), a10⟩, by (change Int.toNat _ < Int.toNat _); omega⟩, fun q => ⟨⟨by omega, by omega⟩, ⟨by omega, by omega⟩, Or.inr ⟨k, i + 1, rfl, rfl, rfl, a0, a1, by omega, by rw [xup_ne (by decide)]; exact a2, fun j hj => by rw [xup_ne (by decide)]; exact a3 j hj, fun t ht => by rw [xup_ne (by decide)]; exact a4 t ht, fun t b c => by rw [xup_ne (by decide)]; exact a5 t b c, fun t b => by rw [xup_ne (by decide)]; exact a6 t b, fun u b => by rw [xup_at, if_neg (by omega)]; exact a7 u b, fun t j b c d e => by rw [xup_at, if_neg (by omega)]; exact a8 t j b c d e, fun j b c => ?_, fun u b => by rw [xup_at, if_neg (by omega)]; exact a9 u (by omega), fun c c0 c1 c2 => by rw [xup_ne c2]; exact a10 c c0 c1 c2⟩, by (change Int.toNat _ < Int.toNat _); omega⟩⟩
      · by_cases ht : t = k
        · subst ht; exact a8' j d (by omega)
        · exact a8 t j b (by omega) d e
      · rw [xup_at]
        by_cases hj : j = i
        · rw [if_pos (by omega), hj, a9 _ (by omega)]
          congr 1
          omega
        · rw [if_neg (by omega)]; exact a8' j b (by omega)
theorem k_X6_forget {l : Launch} {D : va_G} {T : Nat → ClassId} {ad : Nat → Nat} (hO : xOk ad LM) : xMet l D T ad LM yX6_forget cX6_forget 4 (some .int) false 1 sp_X6_forget :=
  xmet (rt := 1) (fld := fldX6) (cals := (calX6_forget sp_X6_in)) (cst := []) (I := iX6_forget) (cut := cutX6_forget) hO (by decide +kernel) ⟨by decide, by decide, by decide⟩ oX6_forget foX6 (fun _ h => absurd h List.not_mem_nil) (List.forall_mem_cons.mpr ⟨⟨yX6_in, cX6_in, 3, (some .boolean), 0, 3, by decide, yoX6_in, k_X6_in hO, loX6_48, Or.inl ⟨rfl, rfl⟩⟩, fun _ h => absurd h List.not_mem_nil⟩) b_X6_forget

