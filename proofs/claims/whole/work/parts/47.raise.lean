/-! the reference: raise, newMany, begin, goOn -/
def sM (M N : xM) : Prop := N 0 0 = M 0 0 ∧ N 0 3 = M 0 3 ∧ N 1 = M 1 ∧ N 2 = M 2 ∧ N 3 = M 3 ∧ N 4 = M 4
theorem sM.SM_e {M N : xM} (h : sM M N) : SM N = SM M := by obtain ⟨a, b, c, d, e, f⟩ := h; simp only [SM, a, c, d, f]
theorem sM.wM_e {M N : xM} (h : sM M N) : wM N = wM M := by obtain ⟨a, b, c, d, e, f⟩ := h; simp only [wM, a, b, c, d, e, f]
theorem sM.thr_e {M N : xM} (h : sM M N) : thr N = thr M := by
  obtain ⟨a, b, c, d, e, f⟩ := h
  funext s n
  simp only [thr, a, c, d]
theorem sM.bxT_e {M N : xM} (h : sM M N) : bxT N = bxT M := by
  funext s n
  have := h.thr_e
  obtain ⟨a, b, c, d, e, f⟩ := h
  simp only [bxT, this, f]
theorem sM.bsM_e {M N : xM} (h : sM M N) (s : Int) : ∀ k, bsM N s k = bsM M s k := by
  obtain ⟨a, b, c, d, e, f⟩ := h
  intro k
  induction k with
  | zero => rfl
  | succ k ih => simp only [bsM, ih, c, d]
theorem sM.trans {M N L : xM} (h : sM M N) (g : sM N L) : sM M L := ⟨g.1.trans h.1, g.2.1.trans h.2.1, g.2.2.1.trans h.2.2.1, g.2.2.2.1.trans h.2.2.2.1, g.2.2.2.2.1.trans h.2.2.2.2.1, g.2.2.2.2.2.trans h.2.2.2.2.2⟩
theorem sM_5 {M N : xM} (h : ∀ c, c < 5 → N c = M c) : sM M N := ⟨by rw [h 0 (by decide)], by rw [h 0 (by decide)], h 1 (by decide), h 2 (by decide), h 3 (by decide), h 4 (by decide)⟩
def f_X6_raise (s i : Int) (M : xM) (Post : xR) : Prop := wM M ∧ (0 ≤ s ∧ s < 64) ∧ (0 ≤ i ∧ i < 4) ∧ (∀ j, 0 ≤ j → j ≤ i → -1 ≤ M 6 j ∧ M 6 j ≤ 10) ∧ ∀ r c, isLo (bxT M s) (M 6 i + 1) c → (r = 1 ∧ c ≤ nwsF (M 6) i.toNat ∨ r = 0 ∧ nwsF (M 6) i.toNat < c) → Post r (xup M 6 i c)
abbrev sp_X6_raise : xT := spV2 0 f_X6_raise
set_option maxRecDepth 100000 in
set_option maxHeartbeats 4000000 in
theorem b_X6_raise (as : List xV) (M : xM) (Post : xR) (h : sp_X6_raise as M Post) : as.length ≤ 5 ∧ ∃ (Inv : xG) (μ : Nat → xL → List xV → xM → Nat) (f0 f1 : Nat), xw LM fldX6 (calX6_raise sp_X6_isBoxThere) [] 2 Post iX6_raise cutX6_raise Inv f0 0 (xlv as 5) [] M ∧ ∀ pc lv st M', Inv pc lv st M' → xw LM fldX6 (calX6_raise sp_X6_isBoxThere) [] 2 Post iX6_raise cutX6_raise (fun pc2 lv2 st2 M2 => Inv pc2 lv2 st2 M2 ∧ μ pc2 lv2 st2 M2 < μ pc lv st M') f1 pc lv st M' := by
  obtain ⟨v1, v2, rfl, h⟩ := h
  refine ⟨by simp, (fun pc lv st N => (∃ (k : Nat), pc = 6 ∧ lv = [some (.inr 0), some (.inl v1), some (.inl v2), some (.inl (nwsF (M 6) k)), some (.inl (k : Int))] ∧ st = [] ∧ M = N ∧ (k : Int) ≤ v2) ∨ (∃ (b : Int), pc = 53 ∧ lv = [some (.inr 0), some (.inl v1), some (.inl v2), some (.inl (nwsF (M 6) v2.toNat)), some (.inl b)] ∧ st = [] ∧ M = N ∧ (M 6 v2 + 1 ≤ b ∧ b ≤ 11) ∧ ∀ d, M 6 v2 + 1 ≤ d → d < b → d < 6 ∧ ¬ bxT M v1 d)), (fun pc lv st N => match pc, lv with | 6, [_, _, _, _, some (.inl k)] => (200 - k).toNat | 53, [_, _, _, _, some (.inl b)] => (100 - b).toNat | _, _ => 0), 400, 400, Eq.mpr (vcX6_raise_0 ..) ?_, ?_⟩
  · obtain ⟨hw, hs, hi, hc, hp⟩ := h
    exact Or.inl ⟨0, rfl, rfl, rfl, rfl, hi.1⟩
  · obtain ⟨hw, hs, hi, hc, hp⟩ := h
    rintro pc lv st N (⟨k, rfl, rfl, rfl, rfl, a1⟩ | ⟨b, rfl, rfl, rfl, rfl, a1, a2⟩)
    · refine Eq.mpr (vcX6_raise_6 ..) ?_
      have hv := hc v2 hi.1 (Int.le_refl _)
      have hb := nwsF_b (f := M 6) (k := k) (fun j j0 j1 => (hc j j0 (by omega)).2)
      refine ⟨⟨by omega, by omega⟩, ⟨by omega, by omega⟩, fun q => ⟨hi, Or.inr ⟨M 6 v2 + 1, rfl, ?_, rfl, rfl, by omega, fun d _ _ => by omega⟩, by (change Int.toNat _ < Int.toNat _); omega⟩, fun q => ?_⟩
      · rw [show k = v2.toNat by omega]
      · have hk := hc k (by omega) (by omega)
        refine ⟨⟨by omega, by omega⟩, ⟨by omega, by omega⟩, ⟨by omega, by omega⟩, fun q1 => ⟨Or.inl ⟨k + 1, rfl, ?_, rfl, rfl, by omega⟩, by (change Int.toNat _ < Int.toNat _); omega⟩, fun q1 => ⟨⟨by omega, by omega⟩, Or.inl ⟨k + 1, rfl, ?_, rfl, rfl, by omega⟩, by (change Int.toNat _ < Int.toNat _); omega⟩⟩
        · simp only [nwsF, if_neg (show ¬ nwsF (M 6) k ≤ M 6 k by omega)]
          rfl
        · simp only [nwsF, if_pos q1]
          rfl
    · refine Eq.mpr (vcX6_raise_53 ..) ?_
      have hv := hc v2 hi.1 (Int.le_refl _)
      have hb := nwsF_b (f := M 6) (k := v2.toNat) (fun j j0 j1 => (hc j j0 (by omega)).2)
      have fin : (6 ≤ b ∨ bxT M v1 b) → (0 ≤ v2 ∧ v2 < 4) ∧ rg b ∧ rg (nwsF (M 6) v2.toNat) ∧ (nwsF (M 6) v2.toNat < b → ((0 : Int) = 0 ∨ (0 : Int) = 1) ∧ Post 0 (xup M 6 v2 b)) ∧ (b ≤ nwsF (M 6) v2.toNat → ((1 : Int) = 0 ∨ (1 : Int) = 1) ∧ Post 1 (xup M 6 v2 b)) := fun z => ⟨hi, ⟨by omega, by omega⟩, ⟨by omega, by omega⟩, fun q => ⟨by omega, hp 0 b ⟨a1.1, z, a2⟩ (Or.inr ⟨rfl, q⟩)⟩, fun q => ⟨by omega, hp 1 b ⟨a1.1, z, a2⟩ (Or.inl ⟨rfl, q⟩)⟩⟩
      refine ⟨⟨by omega, by omega⟩, ⟨by omega, by omega⟩, fun q => fin (Or.inl q), fun q => ⟨_, _, rfl, hw, hs, ⟨by omega, by omega⟩, fun r hr => ⟨⟨by omega, by omega⟩, fun q1 => fin (Or.inr (hr.elim (fun y => y.2) (fun y => (q1 y.1).elim))), fun q1 => ⟨Or.inr ⟨b + 1, rfl, rfl, rfl, rfl, by omega, fun d d0 d1 => ?_⟩, by (change Int.toNat _ < Int.toNat _); omega⟩⟩⟩⟩
      by_cases hd : d = b
      · subst hd; exact ⟨q, hr.elim (fun y => by omega) (fun y => y.2)⟩
      · exact a2 d d0 (by omega)
theorem k_X6_raise {l : Launch} {D : va_G} {T : Nat → ClassId} {ad : Nat → Nat} (hO : xOk ad LM) : xMet l D T ad LM yX6_raise cX6_raise 5 (some .boolean) false 2 sp_X6_raise :=
  xmet (rt := 2) (fld := fldX6) (cals := (calX6_raise sp_X6_isBoxThere)) (cst := []) (I := iX6_raise) (cut := cutX6_raise) hO (by decide +kernel) ⟨by decide, by decide, by decide⟩ oX6_raise foX6 (fun _ h => absurd h List.not_mem_nil) (List.forall_mem_cons.mpr ⟨⟨yX6_isBoxThere, cX6_isBoxThere, 5, (some .boolean), 1, 2, by decide, yoX6_isBoxThere, k_X6_isBoxThere hO, loX6_78, Or.inr ⟨rfl, rfl, 0, 6, [none, some 1, some 2, none, some 3, some 4, some 5, none, some 6, some 7, some 8, some 9, none, none, none, none, some 10, some 11, some 12, none, none], TX6, 21, rfl, rfl, spV2_r⟩⟩, fun _ h => absurd h List.not_mem_nil⟩) b_X6_raise
def f_X6_newMany (M : xM) (Post : xR) : Prop := (0 ≤ M 0 12 ∧ M 0 12 ≤ 4) ∧ (∀ j, 0 ≤ j → j < M 0 12 → -1 ≤ M 6 j ∧ M 6 j ≤ 10) ∧ Post (nwsF (M 6) (M 0 12).toNat - 6) M
abbrev sp_X6_newMany : xT := spV0 0 f_X6_newMany
set_option maxRecDepth 100000 in
set_option maxHeartbeats 4000000 in
theorem b_X6_newMany (as : List xV) (M : xM) (Post : xR) (h : sp_X6_newMany as M Post) : as.length ≤ 3 ∧ ∃ (Inv : xG) (μ : Nat → xL → List xV → xM → Nat) (f0 f1 : Nat), xw LM fldX6 calX6_newMany [] 1 Post iX6_newMany cutX6_newMany Inv f0 0 (xlv as 3) [] M ∧ ∀ pc lv st M', Inv pc lv st M' → xw LM fldX6 calX6_newMany [] 1 Post iX6_newMany cutX6_newMany (fun pc2 lv2 st2 M2 => Inv pc2 lv2 st2 M2 ∧ μ pc2 lv2 st2 M2 < μ pc lv st M') f1 pc lv st M' := by
  obtain ⟨rfl, h⟩ := h
  refine ⟨by simp, (fun pc lv st N => ∃ (k : Nat), pc = 5 ∧ lv = [some (.inr 0), some (.inl (nwsF (M 6) k)), some (.inl (k : Int))] ∧ st = [] ∧ M = N ∧ (k : Int) ≤ M 0 12), (fun pc lv st N => match lv with | [_, _, some (.inl k)] => (10 - k).toNat | _ => 0), 400, 400, Eq.mpr (vcX6_newMany_0 ..) ?_, ?_⟩
  · obtain ⟨hi, hc, hp⟩ := h
    exact ⟨0, rfl, rfl, rfl, rfl, hi.1⟩
  · obtain ⟨hi, hc, hp⟩ := h
    rintro pc lv st N ⟨k, rfl, rfl, rfl, rfl, a1⟩
    refine Eq.mpr (vcX6_newMany_5 ..) ?_
    have hb := nwsF_b (f := M 6) (k := k) (fun j j0 j1 => (hc j j0 (by omega)).2)
    refine ⟨⟨by omega, by omega⟩, ⟨by omega, by omega⟩, fun q => ?_, fun q => ?_⟩
    · rw [show (M 0 12).toNat = k by omega] at hp
      exact hp
    · have hk := hc k (by omega) (by omega)
      refine ⟨⟨by omega, by omega⟩, ⟨by omega, by omega⟩, ⟨by omega, by omega⟩, fun q1 => ⟨⟨k + 1, rfl, ?_, rfl, rfl, by omega⟩, by (change Int.toNat _ < Int.toNat _); omega⟩, fun q1 => ⟨⟨by omega, by omega⟩, ⟨k + 1, rfl, ?_, rfl, rfl, by omega⟩, by (change Int.toNat _ < Int.toNat _); omega⟩⟩
      · simp only [nwsF, if_neg (show ¬ nwsF (M 6) k ≤ M 6 k by omega)]
        rfl
      · simp only [nwsF, if_pos q1]
        rfl
theorem k_X6_newMany {l : Launch} {D : va_G} {T : Nat → ClassId} {ad : Nat → Nat} (hO : xOk ad LM) : xMet l D T ad LM yX6_newMany cX6_newMany 3 (some .int) false 0 sp_X6_newMany :=
  xmet (rt := 1) (fld := fldX6) (cals := calX6_newMany) (cst := []) (I := iX6_newMany) (cut := cutX6_newMany) hO (by decide +kernel) ⟨by decide, by decide, by decide⟩ oX6_newMany foX6 (fun _ h => absurd h List.not_mem_nil) (fun _ h => absurd h List.not_mem_nil) b_X6_newMany
def f_X6_begin (s : Int) (M : xM) (Post : xR) : Prop := wM M ∧ (0 ≤ s ∧ s < 64) ∧ bsM M s (M 0 0).toNat ≤ 4 ∧ ∀ (M' : xM) (c0 : Int), (∀ c, c ≠ 0 → c ≠ 6 → M' c = M c) → (∀ k, k ≠ 12 → M' 0 k = M 0 k) → M' 0 12 = bsM M s (M 0 0).toNat → isLo (bxT M s) 0 c0 → (∀ j, 0 ≤ j → j < bsM M s (M 0 0).toNat → M' 6 j = c0) → Post 0 M'
abbrev sp_X6_begin : xT := spV1 0 f_X6_begin
set_option maxRecDepth 100000 in
set_option maxHeartbeats 4000000 in
theorem b_X6_begin (as : List xV) (M : xM) (Post : xR) (h : sp_X6_begin as M Post) : as.length ≤ 3 ∧ ∃ (Inv : xG) (μ : Nat → xL → List xV → xM → Nat) (f0 f1 : Nat), xw LM fldX6 (calX6_begin sp_X6_silentOf sp_X6_raise) [] 0 Post iX6_begin cutX6_begin Inv f0 0 (xlv as 3) [] M ∧ ∀ pc lv st M', Inv pc lv st M' → xw LM fldX6 (calX6_begin sp_X6_silentOf sp_X6_raise) [] 0 Post iX6_begin cutX6_begin (fun pc2 lv2 st2 M2 => Inv pc2 lv2 st2 M2 ∧ μ pc2 lv2 st2 M2 < μ pc lv st M') f1 pc lv st M' := by
  obtain ⟨v1, rfl, h⟩ := h
  refine ⟨by simp, (fun pc lv st N => (∃ (t : Nat), pc = 7 ∧ lv = [some (.inr 0), some (.inl v1), some (.inl (t : Int))] ∧ st = [] ∧ (t : Int) ≤ M 0 0 ∧ (∀ c, c ≠ 0 → N c = M c) ∧ (∀ k, k ≠ 12 → N 0 k = M 0 k) ∧ N 0 12 = bsM M v1 t) ∨ (∃ (i c0 : Int), pc = 50 ∧ lv = [some (.inr 0), some (.inl v1), some (.inl i)] ∧ st = [] ∧ (0 ≤ i ∧ i ≤ bsM M v1 (M 0 0).toNat) ∧ (∀ c, c ≠ 0 → c ≠ 6 → N c = M c) ∧ (∀ k, k ≠ 12 → N 0 k = M 0 k) ∧ N 0 12 = bsM M v1 (M 0 0).toNat ∧ isLo (bxT M v1) 0 c0 ∧ ∀ j, 0 ≤ j → j < i → N 6 j = c0)), (fun pc lv st N => match pc, lv with | 7, [_, _, some (.inl t)] => (100 - t).toNat | 50, [_, _, some (.inl i)] => (50 - i).toNat | _, _ => 0), 400, 400, Eq.mpr (vcX6_begin_0 ..) ?_, ?_⟩
  · obtain ⟨hw, hs, h4, hp⟩ := h
    exact Or.inl ⟨0, rfl, rfl, rfl, hw.1.1, fun c hc => xup_ne hc, fun k hk => by rw [xup_at, if_neg hk], by rw [xup_at, if_pos rfl]; rfl⟩
  · obtain ⟨hw, hs, h4, hp⟩ := h
    have hn := hw.1
    rintro pc lv st N (⟨t, rfl, rfl, rfl, a1, a2, a3, a4⟩ | ⟨i, c0, rfl, rfl, rfl, a1, a2, a3, a4, a5, a6⟩)
    · refine Eq.mpr (vcX6_begin_7 ..) ?_
      have hsm : sM M N := ⟨a3 0 (by decide), a3 3 (by decide), a2 1 (by decide), a2 2 (by decide), a2 3 (by decide), a2 4 (by decide)⟩
      have hwN : wM N := by rw [hsm.wM_e]; exact hw
      rw [a3 0 (by decide), a4]
      refine ⟨⟨by omega, by omega⟩, ⟨by omega, by omega⟩, fun q => ?_, fun q => ?_⟩
      · obtain ⟨c0, hc0⟩ := isLo_ex (th := bxT M v1) 6 0 (by omega)
        have := bsM_mono (M := M) (s := v1) (j := (M 0 0).toNat) (k := (M 0 0).toNat) (Nat.le_refl _)
        exact ⟨Or.inr ⟨0, c0, rfl, rfl, rfl, by omega, fun c h0 _ => a2 c h0, a3, by rw [a4, show (M 0 0).toNat = t by omega], hc0, fun j _ _ => by omega⟩, by (change Int.toNat _ < Int.toNat _); omega⟩
      · have hbit := bs_bit (x := v1) (i := (t : Int)) ⟨by omega, by omega⟩ ⟨by omega, by omega⟩
        generalize (xi (xi v1 >>> (xi (t : Int) &&& 31)).toInt &&& xi 1).toInt = z at hbit ⊢
        have nx : ∀ v, v = bsM M v1 (t + 1) → ∃ (t' : Nat), (7 : Nat) = 7 ∧ ([some (.inr 0), some (.inl v1), some (.inl ((t : Int) + 1))] : xL) = [some (.inr 0), some (.inl v1), some (.inl (t' : Int))] ∧ ([] : List xV) = [] ∧ (t' : Int) ≤ M 0 0 ∧ (∀ c, c ≠ 0 → (xup N 0 12 v) c = M c) ∧ (∀ k, k ≠ 12 → (xup N 0 12 v) 0 k = M 0 k) ∧ (xup N 0 12 v) 0 12 = bsM M v1 t' := fun v hv => ⟨t + 1, rfl, rfl, rfl, by omega, fun c hc => by rw [xup_ne hc]; exact a2 c hc, fun k hk => by rw [xup_at, if_neg hk]; exact a3 k hk, by rw [xup_at, if_pos rfl, hv]⟩
        refine ⟨⟨by omega, by omega⟩, ⟨by omega, by omega⟩, fun q1 => ⟨Or.inl (nx _ ?_), by (change Int.toNat _ < Int.toNat _); omega⟩, fun q1 => ⟨_, rfl, hwN, ⟨by omega, by omega⟩, Or.inl (nx _ ?_), by (change Int.toNat _ < Int.toNat _); omega⟩⟩
        · have nt : ¬ tb v1 t := hbit.elim (fun y => (q1 y.1).elim) (fun y => y.2)
          rw [(bsM_step t).2 nt, Int.add_zero]
        · have nt : tb v1 t := hbit.elim (fun y => y.2) (fun y => by omega)
          rw [(bsM_step t).1 nt, a2 1 (by decide), a2 2 (by decide)]
    · refine Eq.mpr (vcX6_begin_50 ..) ?_
      rw [a4]
      refine ⟨⟨by omega, by omega⟩, ⟨by omega, by omega⟩, fun q => hp N c0 a2 a3 a4 a5 (fun j j0 j1 => a6 j j0 (by omega)), fun q => ?_⟩
      have hsm : sM M (xup N 6 i (-1)) := ⟨by rw [xup_ne (by decide)]; exact a3 0 (by decide), by rw [xup_ne (by decide)]; exact a3 3 (by decide), by rw [xup_ne (by decide)]; exact a2 1 (by decide) (by decide), by rw [xup_ne (by decide)]; exact a2 2 (by decide) (by decide), by rw [xup_ne (by decide)]; exact a2 3 (by decide) (by decide), by rw [xup_ne (by decide)]; exact a2 4 (by decide) (by decide)⟩
      have hwN : wM (xup N 6 i (-1)) := by rw [hsm.wM_e]; exact hw
      have h6 := isLo_6 (by omega) a5
      have h0 := a5.1
      refine ⟨⟨by omega, by omega⟩, _, _, rfl, hwN, hs, ⟨by omega, by omega⟩, fun j j0 j1 => ?_, fun r c hc _ => ?_⟩
      · rw [xup_at]
        split
        · omega
        · rw [a6 j j0 (by omega)]; omega
      · rw [hsm.bxT_e, xup_at, if_pos rfl] at hc
        have ec := isLo_u hc a5
        refine ⟨Or.inr ⟨i + 1, c0, rfl, rfl, rfl, by omega, fun c h0 h6 => by rw [xup_ne h6, xup_ne h6]; exact a2 c h0 h6, fun k hk => by rw [xup_ne (by decide), xup_ne (by decide)]; exact a3 k hk, by rw [xup_ne (by decide), xup_ne (by decide)]; exact a4, a5, fun j j0 j1 => ?_⟩, by (change Int.toNat _ < Int.toNat _); omega⟩
        rw [xup_at]
        split
        · exact ec
        · rw [xup_at, if_neg (by assumption)]; exact a6 j j0 (by omega)
theorem k_X6_begin {l : Launch} {D : va_G} {T : Nat → ClassId} {ad : Nat → Nat} (hO : xOk ad LM) : xMet l D T ad LM yX6_begin cX6_begin 3 none true 3 sp_X6_begin :=
  xmet (rt := 0) (fld := fldX6) (cals := (calX6_begin sp_X6_silentOf sp_X6_raise)) (cst := []) (I := iX6_begin) (cut := cutX6_begin) hO (by decide +kernel) ⟨by decide, by decide, by decide⟩ oX6_begin foX6 (fun _ h => absurd h List.not_mem_nil) (List.forall_mem_cons.mpr ⟨⟨yX6_silentOf, cX6_silentOf, 4, (some .int), 0, 1, by decide, yoX6_silentOf, k_X6_silentOf hO, loX6_56, Or.inr ⟨rfl, rfl, 0, 6, [none, some 1, some 2, none, some 3, some 4, some 5, none, some 6, some 7, some 8, some 9, none, none, none, none, some 10, some 11, some 12, none, none], TX6, 21, rfl, rfl, spV1_r⟩⟩, List.forall_mem_cons.mpr ⟨⟨yX6_raise, cX6_raise, 5, (some .boolean), 2, 2, by decide, yoX6_raise, k_X6_raise hO, loX6_94, Or.inr ⟨rfl, rfl, 0, 6, [none, some 1, some 2, none, some 3, some 4, some 5, none, some 6, some 7, some 8, some 9, none, none, none, none, some 10, some 11, some 12, none, none], TX6, 21, rfl, rfl, spV2_r⟩⟩, fun _ h => absurd h List.not_mem_nil⟩⟩) b_X6_begin

