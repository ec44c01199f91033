/-! the reference: nets, shape, boxOf, far, sure -/
def qM (M : xM) (Post : xR) (v : Int) : Prop := ∀ M' : xM, fM M M' → Post v M'
theorem find_q {M : xM} {Post : xR} (hw : wM M) (hf : wfS (SM M)) (h : ∀ M' : xM, fM M M' → M' 0 12 = (mS (SM M) : Nat) → stM M' (SM M) (LNs (SM M)) → M' 0 13 = ((LNs (SM M)).2.2.length : Nat) → (0 ≤ M' 0 13 ∧ M' 0 13 ≤ 369) → Post 0 M') : sp_X6_findNets [.inr 0] M Post := by
  refine ⟨rfl, hw, hf, fun M' f m s => h M' f m s s.1.1 ?_⟩
  have := LN_369 hf
  have e := s.1.1
  omega
theorem stM_v {N : xM} {S : dS} {s : lSt} (h : stM N S s) (hn : s.2.2.length ≠ 0) : N 0 14 = (nbx S : Nat) + (s.1 : Int) ∧ N 0 15 = s.2.1 := by
  rcases h.2 with ⟨z, -⟩ | ⟨-, z⟩
  · rw [z] at hn; exact (hn rfl).elim
  · exact z
def f_X6_nets (M : xM) (Post : xR) : Prop := wM M ∧ wfS (SM M) ∧ qM M Post ((LNs (SM M)).2.2.length : Nat)
abbrev sp_X6_nets : xT := spV0 0 f_X6_nets
set_option maxRecDepth 100000 in
set_option maxHeartbeats 4000000 in
theorem b_X6_nets (as : List xV) (M : xM) (Post : xR) (h : sp_X6_nets as M Post) : as.length ≤ 1 ∧ xw LM fldX6 (calX6_nets sp_X6_findNets) [] 1 Post iX6_nets cutX6_nets (fun _ _ _ _ => False) 400 0 (xlv as 1) [] M := by
  obtain ⟨rfl, h⟩ := h
  refine ⟨by simp, ?_⟩
  refine Eq.mpr (vcX6_nets_0 ..) ?_
  obtain ⟨hw, hf, hp⟩ := h
  refine find_q hw hf (fun M' f _ _ e _ => ?_)
  rw [e]
  exact hp M' f
theorem k_X6_nets {l : Launch} {D : va_G} {T : Nat → ClassId} {ad : Nat → Nat} (hO : xOk ad LM) : xMet l D T ad LM yX6_nets cX6_nets 1 (some .int) false 5 sp_X6_nets :=
  xmet0 (rt := 1) (fld := fldX6) (cals := (calX6_nets sp_X6_findNets)) (cst := []) (I := iX6_nets) (cut := cutX6_nets) hO (by decide +kernel) ⟨by decide, by decide, by decide⟩ oX6_nets foX6 (fun _ h => absurd h List.not_mem_nil) (List.forall_mem_cons.mpr ⟨⟨yX6_findNets, cX6_findNets, 6, none, 4, 0, by decide, yoX6_findNets, k_X6_findNets hO, loX6_127, Or.inr ⟨rfl, rfl, 0, 6, [none, some 1, some 2, none, some 3, some 4, some 5, none, some 6, some 7, some 8, some 9, none, none, none, none, some 10, some 11, some 12, none, none], TX6, 21, rfl, rfl, spV0_r⟩⟩, fun _ h => absurd h List.not_mem_nil⟩) b_X6_nets
def f_X6_shape (w : Int) (M : xM) (Post : xR) : Prop := rg w ∧ wM M ∧ wfS (SM M) ∧ qM M Post (shA (SM M) w)
abbrev sp_X6_shape : xT := spV1 0 f_X6_shape
set_option maxRecDepth 100000 in
set_option maxHeartbeats 4000000 in
theorem b_X6_shape (as : List xV) (M : xM) (Post : xR) (h : sp_X6_shape as M Post) : as.length ≤ 2 ∧ xw LM fldX6 (calX6_shape sp_X6_in sp_X6_findNets) [] 1 Post iX6_shape cutX6_shape (fun _ _ _ _ => False) 400 0 (xlv as 2) [] M := by
  obtain ⟨v1, rfl, h⟩ := h
  refine ⟨by simp, ?_⟩
  refine Eq.mpr (vcX6_shape_0 ..) ?_
  obtain ⟨h1, hw, hf, hp⟩ := h
  have ans : ∀ M' : xM, fM M M' → ∀ v, shA (SM M) v1 = v → Post v M' := fun M' f v e => by rw [← e]; exact hp M' f
  refine ⟨_, _, _, rfl, h1, ⟨by omega, by omega⟩, ⟨by omega, by omega⟩, fun r hr => ⟨⟨by omega, by omega⟩, fun q => find_q hw hf (fun M' f _ s e eb => ⟨⟨by omega, by omega⟩, fun q1 => ⟨h1, fun q2 => ?_, fun q2 => ?_⟩, fun q1 => ?_⟩), fun q => ?_⟩⟩
  · refine ans M' f _ ?_
    unfold shA
    rw [if_neg (by omega), if_neg (by omega), if_neg q2, (stM_v s (by omega)).2]
  · refine ans M' f _ ?_
    unfold shA
    rw [if_neg (by omega), if_neg (by omega), if_pos q2, (stM_v s (by omega)).1]
  · refine ans M' f _ ?_
    unfold shA
    rw [if_neg (by omega), if_pos (by omega)]
  · refine ans M (fM.rf M) _ ?_
    unfold shA
    rw [if_pos (by omega)]
theorem k_X6_shape {l : Launch} {D : va_G} {T : Nat → ClassId} {ad : Nat → Nat} (hO : xOk ad LM) : xMet l D T ad LM yX6_shape cX6_shape 2 (some .int) false 5 sp_X6_shape :=
  xmet0 (rt := 1) (fld := fldX6) (cals := (calX6_shape sp_X6_in sp_X6_findNets)) (cst := []) (I := iX6_shape) (cut := cutX6_shape) hO (by decide +kernel) ⟨by decide, by decide, by decide⟩ oX6_shape foX6 (fun _ h => absurd h List.not_mem_nil) (List.forall_mem_cons.mpr ⟨⟨yX6_in, cX6_in, 3, (some .boolean), 0, 3, by decide, yoX6_in, k_X6_in hO, loX6_48, Or.inl ⟨rfl, rfl⟩⟩, List.forall_mem_cons.mpr ⟨⟨yX6_findNets, cX6_findNets, 6, none, 4, 0, by decide, yoX6_findNets, k_X6_findNets hO, loX6_127, Or.inr ⟨rfl, rfl, 0, 6, [none, some 1, some 2, none, some 3, some 4, some 5, none, some 6, some 7, some 8, some 9, none, none, none, none, some 10, some 11, some 12, none, none], TX6, 21, rfl, rfl, spV0_r⟩⟩, fun _ h => absurd h List.not_mem_nil⟩⟩) b_X6_shape
def f_X6_boxOf (k s : Int) (M : xM) (Post : xR) : Prop := rg k ∧ rg s ∧ wM M ∧ wfS (SM M) ∧ qM M Post (bxA (SM M) k s)
abbrev sp_X6_boxOf : xT := spV2 0 f_X6_boxOf
set_option maxRecDepth 100000 in
set_option maxHeartbeats 4000000 in
theorem b_X6_boxOf (as : List xV) (M : xM) (Post : xR) (h : sp_X6_boxOf as M Post) : as.length ≤ 4 ∧ xw LM fldX6 (calX6_boxOf sp_X6_findNets sp_X6_in) [] 1 Post iX6_boxOf cutX6_boxOf (fun _ _ _ _ => False) 400 0 (xlv as 4) [] M := by
  obtain ⟨v1, v2, rfl, h⟩ := h
  refine ⟨by simp, ?_⟩
  refine Eq.mpr (vcX6_boxOf_0 ..) ?_
  obtain ⟨hk, hs, hw, hf, hp⟩ := h
  have hm4 := mS_4 hf
  have ans : ∀ M' : xM, fM M M' → ∀ v, bxA (SM M) v1 v2 = v → Post v M' := fun M' f v e => by rw [← e]; exact hp M' f
  refine find_q hw hf (fun M' f e12 s e eb => ⟨⟨by omega, by omega⟩, fun q => ⟨_, _, _, rfl, hk, ⟨by omega, by omega⟩, ⟨by omega, by omega⟩, fun r hr => ⟨⟨by omega, by omega⟩, fun q1 => ?_, fun q1 => ⟨_, _, _, rfl, hs, ⟨by omega, by omega⟩, ⟨by omega, by omega⟩, fun r2 hr2 => ⟨⟨by omega, by omega⟩, fun q2 => ?_, fun q2 => ?_⟩⟩⟩⟩, fun q => ?_⟩)
  · refine ans M' f _ ?_
    unfold bxA; rw [if_neg (by omega), if_neg (by omega)]
  · obtain ⟨kn, rfl⟩ : ∃ kn : Nat, v1 = kn := ⟨v1.toNat, by omega⟩
    have hlt : kn < (LNs (SM M)).2.2.length := by omega
    have hb := (s.1.2 kn _ (List.getElem?_eq_getElem hlt)).1 v2 (by omega) (by omega)
    have hAm := (LN_kept (SM M) _ (List.getElem_mem hlt)).1
    have hv := enm_v hAm hm4 (j := v2) (by omega) (by omega)
    have eA : bxA (SM M) kn v2 = if lkA (LNs (SM M)).2.2[kn] v2 < 6 then lkA (LNs (SM M)).2.2[kn] v2 else lkA (LNs (SM M)).2.2[kn] v2 + 4 := by
      unfold bxA
      rw [if_neg (by omega), if_pos (by omega), Int.toNat_natCast, List.getD_eq_getElem?_getD, List.getElem?_eq_getElem hlt, Option.getD_some]
    rw [hb]
    refine ⟨⟨by omega, by omega⟩, ⟨by omega, by omega⟩, ⟨by omega, by omega⟩, fun q3 => ?_, fun q3 => ?_⟩
    · refine ans M' f _ ?_
      rw [eA, if_neg (by omega)]
    · refine ans M' f _ ?_
      rw [eA, if_pos (by omega)]
  · refine ans M' f _ ?_
    unfold bxA; rw [if_neg (by omega), if_neg (by omega)]
  · refine ans M' f _ ?_
    unfold bxA; rw [if_pos (by omega)]
theorem k_X6_boxOf {l : Launch} {D : va_G} {T : Nat → ClassId} {ad : Nat → Nat} (hO : xOk ad LM) : xMet l D T ad LM yX6_boxOf cX6_boxOf 4 (some .int) false 5 sp_X6_boxOf :=
  xmet0 (rt := 1) (fld := fldX6) (cals := (calX6_boxOf sp_X6_findNets sp_X6_in)) (cst := []) (I := iX6_boxOf) (cut := cutX6_boxOf) hO (by decide +kernel) ⟨by decide, by decide, by decide⟩ oX6_boxOf foX6 (fun _ h => absurd h List.not_mem_nil) (List.forall_mem_cons.mpr ⟨⟨yX6_findNets, cX6_findNets, 6, none, 4, 0, by decide, yoX6_findNets, k_X6_findNets hO, loX6_127, Or.inr ⟨rfl, rfl, 0, 6, [none, some 1, some 2, none, some 3, some 4, some 5, none, some 6, some 7, some 8, some 9, none, none, none, none, some 10, some 11, some 12, none, none], TX6, 21, rfl, rfl, spV0_r⟩⟩, List.forall_mem_cons.mpr ⟨⟨yX6_in, cX6_in, 3, (some .boolean), 0, 3, by decide, yoX6_in, k_X6_in hO, loX6_48, Or.inl ⟨rfl, rfl⟩⟩, fun _ h => absurd h List.not_mem_nil⟩⟩) b_X6_boxOf
def f_X6_far (k a b : Int) (M : xM) (Post : xR) : Prop := rg k ∧ rg a ∧ rg b ∧ wM M ∧ wfS (SM M) ∧ ∀ v, farR (SM M) k a b v → qM M Post v
abbrev sp_X6_far : xT := spV3 0 f_X6_far
set_option maxRecDepth 100000 in
set_option maxHeartbeats 4000000 in
theorem b_X6_far (as : List xV) (M : xM) (Post : xR) (h : sp_X6_far as M Post) : as.length ≤ 4 ∧ xw LM fldX6 (calX6_far sp_X6_findNets sp_X6_in sp_X6_isSeen) [] 1 Post iX6_far cutX6_far (fun _ _ _ _ => False) 400 0 (xlv as 4) [] M := by
  obtain ⟨v1, v2, v3, rfl, h⟩ := h
  refine ⟨by simp, ?_⟩
  refine Eq.mpr (vcX6_far_0 ..) ?_
  obtain ⟨hk, ha, hb, hw, hf, hp⟩ := h
  refine find_q hw hf (fun M' f e12 s e eb => ⟨⟨by omega, by omega⟩, fun q => ?_, fun q => hp (-6) (Or.inl ⟨by omega, rfl⟩) M' f⟩)
  have bad : ¬ okF (SM M) v1 v2 v3 → Post (-2) M' := fun z => hp (-2) (Or.inr (Or.inl ⟨by omega, z, rfl⟩)) M' f
  have hw' : wM M' := by rw [f.sM.wM_e]; exact hw
  have eS := f.sM.SM_e
  refine ⟨_, _, _, rfl, hk, ⟨by omega, by omega⟩, ⟨by omega, by omega⟩, fun r hr => ⟨⟨by omega, by omega⟩, fun q1 => bad (fun z => by have := z.1; omega), fun q1 => ⟨_, rfl, ha, hw', fun r3 hr3 => ?_⟩⟩⟩
  rw [eS] at hr3
  refine ⟨⟨by omega, by omega⟩, fun q3 => bad (fun z => ?_), fun q3 => ⟨_, rfl, hb, hw', fun r4 hr4 => ?_⟩⟩
  · exact hr3.elim (fun y => by omega) (fun y => y.2 z.2.1)
  · rw [eS] at hr4
    refine ⟨⟨by omega, by omega⟩, fun q4 => bad (fun z => ?_), fun q4 => ?_⟩
    · exact hr4.elim (fun y => by omega) (fun y => y.2 z.2.2)
    · have s3 := hr3.elim (fun y => y.2) (fun y => (q3 y.1).elim)
      have s4 := hr4.elim (fun y => y.2) (fun y => (q4 y.1).elim)
      obtain ⟨kn, rfl⟩ : ∃ kn : Nat, v1 = kn := ⟨v1.toNat, by omega⟩
      have hlt : kn < (LNs (SM M)).2.2.length := by omega
      have elk : lnK (SM M) kn = (LNs (SM M)).2.2[kn] := by
        unfold lnK; rw [Int.toNat_natCast, List.getD_eq_getElem?_getD, List.getElem?_eq_getElem hlt]; rfl
      have hd := ((s.1.2 kn _ (List.getElem?_eq_getElem hlt)).2 v2 v3 s3.1.1 s3.1.2 s4.1.1 s4.1.2).1
      refine ⟨by omega, hp _ (Or.inr (Or.inr ⟨by omega, ⟨by omega, s3, s4⟩, ?_⟩)) M' f⟩
      rw [elk]
      exact hd
theorem k_X6_far {l : Launch} {D : va_G} {T : Nat → ClassId} {ad : Nat → Nat} (hO : xOk ad LM) : xMet l D T ad LM yX6_far cX6_far 4 (some .int) false 5 sp_X6_far :=
  xmet0 (rt := 1) (fld := fldX6) (cals := (calX6_far sp_X6_findNets sp_X6_in sp_X6_isSeen)) (cst := []) (I := iX6_far) (cut := cutX6_far) hO (by decide +kernel) ⟨by decide, by decide, by decide⟩ oX6_far foX6 (fun _ h => absurd h List.not_mem_nil) (List.forall_mem_cons.mpr ⟨⟨yX6_findNets, cX6_findNets, 6, none, 4, 0, by decide, yoX6_findNets, k_X6_findNets hO, loX6_127, Or.inr ⟨rfl, rfl, 0, 6, [none, some 1, some 2, none, some 3, some 4, some 5, none, some 6, some 7, some 8, some 9, none, none, none, none, some 10, some 11, some 12, none, none], TX6, 21, rfl, rfl, spV0_r⟩⟩, List.forall_mem_cons.mpr ⟨⟨yX6_in, cX6_in, 3, (some .boolean), 0, 3, by decide, yoX6_in, k_X6_in hO, loX6_48, Or.inl ⟨rfl, rfl⟩⟩, List.forall_mem_cons.mpr ⟨⟨yX6_isSeen, cX6_isSeen, 2, (some .boolean), 2, 1, by decide, yoX6_isSeen, k_X6_isSeen hO, loX6_130, Or.inr ⟨rfl, rfl, 0, 6, [none, some 1, some 2, none, some 3, some 4, some 5, none, some 6, some 7, some 8, some 9, none, none, none, none, some 10, some 11, some 12, none, none], TX6, 21, rfl, rfl, spV1_r⟩⟩, fun _ h => absurd h List.not_mem_nil⟩⟩⟩) b_X6_far
theorem cP_ev {P : List Int → Prop} : ∀ {l : List (List Int)}, cP P l ≠ 0 ↔ ∃ A ∈ l, P A := by
  intro l
  induction l with
  | nil => exact ⟨fun z => (z rfl).elim, fun ⟨_, h, _⟩ => by cases h⟩
  | cons A l ih =>
    have e : cP P (A :: l) = bb (P A) + cP P l := rfl
    rw [e]
    by_cases hA : P A
    · rw [bb1 hA]
      exact ⟨fun _ => ⟨A, List.mem_cons_self, hA⟩, fun _ => by omega⟩
    · rw [bb0 hA, Nat.zero_add, ih]
      constructor
      · rintro ⟨B, h1, h2⟩
        exact ⟨B, List.mem_cons_of_mem _ h1, h2⟩
      · rintro ⟨B, h1, h2⟩
        rcases List.mem_cons.mp h1 with rfl | h1
        · exact (hA h2).elim
        · exact ⟨B, h1, h2⟩
theorem cP_al {P : List Int → Prop} : ∀ {l : List (List Int)}, cP P l = l.length ↔ ∀ A ∈ l, P A := by
  intro l
  induction l with
  | nil => exact ⟨fun _ _ h => (by cases h), fun _ => rfl⟩
  | cons A l ih =>
    have e : cP P (A :: l) = bb (P A) + cP P l := rfl
    have hl := cP_le P l
    rw [e, List.length_cons]
    by_cases hA : P A
    · rw [bb1 hA]
      constructor
      · intro z B hB
        rcases List.mem_cons.mp hB with rfl | hB
        · exact hA
        · exact ih.mp (by omega) B hB
      · intro z
        have := ih.mpr (fun B hB => z B (List.mem_cons_of_mem _ hB))
        omega
    · rw [bb0 hA]
      exact ⟨fun z => by omega, fun z => (hA (z A List.mem_cons_self)).elim⟩
def f_X6_sure (a b : Int) (M : xM) (Post : xR) : Prop := rg a ∧ rg b ∧ wM M ∧ wfS (SM M) ∧ ∀ v, surR (SM M) a b v → qM M Post v
abbrev sp_X6_sure : xT := spV2 0 f_X6_sure
set_option maxRecDepth 100000 in
set_option maxHeartbeats 4000000 in
theorem b_X6_sure (as : List xV) (M : xM) (Post : xR) (h : sp_X6_sure as M Post) : as.length ≤ 5 ∧ ∃ (Inv : xG) (μ : Nat → xL → List xV → xM → Nat) (f0 f1 : Nat), xw LM fldX6 (calX6_sure sp_X6_findNets sp_X6_isSeen) [] 1 Post iX6_sure cutX6_sure Inv f0 0 (xlv as 5) [] M ∧ ∀ pc lv st M', Inv pc lv st M' → xw LM fldX6 (calX6_sure sp_X6_findNets sp_X6_isSeen) [] 1 Post iX6_sure cutX6_sure (fun pc2 lv2 st2 M2 => Inv pc2 lv2 st2 M2 ∧ μ pc2 lv2 st2 M2 < μ pc lv st M') f1 pc lv st M' := by
  obtain ⟨v1, v2, rfl, h⟩ := h
  refine ⟨by simp, (fun pc lv st N => ∃ (k : Nat), pc = 38 ∧ lv = [some (.inr 0), some (.inl v1), some (.inl v2), some (.inl ((cP (fun A => Adj (SM M) all0 (plL (SM M) A) ((SM M).2.2.2 v1) ((SM M).2.2.2 v2)) ((LNs (SM M)).2.2.take k) : Nat) : Int)), some (.inl (k : Int))] ∧ st = [] ∧ k ≤ (LNs (SM M)).2.2.length ∧ fM M N ∧ stM N (SM M) (LNs (SM M)) ∧ okS (SM M) v1 v2 ∧ (LNs (SM M)).2.2.length ≠ 0), (fun pc lv st N => match lv with | [_, _, _, _, some (.inl k)] => (1000 - k).toNat | _ => 0), 400, 400, Eq.mpr (vcX6_sure_0 ..) ?_, ?_⟩
  · obtain ⟨ha, hb, hw, hf, hp⟩ := h
    refine find_q hw hf (fun M' f e12 s e eb => ⟨⟨by omega, by omega⟩, fun q => ?_, fun q => hp (-6) (Or.inl ⟨by omega, rfl⟩) M' f⟩)
    have bad : ¬ okS (SM M) v1 v2 → Post (-2) M' := fun z => hp (-2) (Or.inr (Or.inl ⟨by omega, z, rfl⟩)) M' f
    have hw' : wM M' := by rw [f.sM.wM_e]; exact hw
    have eS := f.sM.SM_e
    refine ⟨_, rfl, ha, hw', fun r3 hr3 => ?_⟩
    rw [eS] at hr3
    refine ⟨⟨by omega, by omega⟩, fun q3 => bad (fun z => ?_), fun q3 => ⟨_, rfl, hb, hw', fun r4 hr4 => ?_⟩⟩
    · exact hr3.elim (fun y => by omega) (fun y => y.2 z.1)
    · rw [eS] at hr4
      refine ⟨⟨by omega, by omega⟩, fun q4 => ?_, fun q4 => bad (fun z => ?_)⟩
      · have s3 := hr3.elim (fun y => y.2) (fun y => (q3 y.1).elim)
        have s4 := hr4.elim (fun y => y.2) (fun y => (q4 y.1).elim)
        exact ⟨0, rfl, rfl, rfl, Nat.zero_le _, f, s, ⟨s3, s4⟩, by omega⟩
      · exact hr4.elim (fun y => by omega) (fun y => y.2 z.2)
  · obtain ⟨ha, hb, hw, hf, hp⟩ := h
    rintro pc lv st N ⟨k, rfl, rfl, rfl, hk, f, s, hok, hne⟩
    refine Eq.mpr (vcX6_sure_38 ..) ?_
    have h369 := LN_369 hf
    have e13 := s.1.1
    have hle := cP_le (fun A => Adj (SM M) all0 (plL (SM M) A) ((SM M).2.2.2 v1) ((SM M).2.2.2 v2)) ((LNs (SM M)).2.2.take k)
    rw [List.length_take] at hle
    rw [e13]
    refine ⟨⟨by omega, by omega⟩, ⟨by omega, by omega⟩, fun q => ?_, fun q => ?_⟩
    · have hkl : k = (LNs (SM M)).2.2.length := by omega
      subst hkl
      rw [List.take_length]
      rw [List.take_length] at hle
      have hev : (cP (fun A => Adj (SM M) all0 (plL (SM M) A) ((SM M).2.2.2 v1) ((SM M).2.2.2 v2)) (LNs (SM M)).2.2 ≠ 0) ↔ evL (SM M) v1 v2 := cP_ev
      have hal : (cP (fun A => Adj (SM M) all0 (plL (SM M) A) ((SM M).2.2.2 v1) ((SM M).2.2.2 v2)) (LNs (SM M)).2.2 = (LNs (SM M)).2.2.length) ↔ alL (SM M) v1 v2 := cP_al
      generalize cP (fun A => Adj (SM M) all0 (plL (SM M) A) ((SM M).2.2.2 v1) ((SM M).2.2.2 v2)) (LNs (SM M)).2.2 = n at hle hev hal ⊢
      have fin : ∀ v, (¬ evL (SM M) v1 v2 → v = 0) → (evL (SM M) v1 v2 → ¬ alL (SM M) v1 v2 → v = 1) → (evL (SM M) v1 v2 → alL (SM M) v1 v2 → v = 2) → (v = 0 ∨ v = 1 ∨ v = 2) → Post v N := fun v c1 c2 c3 c4 => hp v (Or.inr (Or.inr ⟨hne, hok, c1, c2, c3, c4⟩)) N f
      refine ⟨⟨by omega, by omega⟩, fun q1 => ⟨⟨by omega, by omega⟩, ⟨by omega, by omega⟩, fun q2 => ?_, fun q2 => ?_⟩, fun q1 => ?_⟩
      · have z1 : evL (SM M) v1 v2 := hev.mp (by omega)
        have z2 : ¬ alL (SM M) v1 v2 := fun y => q2 (by have := hal.mpr y; omega)
        exact fin 1 (fun y => (y z1).elim) (fun _ _ => rfl) (fun _ y => (z2 y).elim) (by omega)
      · have z1 : evL (SM M) v1 v2 := hev.mp (by omega)
        have z2 : alL (SM M) v1 v2 := hal.mp (by omega)
        exact fin 2 (fun y => (y z1).elim) (fun _ y => (y z2).elim) (fun _ _ => rfl) (by omega)
      · have z1 : ¬ evL (SM M) v1 v2 := fun y => by have := hev.mpr y; omega
        exact fin 0 (fun _ => rfl) (fun y => (z1 y).elim) (fun y => (z1 y).elim) (by omega)
    · have hlt : k < (LNs (SM M)).2.2.length := by omega
      have hA := List.getElem?_eq_getElem hlt
      have hl := ((s.1.2 k _ hA).2 v1 v2 hok.1.1.1 hok.1.1.2 hok.2.1.1 hok.2.1.2).2
      have o1 := hok.1.1
      have o2 := hok.2.1
      have ct := cP_take (P := fun A => Adj (SM M) all0 (plL (SM M) A) ((SM M).2.2.2 v1) ((SM M).2.2.2 v2)) hA
      refine ⟨by omega, ⟨by omega, by omega⟩, fun q1 => ⟨⟨k + 1, rfl, ?_, rfl, by omega, f, s, hok, hne⟩, by (change Int.toNat _ < Int.toNat _); omega⟩, fun q1 => ⟨⟨k + 1, rfl, ?_, rfl, by omega, f, s, hok, hne⟩, by (change Int.toNat _ < Int.toNat _); omega⟩⟩
      · rw [ct, bb0 (fun z => (hl.2.mpr z) q1), Nat.add_zero, Int.add_zero]
        rfl
      · rw [ct, bb1 (hl.2.mp q1)]
        rfl
theorem k_X6_sure {l : Launch} {D : va_G} {T : Nat → ClassId} {ad : Nat → Nat} (hO : xOk ad LM) : xMet l D T ad LM yX6_sure cX6_sure 5 (some .int) false 5 sp_X6_sure :=
  xmet (rt := 1) (fld := fldX6) (cals := (calX6_sure sp_X6_findNets sp_X6_isSeen)) (cst := []) (I := iX6_sure) (cut := cutX6_sure) hO (by decide +kernel) ⟨by decide, by decide, by decide⟩ oX6_sure foX6 (fun _ h => absurd h List.not_mem_nil) (List.forall_mem_cons.mpr ⟨⟨yX6_findNets, cX6_findNets, 6, none, 4, 0, by decide, yoX6_findNets, k_X6_findNets hO, loX6_127, Or.inr ⟨rfl, rfl, 0, 6, [none, some 1, some 2, none, some 3, some 4, some 5, none, some 6, some 7, some 8, some 9, none, none, none, none, some 10, some 11, some 12, none, none], TX6, 21, rfl, rfl, spV0_r⟩⟩, List.forall_mem_cons.mpr ⟨⟨yX6_isSeen, cX6_isSeen, 2, (some .boolean), 2, 1, by decide, yoX6_isSeen, k_X6_isSeen hO, loX6_130, Or.inr ⟨rfl, rfl, 0, 6, [none, some 1, some 2, none, some 3, some 4, some 5, none, some 6, some 7, some 8, some 9, none, none, none, none, some 10, some 11, some 12, none, none], TX6, 21, rfl, rfl, spV1_r⟩⟩, fun _ h => absurd h List.not_mem_nil⟩⟩) b_X6_sure

