/-! the reference: greatestHeap, findNext, next, worst -/
def ghP (S : dS) (a b p : Int) (M : xM) (Post : xR) : Prop := p = 6 * a + b ∧ (0 ≤ a ∧ a < 6) ∧ (0 ≤ b ∧ b < 6) ∧ stM M S (LNs S) ∧ (LNs S).2.2.length ≤ 369 ∧ Post (gB S a b) M
def f_X6_greatestHeap (p : Int) (M : xM) (Post : xR) : Prop := ∃ (S : dS) (a b : Int), ghP S a b p M Post
theorem hpc_b {S : dS} (h : (LNs S).2.2.length ≤ 369) (a b d : Int) : 0 ≤ hpc S a b d ∧ hpc S a b d ≤ 369 := by
  have := cP_le (fun A => isD (Adj S all0 (plL S A)) (S.2.2.2 a) (S.2.2.2 b) d) (LNs S).2.2
  unfold hpc
  omega
theorem gB_b {S : dS} (h : (LNs S).2.2.length ≤ 369) (a b : Int) : 0 ≤ gB S a b ∧ gB S a b ≤ 369 := mxI_b (by omega) 11 (fun j _ _ => hpc_b h a b (j - 1))
abbrev sp_X6_greatestHeap : xT := spV1 0 f_X6_greatestHeap
set_option maxRecDepth 100000 in
set_option maxHeartbeats 4000000 in
theorem b_X6_greatestHeap (as : List xV) (M : xM) (Post : xR) (h : sp_X6_greatestHeap as M Post) : as.length ≤ 6 ∧ ∃ (Inv : xG) (μ : Nat → xL → List xV → xM → Nat) (f0 f1 : Nat), xw LM fldX6 calX6_greatestHeap [] 1 Post iX6_greatestHeap cutX6_greatestHeap Inv f0 0 (xlv as 6) [] M ∧ ∀ pc lv st M', Inv pc lv st M' → xw LM fldX6 calX6_greatestHeap [] 1 Post iX6_greatestHeap cutX6_greatestHeap (fun pc2 lv2 st2 M2 => Inv pc2 lv2 st2 M2 ∧ μ pc2 lv2 st2 M2 < μ pc lv st M') f1 pc lv st M' := by
  obtain ⟨v1, rfl, h⟩ := h
  refine ⟨by simp, (fun pc lv st N => ∃ (S : dS) (a b : Int), ghP S a b v1 M Post ∧ M = N ∧ ((∃ (j : Nat) (o4 o5 : Option xV), pc = 4 ∧ lv = [some (.inr 0), some (.inl v1), some (.inl (mxI (fun j => hpc S a b (j - 1)) j)), some (.inl ((j : Int) - 1)), o4, o5] ∧ st = [] ∧ j ≤ 11) ∨ (∃ (j k : Nat), pc = 16 ∧ lv = [some (.inr 0), some (.inl v1), some (.inl (mxI (fun j => hpc S a b (j - 1)) j)), some (.inl ((j : Int) - 1)), some (.inl ((cP (fun A => isD (Adj S all0 (plL S A)) (S.2.2.2 a) (S.2.2.2 b) ((j : Int) - 1)) ((LNs S).2.2.take k) : Nat) : Int)), some (.inl (k : Int))] ∧ st = [] ∧ j < 11 ∧ k ≤ (LNs S).2.2.length))), (fun pc lv st N => match pc, lv with | 4, [_, _, _, some (.inl d), _, _] => ((20 - d) * 1000).toNat | 16, [_, _, _, some (.inl d), _, some (.inl k)] => ((19 - d) * 1000 + 500 - k).toNat | _, _ => 0), 400, 400, Eq.mpr (vcX6_greatestHeap_0 ..) ?_, ?_⟩
  · obtain ⟨S, a, b, hg⟩ := h
    exact ⟨S, a, b, hg, rfl, Or.inl ⟨0, none, none, rfl, rfl, rfl, by omega⟩⟩
  · rintro pc lv st N ⟨S, a, b, hg, rfl, hcase⟩
    obtain ⟨hv, ha, hb, hs, h369, hp⟩ := id hg
    have e13 := hs.1.1
    have mb := fun j : Nat => mxI_b (f := fun j => hpc S a b (j - 1)) (c := 369) (by omega) j (fun i _ _ => hpc_b h369 a b (i - 1))
    rcases hcase with ⟨j, o4, o5, rfl, rfl, rfl, h1⟩ | ⟨j, k, rfl, rfl, rfl, h1, h2⟩
    · refine Eq.mpr (vcX6_greatestHeap_4 ..) ?_
      refine ⟨⟨by omega, by omega⟩, ⟨by omega, by omega⟩, fun q => ?_, fun q => ⟨⟨S, a, b, hg, rfl, Or.inr ⟨j, 0, rfl, rfl, rfl, by omega, Nat.zero_le _⟩⟩, by (change Int.toNat _ < Int.toNat _); omega⟩⟩
      rw [show j = 11 by omega]
      exact hp
    · refine Eq.mpr (vcX6_greatestHeap_16 ..) ?_
      have mbj := mb j
      have hle := cP_le (fun A => isD (Adj S all0 (plL S A)) (S.2.2.2 a) (S.2.2.2 b) ((j : Int) - 1)) ((LNs S).2.2.take k)
      rw [List.length_take] at hle
      rw [e13]
      refine ⟨⟨by omega, by omega⟩, ⟨by omega, by omega⟩, fun q => ?_, fun q => ?_⟩
      · have hkl : k = (LNs S).2.2.length := by omega
        subst hkl
        rw [List.take_length] at hle ⊢
        have eh : ((cP (fun A => isD (Adj S all0 (plL S A)) (S.2.2.2 a) (S.2.2.2 b) ((j : Int) - 1)) (LNs S).2.2 : Nat) : Int) = hpc S a b ((j : Int) - 1) := rfl
        have hb2 := hpc_b h369 a b ((j : Int) - 1)
        have en : mxI (fun j => hpc S a b (j - 1)) (j + 1) = max (mxI (fun j => hpc S a b (j - 1)) j) (hpc S a b ((j : Int) - 1)) := rfl
        rw [eh]
        refine ⟨⟨by omega, by omega⟩, ⟨by omega, by omega⟩, fun q1 => ⟨⟨S, a, b, hg, rfl, Or.inl ⟨j + 1, some (.inl (hpc S a b ((j : Int) - 1))), some (.inl (((LNs S).2.2.length : Nat) : Int)), rfl, ?_, rfl, by omega⟩⟩, by (change Int.toNat _ < Int.toNat _); omega⟩, fun q1 => ⟨⟨S, a, b, hg, rfl, Or.inl ⟨j + 1, some (.inl (hpc S a b ((j : Int) - 1))), some (.inl (((LNs S).2.2.length : Nat) : Int)), rfl, ?_, rfl, by omega⟩⟩, by (change Int.toNat _ < Int.toNat _); omega⟩⟩
        · rw [en, Int.max_eq_left q1, show ((j + 1 : Nat) : Int) - 1 = (j : Int) - 1 + 1 by omega]
        · rw [en, Int.max_eq_right (by omega), show ((j + 1 : Nat) : Int) - 1 = (j : Int) - 1 + 1 by omega]
      · have hlt : k < (LNs S).2.2.length := by omega
        have hA := List.getElem?_eq_getElem hlt
        have hd := ((hs.1.2 k _ hA).2 a b ha.1 ha.2 hb.1 hb.2).1
        have ct := cP_take (P := fun A => isD (Adj S all0 (plL S A)) (S.2.2.2 a) (S.2.2.2 b) ((j : Int) - 1)) hA
        rw [hv, show 36 * (k : Int) + (6 * a + b) = 36 * (k : Int) + 6 * a + b by omega]
        have hdr : -1 ≤ M 11 (36 * (k : Int) + 6 * a + b) ∧ M 11 (36 * (k : Int) + 6 * a + b) ≤ 9 := by
          rcases hd with ⟨i, e, i9, -⟩ | ⟨e, -⟩ <;> omega
        rw [hv] at hg
        refine ⟨by omega, ⟨by omega, by omega⟩, ⟨by omega, by omega⟩, fun q1 => ⟨⟨S, a, b, hg, rfl, Or.inr ⟨j, k + 1, rfl, ?_, rfl, h1, by omega⟩⟩, by (change Int.toNat _ < Int.toNat _); omega⟩, fun q1 => ⟨⟨S, a, b, hg, rfl, Or.inr ⟨j, k + 1, rfl, ?_, rfl, h1, by omega⟩⟩, by (change Int.toNat _ < Int.toNat _); omega⟩⟩
        · rw [ct, bb0 (fun z => q1 (isD_uniq hd z)), Nat.add_zero, Int.add_zero]
          rfl
        · rw [ct, bb1 (by rw [← q1]; exact hd)]
          rfl
theorem k_X6_greatestHeap {l : Launch} {D : va_G} {T : Nat → ClassId} {ad : Nat → Nat} (hO : xOk ad LM) : xMet l D T ad LM yX6_greatestHeap cX6_greatestHeap 6 (some .int) false 0 sp_X6_greatestHeap :=
  xmet (rt := 1) (fld := fldX6) (cals := calX6_greatestHeap) (cst := []) (I := iX6_greatestHeap) (cut := cutX6_greatestHeap) hO (by decide +kernel) ⟨by decide, by decide, by decide⟩ oX6_greatestHeap foX6 (fun _ h => absurd h List.not_mem_nil) (fun _ h => absurd h List.not_mem_nil) b_X6_greatestHeap
def cbM (M : xM) (s : bSt) : Prop := match s with
  | none => M 0 19 = -1
  | some (a, b, h) => M 0 19 = 6 * a + b ∧ M 0 20 = h ∧ (0 ≤ a ∧ a < 6) ∧ (0 ≤ b ∧ b < 6) ∧ (0 ≤ h ∧ h ≤ 369)
noncomputable def fbS (S : dS) (s : bSt) : bSt := if (LNs S).2.2.length = 0 then none else s
theorem cbM_0 {M : xM} {s : bSt} (h : cbM M s) : (M 0 19 = -1 ↔ s = none) ∧ -1 ≤ M 0 19 ∧ M 0 19 < 36 ∧ (s ≠ none → 0 ≤ M 0 20 ∧ M 0 20 ≤ 369) := by
  cases s with
  | none =>
    have h : M 0 19 = -1 := h
    exact ⟨⟨fun _ => rfl, fun _ => h⟩, by omega, by omega, fun z => (z rfl).elim⟩
  | some q =>
    obtain ⟨a, b, c⟩ := q
    obtain ⟨h1, h2, h3, h4, h5⟩ := h
    exact ⟨⟨fun z => by omega, fun z => by cases z⟩, by omega, by omega, fun _ => by omega⟩
theorem stB_none {sn : Int → Prop} {g : Int → Int → Int} {a b : Int} (h : sn a ∧ sn b) : stB sn g none a b = some (a, b, g a b) := by unfold stB; exact if_pos h
theorem stB_some {sn : Int → Prop} {g : Int → Int → Int} {a b x y w : Int} (h : sn a ∧ sn b) : stB sn g (some (x, y, w)) a b = if g a b < w then some (a, b, g a b) else some (x, y, w) := by unfold stB; exact if_pos h
def f_X6_findNext (M : xM) (Post : xR) : Prop := wM M ∧ wfS (SM M) ∧ ∀ (r : Int) (M' : xM), fM M M' → cbM M' (fbS (SM M) (NXT (SM M))) → (r = 0 ∧ fbS (SM M) (NXT (SM M)) = none ∨ r = 1 ∧ fbS (SM M) (NXT (SM M)) ≠ none) → Post r M'
abbrev sp_X6_findNext : xT := spV0 0 f_X6_findNext
set_option maxRecDepth 100000 in
set_option maxHeartbeats 4000000 in
theorem b_X6_findNext (as : List xV) (M : xM) (Post : xR) (h : sp_X6_findNext as M Post) : as.length ≤ 4 ∧ ∃ (Inv : xG) (μ : Nat → xL → List xV → xM → Nat) (f0 f1 : Nat), xw LM fldX6 (calX6_findNext sp_X6_findNets sp_X6_isSeen sp_X6_greatestHeap) [] 2 Post iX6_findNext cutX6_findNext Inv f0 0 (xlv as 4) [] M ∧ ∀ pc lv st M', Inv pc lv st M' → xw LM fldX6 (calX6_findNext sp_X6_findNets sp_X6_isSeen sp_X6_greatestHeap) [] 2 Post iX6_findNext cutX6_findNext (fun pc2 lv2 st2 M2 => Inv pc2 lv2 st2 M2 ∧ μ pc2 lv2 st2 M2 < μ pc lv st M') f1 pc lv st M' := by
  obtain ⟨rfl, h⟩ := h
  refine ⟨by simp, (fun pc lv st N => fM M N ∧ stM N (SM M) (LNs (SM M)) ∧ ((∃ (a : Nat) (o2 o3 : Option xV), pc = 11 ∧ lv = [some (.inr 0), some (.inl (a : Int)), o2, o3] ∧ st = [] ∧ a ≤ 6 ∧ cbM N (fbS (SM M) (allB (nmS (SM M)) (gB (SM M)) a))) ∨ (∃ (a j : Nat) (o3 : Option xV), pc = 21 ∧ lv = [some (.inr 0), some (.inl (a : Int)), some (.inl ((a : Int) + 1 + j)), o3] ∧ st = [] ∧ a < 6 ∧ j ≤ 5 - a ∧ cbM N (fbS (SM M) (rowB (nmS (SM M)) (gB (SM M)) a (allB (nmS (SM M)) (gB (SM M)) a) j))))), (fun pc lv st N => match pc, lv with | 11, [_, some (.inl a), _, _] => ((20 - a) * 100).toNat | 21, [_, some (.inl a), some (.inl b), _] => ((19 - a) * 100 + 50 - b).toNat | _, _ => 0), 400, 400, Eq.mpr (vcX6_findNext_0 ..) ?_, ?_⟩
  · obtain ⟨hw, hf, hp⟩ := h
    refine find_q hw hf (fun M' f e12 s e eb => ⟨⟨fun k hk => by rw [xup_at, if_neg (by omega)]; exact f.1 k hk, fun c h1 h2 => by rw [xup_ne (by omega)]; exact f.2 c h1 h2⟩, ?_, Or.inl ⟨0, none, none, rfl, rfl, rfl, by omega, ?_⟩⟩)
    · rw [stM_c (fun k h1 h2 => by rw [xup_at, if_neg (by omega)]) (xup_ne (by decide)) (xup_ne (by decide)) (xup_ne (by decide))]
      exact s
    · have : fbS (SM M) (allB (nmS (SM M)) (gB (SM M)) 0) = none := by unfold fbS; split <;> rfl
      rw [this]
      show (xup M' 0 19 (-1)) 0 19 = -1
      rw [xup_at, if_pos rfl]
  · obtain ⟨hw, hf, hp⟩ := h
    have h369 := LN_369 hf
    rintro pc lv st N ⟨f, s, hcase⟩
    have e13 := s.1.1
    have hw' : wM N := by rw [f.sM.wM_e]; exact hw
    have eS := f.sM.SM_e
    rcases hcase with ⟨a, o2, o3, rfl, rfl, rfl, h1, h2⟩ | ⟨a, j, o3, rfl, rfl, rfl, h1, h2, h3⟩
    · refine Eq.mpr (vcX6_findNext_11 ..) ?_
      obtain ⟨c1, c2, c3, c4⟩ := cbM_0 h2
      refine ⟨⟨by omega, by omega⟩, ⟨by omega, by omega⟩, fun q => ?_, fun q => ⟨⟨f, s, Or.inr ⟨a, 0, o3, rfl, ?_, rfl, by omega, by omega, h2⟩⟩, by (change Int.toNat _ < Int.toNat _); omega⟩⟩
      · have ha : a = 6 := by omega
        subst ha
        exact ⟨⟨by omega, by omega⟩, ⟨by omega, by omega⟩, fun q1 => ⟨by omega, hp 0 N f h2 (Or.inl ⟨rfl, c1.mp q1⟩)⟩, fun q1 => ⟨by omega, hp 1 N f h2 (Or.inr ⟨rfl, fun z => q1 (c1.mpr z)⟩)⟩⟩
      · show _ = ([some (.inr 0), some (.inl (a : Int)), some (.inl ((a : Int) + 1 + 0)), o3] : xL)
        rw [Int.add_zero]
    · refine Eq.mpr (vcX6_findNext_21 ..) ?_
      rw [e13]
      have up : 6 ≤ (a : Int) + 1 + j → rowB (nmS (SM M)) (gB (SM M)) a (allB (nmS (SM M)) (gB (SM M)) a) j = allB (nmS (SM M)) (gB (SM M)) (a + 1) := fun z => by rw [show j = 5 - a by omega]; rfl
      refine ⟨⟨by omega, by omega⟩, ⟨by omega, by omega⟩, fun q => ⟨⟨f, s, Or.inl ⟨a + 1, _, o3, rfl, rfl, rfl, by omega, by rw [← up q]; exact h3⟩⟩, by (change Int.toNat _ < Int.toNat _); omega⟩, fun q => ⟨⟨by omega, by omega⟩, fun q1 => ⟨⟨f, s, Or.inl ⟨a + 1, _, o3, rfl, rfl, rfl, by omega, ?_⟩⟩, by (change Int.toNat _ < Int.toNat _); omega⟩, fun q1 => ?_⟩⟩
      · unfold fbS at h3 ⊢
        rw [if_pos (by omega)] at h3 ⊢
        exact h3
      · have hfb : ∀ x : bSt, fbS (SM M) x = x := fun x => by unfold fbS; rw [if_neg (by omega)]
        rw [hfb] at h3
        have erow : rowB (nmS (SM M)) (gB (SM M)) a (allB (nmS (SM M)) (gB (SM M)) a) (j + 1) = stB (nmS (SM M)) (gB (SM M)) (rowB (nmS (SM M)) (gB (SM M)) a (allB (nmS (SM M)) (gB (SM M)) a) j) a ((a : Int) + 1 + j) := rfl
        generalize rowB (nmS (SM M)) (gB (SM M)) a (allB (nmS (SM M)) (gB (SM M)) a) j = x at h3 erow
        obtain ⟨c1, c2, c3, c4⟩ := cbM_0 h3
        have nx : ∀ (N2 : xM) (o : Option xV), fM M N2 → stM N2 (SM M) (LNs (SM M)) → cbM N2 (stB (nmS (SM M)) (gB (SM M)) x a ((a : Int) + 1 + j)) → fM M N2 ∧ stM N2 (SM M) (LNs (SM M)) ∧ ((∃ (a' : Nat) (o2 o3 : Option xV), (21 : Nat) = 11 ∧ ([some (.inr 0), some (.inl (a : Int)), some (.inl ((a : Int) + 1 + j + 1)), o] : xL) = [some (.inr 0), some (.inl (a' : Int)), o2, o3] ∧ ([] : List xV) = [] ∧ a' ≤ 6 ∧ cbM N2 (fbS (SM M) (allB (nmS (SM M)) (gB (SM M)) a'))) ∨ (∃ (a' j' : Nat) (o3 : Option xV), (21 : Nat) = 21 ∧ ([some (.inr 0), some (.inl (a : Int)), some (.inl ((a : Int) + 1 + j + 1)), o] : xL) = [some (.inr 0), some (.inl (a' : Int)), some (.inl ((a' : Int) + 1 + j')), o3] ∧ ([] : List xV) = [] ∧ a' < 6 ∧ j' ≤ 5 - a' ∧ cbM N2 (fbS (SM M) (rowB (nmS (SM M)) (gB (SM M)) a' (allB (nmS (SM M)) (gB (SM M)) a') j')))) := by
          intro N2 o f2 s2 hc
          refine ⟨f2, s2, Or.inr ⟨a, j + 1, o, rfl, ?_, rfl, h1, by omega, ?_⟩⟩
          · rw [show (a : Int) + 1 + ((j + 1 : Nat) : Int) = (a : Int) + 1 + j + 1 by omega]
          · rw [hfb, erow]; exact hc
        have skip : ¬ (nmS (SM M) a ∧ nmS (SM M) ((a : Int) + 1 + j)) → stB (nmS (SM M)) (gB (SM M)) x a ((a : Int) + 1 + j) = x := fun z => by unfold stB; exact if_neg z
        have hgb := gB_b h369 a ((a : Int) + 1 + j)
        refine ⟨_, rfl, ⟨by omega, by omega⟩, hw', fun r1 hr1 => ?_⟩
        rw [eS] at hr1
        refine ⟨⟨by omega, by omega⟩, fun q2 => ⟨nx N o3 f s ?_, by (change Int.toNat _ < Int.toNat _); omega⟩, fun q2 => ⟨_, rfl, ⟨by omega, by omega⟩, hw', fun r2 hr2 => ?_⟩⟩
        · rw [skip (fun z => hr1.elim (fun y => by omega) (fun y => y.2 ⟨by omega, z.1⟩))]
          exact h3
        · rw [eS] at hr2
          have n1 := (hr1.elim (fun y => y.2) (fun y => (q2 y.1).elim)).2
          refine ⟨⟨by omega, by omega⟩, fun q3 => ⟨nx N o3 f s ?_, by (change Int.toNat _ < Int.toNat _); omega⟩, fun q3 => ⟨_, rfl, SM M, a, (a : Int) + 1 + j, rfl, by omega, by omega, s, h369, ?_⟩⟩
          · rw [skip (fun z => hr2.elim (fun y => by omega) (fun y => y.2 ⟨by omega, z.2⟩))]
            exact h3
          · have n2 := (hr2.elim (fun y => y.2) (fun y => (q3 y.1).elim)).2
            have put : ∀ o : Option xV, stB (nmS (SM M)) (gB (SM M)) x a ((a : Int) + 1 + j) = some ((a : Int), (a : Int) + 1 + j, gB (SM M) a ((a : Int) + 1 + j)) → _ := fun o z => nx (xup (xup N 0 19 (6 * (a : Int) + ((a : Int) + 1 + j))) 0 20 (gB (SM M) a ((a : Int) + 1 + j))) o ⟨fun k hk => by rw [xup_at, if_neg (by omega), xup_at, if_neg (by omega)]; exact f.1 k hk, fun c z1 z2 => by rw [xup_ne (by omega), xup_ne (by omega)]; exact f.2 c z1 z2⟩ (by
              rw [stM_c (M := N) (fun k z1 z2 => by rw [xup_at, if_neg (by omega), xup_at, if_neg (by omega)]) (by rw [xup_ne (by decide), xup_ne (by decide)]) (by rw [xup_ne (by decide), xup_ne (by decide)]) (by rw [xup_ne (by decide), xup_ne (by decide)])]
              exact s) (by
              rw [z]
              exact ⟨by rw [xup_at, if_neg (by decide), xup_at, if_pos rfl], by rw [xup_at, if_pos rfl], by omega, by omega, hgb⟩)
            refine ⟨⟨by omega, by omega⟩, ⟨by omega, by omega⟩, fun q4 => ⟨put _ ?_, by (change Int.toNat _ < Int.toNat _); omega⟩, fun q4 => ?_⟩
            · rw [c1.mp q4]; exact stB_none ⟨n1, n2⟩
            · have hx : x ≠ none := fun z => q4 (c1.mpr z)
              have b20 := c4 hx
              cases x with
              | none => exact (hx rfl).elim
              | some y =>
                obtain ⟨u, v, w⟩ := y
                have e20 : N 0 20 = w := h3.2.1
                rw [e20] at b20 ⊢
                have tk := stB_some (g := gB (SM M)) (x := u) (y := v) (w := w) (show nmS (SM M) a ∧ nmS (SM M) ((a : Int) + 1 + j) from ⟨n1, n2⟩)
                refine ⟨⟨by omega, by omega⟩, ⟨by omega, by omega⟩, fun q5 => ⟨nx N _ f s ?_, by (change Int.toNat _ < Int.toNat _); omega⟩, fun q5 => ⟨put _ ?_, by (change Int.toNat _ < Int.toNat _); omega⟩⟩
                · rw [tk, if_neg (by omega)]; exact h3
                · rw [tk, if_pos q5]
theorem k_X6_findNext {l : Launch} {D : va_G} {T : Nat → ClassId} {ad : Nat → Nat} (hO : xOk ad LM) : xMet l D T ad LM yX6_findNext cX6_findNext 4 (some .boolean) false 5 sp_X6_findNext :=
  xmet (rt := 2) (fld := fldX6) (cals := (calX6_findNext sp_X6_findNets sp_X6_isSeen sp_X6_greatestHeap)) (cst := []) (I := iX6_findNext) (cut := cutX6_findNext) hO (by decide +kernel) ⟨by decide, by decide, by decide⟩ oX6_findNext foX6 (fun _ h => absurd h List.not_mem_nil) (List.forall_mem_cons.mpr ⟨⟨yX6_findNets, cX6_findNets, 6, none, 4, 0, by decide, yoX6_findNets, k_X6_findNets hO, loX6_127, Or.inr ⟨rfl, rfl, 0, 6, [none, some 1, some 2, none, some 3, some 4, some 5, none, some 6, some 7, some 8, some 9, none, none, none, none, some 10, some 11, some 12, none, none], TX6, 21, rfl, rfl, spV0_r⟩⟩, List.forall_mem_cons.mpr ⟨⟨yX6_isSeen, cX6_isSeen, 2, (some .boolean), 2, 1, by decide, yoX6_isSeen, k_X6_isSeen hO, loX6_130, Or.inr ⟨rfl, rfl, 0, 6, [none, some 1, some 2, none, some 3, some 4, some 5, none, some 6, some 7, some 8, some 9, none, none, none, none, some 10, some 11, some 12, none, none], TX6, 21, rfl, rfl, spV1_r⟩⟩, List.forall_mem_cons.mpr ⟨⟨yX6_greatestHeap, cX6_greatestHeap, 6, (some .int), 0, 1, by decide, yoX6_greatestHeap, k_X6_greatestHeap hO, loX6_142, Or.inr ⟨rfl, rfl, 0, 6, [none, some 1, some 2, none, some 3, some 4, some 5, none, some 6, some 7, some 8, some 9, none, none, none, none, some 10, some 11, some 12, none, none], TX6, 21, rfl, rfl, spV1_r⟩⟩, fun _ h => absurd h List.not_mem_nil⟩⟩⟩) b_X6_findNext
def f_X6_next (M : xM) (Post : xR) : Prop := wM M ∧ wfS (SM M) ∧ qM M Post (nxV (SM M))
theorem nxV_f {S : dS} : nxV S = nxA (fbS S (NXT S)) ∧ woV S = woA (fbS S (NXT S)) := by
  unfold nxV woV fbS
  by_cases h : (LNs S).2.2.length = 0
  · rw [if_pos h, if_pos h, if_pos h]; exact ⟨rfl, rfl⟩
  · rw [if_neg h, if_neg h, if_neg h]; exact ⟨rfl, rfl⟩
abbrev sp_X6_next : xT := spV0 0 f_X6_next
set_option maxRecDepth 100000 in
set_option maxHeartbeats 4000000 in
theorem b_X6_next (as : List xV) (M : xM) (Post : xR) (h : sp_X6_next as M Post) : as.length ≤ 1 ∧ xw LM fldX6 (calX6_next sp_X6_findNext) [] 1 Post iX6_next cutX6_next (fun _ _ _ _ => False) 400 0 (xlv as 1) [] M := by
  obtain ⟨rfl, h⟩ := h
  refine ⟨by simp, ?_⟩
  refine Eq.mpr (vcX6_next_0 ..) ?_
  obtain ⟨hw, hf, hp⟩ := h
  refine ⟨rfl, hw, hf, fun r M' f hc hr => ?_⟩
  have hp' := hp M' f
  rw [nxV_f.1] at hp'
  generalize fbS (SM M) (NXT (SM M)) = x at hc hr hp'
  refine ⟨⟨by omega, by omega⟩, fun q => ?_, fun q => ?_⟩
  · have : x = none := hr.elim (fun y => y.2) (fun y => by omega)
    subst this
    exact hp'
  · have : x ≠ none := hr.elim (fun y => (q y.1).elim) (fun y => y.2)
    cases x with
    | none => exact (this rfl).elim
    | some y =>
      obtain ⟨a, b, c⟩ := y
      obtain ⟨h1, h2, h3, h4, h5⟩ := hc
      refine ⟨by omega, by omega, ?_⟩
      have e : 10 * (M' 0 19 / 6) + M' 0 19 % 6 = 10 * a + b := by omega
      rw [e]
      exact hp'
theorem k_X6_next {l : Launch} {D : va_G} {T : Nat → ClassId} {ad : Nat → Nat} (hO : xOk ad LM) : xMet l D T ad LM yX6_next cX6_next 1 (some .int) false 6 sp_X6_next :=
  xmet0 (rt := 1) (fld := fldX6) (cals := (calX6_next sp_X6_findNext)) (cst := []) (I := iX6_next) (cut := cutX6_next) hO (by decide +kernel) ⟨by decide, by decide, by decide⟩ oX6_next foX6 (fun _ h => absurd h List.not_mem_nil) (List.forall_mem_cons.mpr ⟨⟨yX6_findNext, cX6_findNext, 4, (some .boolean), 5, 0, by decide, yoX6_findNext, k_X6_findNext hO, loX6_148, Or.inr ⟨rfl, rfl, 0, 6, [none, some 1, some 2, none, some 3, some 4, some 5, none, some 6, some 7, some 8, some 9, none, none, none, none, some 10, some 11, some 12, none, none], TX6, 21, rfl, rfl, spV0_r⟩⟩, fun _ h => absurd h List.not_mem_nil⟩) b_X6_next
def f_X6_worst (M : xM) (Post : xR) : Prop := wM M ∧ wfS (SM M) ∧ qM M Post (woV (SM M))
abbrev sp_X6_worst : xT := spV0 0 f_X6_worst
set_option maxRecDepth 100000 in
set_option maxHeartbeats 4000000 in
theorem b_X6_worst (as : List xV) (M : xM) (Post : xR) (h : sp_X6_worst as M Post) : as.length ≤ 1 ∧ xw LM fldX6 (calX6_worst sp_X6_findNext) [] 1 Post iX6_worst cutX6_worst (fun _ _ _ _ => False) 400 0 (xlv as 1) [] M := by
  obtain ⟨rfl, h⟩ := h
  refine ⟨by simp, ?_⟩
  refine Eq.mpr (vcX6_worst_0 ..) ?_
  obtain ⟨hw, hf, hp⟩ := h
  refine ⟨rfl, hw, hf, fun r M' f hc hr => ?_⟩
  have hp' := hp M' f
  rw [nxV_f.2] at hp'
  generalize fbS (SM M) (NXT (SM M)) = x at hc hr hp'
  refine ⟨⟨by omega, by omega⟩, fun q => ?_, fun q => ?_⟩
  · have : x = none := hr.elim (fun y => y.2) (fun y => by omega)
    subst this
    exact hp'
  · have : x ≠ none := hr.elim (fun y => (q y.1).elim) (fun y => y.2)
    cases x with
    | none => exact (this rfl).elim
    | some y =>
      obtain ⟨a, b, c⟩ := y
      obtain ⟨h1, h2, h3, h4, h5⟩ := hc
      rw [h2]
      exact hp'
theorem k_X6_worst {l : Launch} {D : va_G} {T : Nat → ClassId} {ad : Nat → Nat} (hO : xOk ad LM) : xMet l D T ad LM yX6_worst cX6_worst 1 (some .int) false 6 sp_X6_worst :=
  xmet0 (rt := 1) (fld := fldX6) (cals := (calX6_worst sp_X6_findNext)) (cst := []) (I := iX6_worst) (cut := cutX6_worst) hO (by decide +kernel) ⟨by decide, by decide, by decide⟩ oX6_worst foX6 (fun _ h => absurd h List.not_mem_nil) (List.forall_mem_cons.mpr ⟨⟨yX6_findNext, cX6_findNext, 4, (some .boolean), 5, 0, by decide, yoX6_findNext, k_X6_findNext hO, loX6_148, Or.inr ⟨rfl, rfl, 0, 6, [none, some 1, some 2, none, some 3, some 4, some 5, none, some 6, some 7, some 8, some 9, none, none, none, none, some 10, some 11, some 12, none, none], TX6, 21, rfl, rfl, spV0_r⟩⟩, fun _ h => absurd h List.not_mem_nil⟩) b_X6_worst

