/-! Survey: the pair that is chosen, heaps, make -/
abbrev bSt : Type := Option (Int × Int × Int)
noncomputable def stB (sn : Int → Prop) (g : Int → Int → Int) (s : bSt) (a b : Int) : bSt := @ite _ (sn a ∧ sn b) (Classical.propDecidable _) (match s with
  | none => some (a, b, g a b)
  | some (x, y, h) => if g a b < h then some (a, b, g a b) else some (x, y, h)) s
noncomputable def rowB (sn : Int → Prop) (g : Int → Int → Int) (a : Nat) (s : bSt) : Nat → bSt
  | 0 => s
  | j + 1 => stB sn g (rowB sn g a s j) a ((a : Int) + 1 + j)
noncomputable def allB (sn : Int → Prop) (g : Int → Int → Int) : Nat → bSt
  | 0 => none
  | a + 1 => rowB sn g a (allB sn g a) (5 - a)
theorem stB_congr {sn sn' : Int → Prop} {g g' : Int → Int → Int} {s : bSt} {a b : Int} (h1 : sn a ↔ sn' a) (h2 : sn b ↔ sn' b) (h3 : sn a → sn b → g a b = g' a b) : stB sn g s a b = stB sn' g' s a b := by
  unfold stB
  by_cases h : sn a ∧ sn b
  · rw [if_pos h, if_pos ⟨h1.mp h.1, h2.mp h.2⟩, h3 h.1 h.2]
  · rw [if_neg h, if_neg (fun z => h ⟨h1.mpr z.1, h2.mpr z.2⟩)]
theorem rowB_congr {sn sn' : Int → Prop} {g g' : Int → Int → Int} {a : Nat} {s : bSt} (hs : ∀ n, 0 ≤ n → n < 6 → (sn n ↔ sn' n)) (hg : ∀ x y, 0 ≤ x → x < y → y < 6 → sn x → sn y → g x y = g' x y) : ∀ j, a + 1 + j ≤ 6 → rowB sn g a s j = rowB sn' g' a s j := by
  intro j
  induction j with
  | zero => intro _; rfl
  | succ j ih =>
    intro hj
    simp only [rowB]
    rw [ih (by omega)]
    exact stB_congr (hs _ (by omega) (by omega)) (hs _ (by omega) (by omega)) (hg _ _ (by omega) (by omega) (by omega))
theorem allB_congr {sn sn' : Int → Prop} {g g' : Int → Int → Int} (hs : ∀ n, 0 ≤ n → n < 6 → (sn n ↔ sn' n)) (hg : ∀ x y, 0 ≤ x → x < y → y < 6 → sn x → sn y → g x y = g' x y) : ∀ a, a ≤ 6 → allB sn g a = allB sn' g' a := by
  intro a
  induction a with
  | zero => intro _; rfl
  | succ a ih =>
    intro ha
    simp only [allB]
    rw [ih (by omega)]
    by_cases h5 : a = 5
    · subst h5; rfl
    · exact rowB_congr hs hg _ (by omega)
theorem stB_T (g : Int → Int → Int) (s : bSt) (a b : Int) : stB (fun _ => True) g s a b = match s with
    | none => some (a, b, g a b)
    | some (x, y, h) => if g a b < h then some (a, b, g a b) else some (x, y, h) := by
  unfold stB
  exact if_pos (show (fun _ : Int => True) a ∧ (fun _ : Int => True) b from ⟨trivial, trivial⟩)
/-- the class's two fields hold this choice -/
def cbO (M : xM) (s : bSt) : Prop := match s with
  | none => M 12 8 = -6 ∧ M 12 9 = -6
  | some (a, b, h) => M 12 8 = 10 * a + b ∧ M 12 9 = h ∧ 0 ≤ a ∧ 0 ≤ b ∧ a < 6 ∧ b < 6 ∧ 0 ≤ h ∧ h ≤ 1000
def f_X3_choose (a b : Int) (M : xM) (Post : xR) : Prop := ∃ s : bSt, (0 ≤ a ∧ a < 6) ∧ (0 ≤ b ∧ b < 6) ∧ wH M ∧ cbO M s ∧ ∀ M' : xM, (∀ c, c ≠ 12 → M' c = M c) → M' 12 7 = M 12 7 → cbO M' (stB (fun _ => True) (ghM M) s a b) → Post 0 M'
abbrev sp_X3_choose : xT := spV2 12 f_X3_choose
set_option maxRecDepth 100000 in
set_option maxHeartbeats 4000000 in
theorem b_X3_choose (as : List xV) (M : xM) (Post : xR) (h : sp_X3_choose as M Post) : as.length ≤ 4 ∧ xw LX fldX3 (calX3_choose sp_X3_greatestHeap) [] 0 Post iX3_choose cutX3_choose (fun _ _ _ _ => False) 400 0 (xlv as 4) [] M := by
  obtain ⟨v1, v2, rfl, h⟩ := h
  refine ⟨by simp, ?_⟩
  refine Eq.mpr (vcX3_choose_0 ..) ?_
  obtain ⟨s, ha, hb, hH, hs, hp⟩ := h
  have hg := mxI_b (f := fun j => M 15 ((v1 * 6 + v2) * 11 + j)) (c := 1000) (by omega) 11 (fun j a1 a2 => hH _ (by omega) (by omega))
  have hg : 0 ≤ ghM M v1 v2 ∧ ghM M v1 v2 ≤ 1000 := hg
  rw [stB_T] at hp
  refine ⟨_, _, rfl, ha, hb, hH, ?_⟩
  have hnew : cbO (xup (xup M 12 8 (10 * v1 + v2)) 12 9 (ghM M v1 v2)) (some (v1, v2, ghM M v1 v2)) := ⟨by simp [xup], by simp [xup], by omega, by omega, by omega, by omega, hg.1, hg.2⟩
  have hfr : ∀ c, c ≠ 12 → (xup (xup M 12 8 (10 * v1 + v2)) 12 9 (ghM M v1 v2)) c = M c := fun c hc => by rw [xup_ne hc, xup_ne hc]
  have h7 : (xup (xup M 12 8 (10 * v1 + v2)) 12 9 (ghM M v1 v2)) 12 7 = M 12 7 := by simp [xup]
  cases s with
  | none =>
    obtain ⟨c1, c2⟩ := hs
    refine ⟨⟨by omega, by omega⟩, ⟨by omega, by omega⟩, fun q => hp _ hfr h7 hnew, fun q => by omega⟩
  | some s =>
    obtain ⟨x, y, z⟩ := s
    obtain ⟨c1, c2, c3, c4, c5, c6, c7, c8⟩ := id hs
    dsimp only at hp
    refine ⟨⟨by omega, by omega⟩, ⟨by omega, by omega⟩, fun q => by omega, fun q => ⟨⟨by omega, by omega⟩, ⟨by omega, by omega⟩, fun q1 => ?_, fun q1 => ?_⟩⟩
    · rw [if_neg (by omega)] at hp
      exact hp M (fun _ _ => rfl) rfl hs
    · rw [if_pos (by omega)] at hp
      exact hp _ hfr h7 hnew
theorem k_X3_choose {l : Launch} {D : va_G} {T : Nat → ClassId} {ad : Nat → Nat} (hO : xOk ad LX) : xMet l D T ad LX yX3_choose cX3_choose 4 none true 2 sp_X3_choose :=
  xmet0 (rt := 0) (fld := fldX3) (cals := (calX3_choose sp_X3_greatestHeap)) (cst := []) (I := iX3_choose) (cut := cutX3_choose) hO (by decide +kernel) ⟨by decide, by decide, by decide⟩ oX3_choose foX3 (fun _ h => absurd h List.not_mem_nil) (List.forall_mem_cons.mpr ⟨⟨yX3_greatestHeap, cX3_greatestHeap, 6, (some .int), 1, 2, by decide, yoX3_greatestHeap, k_X3_greatestHeap hO, loX3_112, Or.inr ⟨rfl, rfl, 12, 3, [some 1, some 4, some 7, some 10, some 13, some 14, some 15, none, none, none], TX3, 10, rfl, rfl, spV2_r⟩⟩, fun _ h => absurd h List.not_mem_nil⟩) b_X3_choose
def f_X3_choosePair (x : Int) (M : xM) (Post : xR) : Prop := (0 ≤ x ∧ x < 64) ∧ wH M ∧ ∀ M' : xM, (∀ c, c ≠ 12 → M' c = M c) → M' 12 7 = M 12 7 → cbO M' (allB (tb x) (ghM M) 6) → Post 0 M'
abbrev sp_X3_choosePair : xT := spV1 12 f_X3_choosePair
set_option maxRecDepth 100000 in
set_option maxHeartbeats 4000000 in
theorem b_X3_choosePair (as : List xV) (M : xM) (Post : xR) (h : sp_X3_choosePair as M Post) : as.length ≤ 4 ∧ ∃ (Inv : xG) (μ : Nat → xL → List xV → xM → Nat) (f0 f1 : Nat), xw LX fldX3 (calX3_choosePair sp_X5_hasBit sp_X3_choose) [] 0 Post iX3_choosePair cutX3_choosePair Inv f0 0 (xlv as 4) [] M ∧ ∀ pc lv st M', Inv pc lv st M' → xw LX fldX3 (calX3_choosePair sp_X5_hasBit sp_X3_choose) [] 0 Post iX3_choosePair cutX3_choosePair (fun pc2 lv2 st2 M2 => Inv pc2 lv2 st2 M2 ∧ μ pc2 lv2 st2 M2 < μ pc lv st M') f1 pc lv st M' := by
  obtain ⟨v1, rfl, h⟩ := h
  refine ⟨by simp, (fun pc lv st N => (∃ (a : Nat) (o3 : Option xV), pc = 14 ∧ lv = [some (.inr 12), some (.inl v1), some (.inl (a : Int)), o3] ∧ st = [] ∧ a ≤ 6 ∧ (∀ c, c ≠ 12 → N c = M c) ∧ N 12 7 = M 12 7 ∧ cbO N (allB (tb v1) (ghM M) a)) ∨ (∃ (a j : Nat), pc = 24 ∧ lv = [some (.inr 12), some (.inl v1), some (.inl (a : Int)), some (.inl ((a : Int) + 1 + j))] ∧ st = [] ∧ a < 6 ∧ j ≤ 5 - a ∧ (∀ c, c ≠ 12 → N c = M c) ∧ N 12 7 = M 12 7 ∧ cbO N (rowB (tb v1) (ghM M) a (allB (tb v1) (ghM M) a) j))), (fun pc lv st N => match pc, lv with | 14, [_, _, some (.inl a), _] => ((7 - a) * 100).toNat | 24, [_, _, some (.inl a), some (.inl b)] => ((6 - a) * 100 + 50 - b).toNat | _, _ => 0), 400, 400, Eq.mpr (vcX3_choosePair_0 ..) ?_, ?_⟩
  · obtain ⟨hx, hH, hp⟩ := h
    exact Or.inl ⟨0, none, rfl, rfl, rfl, by omega, fun c hc => by rw [xup_ne hc, xup_ne hc], by simp [xup], by simp [xup], by simp [xup]⟩
  · obtain ⟨hx, hH, hp⟩ := h
    rintro pc lv st N (⟨a, o3, rfl, rfl, rfl, h1, h2, h3, h4⟩ | ⟨a, j, rfl, rfl, rfl, h1, h2, h3, h4, h5⟩)
    · refine Eq.mpr (vcX3_choosePair_14 ..) ?_
      refine ⟨⟨by omega, by omega⟩, ⟨by omega, by omega⟩, fun q => ?_, fun q => ⟨Or.inr ⟨a, 0, rfl, ?_, rfl, by omega, by omega, h2, h3, h4⟩, by (change Int.toNat _ < Int.toNat _); omega⟩⟩
      · rw [show a = 6 by omega] at h4
        exact hp N h2 h3 h4
      · show _ = ([some (.inr 12), some (.inl v1), some (.inl (a : Int)), some (.inl ((a : Int) + 1 + 0))] : xL)
        rw [Int.add_zero]
    · refine Eq.mpr (vcX3_choosePair_24 ..) ?_
      have e15 : N 15 = M 15 := h3 15 (by decide)
      have hHN : wH N := by unfold wH; rw [e15]; exact hH
      have eg : ghM N = ghM M := by funext u w; unfold ghM; rw [e15]
      have hnx : ∀ N' : xM, j < 5 - a → (∀ c, c ≠ 12 → N' c = M c) → N' 12 7 = M 12 7 → cbO N' (rowB (tb v1) (ghM M) a (allB (tb v1) (ghM M) a) (j + 1)) → (∃ (a' j' : Nat), (24 : Nat) = 24 ∧ ([some (.inr 12), some (.inl v1), some (.inl (a : Int)), some (.inl ((a : Int) + 1 + j + 1))] : xL) = [some (.inr 12), some (.inl v1), some (.inl (a' : Int)), some (.inl ((a' : Int) + 1 + j'))] ∧ ([] : List xV) = [] ∧ a' < 6 ∧ j' ≤ 5 - a' ∧ (∀ c, c ≠ 12 → N' c = M c) ∧ N' 12 7 = M 12 7 ∧ cbO N' (rowB (tb v1) (ghM M) a' (allB (tb v1) (ghM M) a') j')) := by
        intro N' k0 k1 k2 k3
        refine ⟨a, j + 1, rfl, ?_, rfl, h1, by omega, k1, k2, k3⟩
        rw [show (a : Int) + 1 + j + 1 = (a : Int) + 1 + ((j + 1 : Nat) : Int) by omega]
      refine ⟨⟨by omega, by omega⟩, ⟨by omega, by omega⟩, fun q => ⟨Or.inl ⟨a + 1, _, rfl, rfl, rfl, by omega, h3, h4, ?_⟩, by (change Int.toNat _ < Int.toNat _); omega⟩, fun q => ⟨_, _, rfl, ⟨by omega, by omega⟩, ⟨by omega, by omega⟩, fun r1 hr1 => ⟨⟨by omega, by omega⟩, fun q1 => ⟨Or.inr (hnx N (by omega) h3 h4 ?_), by (change Int.toNat _ < Int.toNat _); omega⟩, fun q1 => ⟨_, _, rfl, ⟨by omega, by omega⟩, ⟨by omega, by omega⟩, fun r2 hr2 => ⟨⟨by omega, by omega⟩, fun q2 => ⟨Or.inr (hnx N (by omega) h3 h4 ?_), by (change Int.toNat _ < Int.toNat _); omega⟩, fun q2 => ⟨_, _, rfl, _, ⟨by omega, by omega⟩, ⟨by omega, by omega⟩, hHN, h5, fun N' g1 g2 g3 => ⟨Or.inr (hnx N' (by omega) (fun c hc => by rw [g1 c hc]; exact h3 c hc) (by rw [g2]; exact h4) ?_), by (change Int.toNat _ < Int.toNat _); omega⟩⟩⟩⟩⟩⟩⟩
      · rw [show j = 5 - a by omega] at h5
        exact h5
      · have hn : ¬ tb v1 a := hr1.elim (fun z => by omega) (fun z => z.2)
        have : rowB (tb v1) (ghM M) a (allB (tb v1) (ghM M) a) (j + 1) = rowB (tb v1) (ghM M) a (allB (tb v1) (ghM M) a) j := by
          simp only [rowB]; unfold stB; exact if_neg (fun z => hn z.1)
        rw [this]; exact h5
      · have hn : ¬ tb v1 ((a : Int) + 1 + j) := hr2.elim (fun z => by omega) (fun z => z.2)
        have : rowB (tb v1) (ghM M) a (allB (tb v1) (ghM M) a) (j + 1) = rowB (tb v1) (ghM M) a (allB (tb v1) (ghM M) a) j := by
          simp only [rowB]; unfold stB; exact if_neg (fun z => hn z.2)
        rw [this]; exact h5
      · have p1 : tb v1 a := hr1.elim (fun z => z.2) (fun z => (q1 z.1).elim)
        have p2 : tb v1 ((a : Int) + 1 + j) := hr2.elim (fun z => z.2) (fun z => (q2 z.1).elim)
        rw [eg] at g3
        have : stB (fun _ => True) (ghM M) (rowB (tb v1) (ghM M) a (allB (tb v1) (ghM M) a) j) a ((a : Int) + 1 + j) = rowB (tb v1) (ghM M) a (allB (tb v1) (ghM M) a) (j + 1) := stB_congr ⟨fun _ => p1, fun _ => trivial⟩ ⟨fun _ => p2, fun _ => trivial⟩ (fun _ _ => rfl)
        rw [← this]; exact g3
theorem k_X3_choosePair {l : Launch} {D : va_G} {T : Nat → ClassId} {ad : Nat → Nat} (hO : xOk ad LX) : xMet l D T ad LX yX3_choosePair cX3_choosePair 4 none true 3 sp_X3_choosePair :=
  xmet (rt := 0) (fld := fldX3) (cals := (calX3_choosePair sp_X5_hasBit sp_X3_choose)) (cst := []) (I := iX3_choosePair) (cut := cutX3_choosePair) hO (by decide +kernel) ⟨by decide, by decide, by decide⟩ oX3_choosePair foX3 (fun _ h => absurd h List.not_mem_nil) (List.forall_mem_cons.mpr ⟨⟨yX5_hasBit, cX5_hasBit, 2, (some .boolean), 0, 2, by decide, yoX5_hasBit, k_X5_hasBit hO, loX3_62, Or.inl ⟨rfl, rfl⟩⟩, List.forall_mem_cons.mpr ⟨⟨yX3_choose, cX3_choose, 4, none, 2, 2, by decide, yoX3_choose, k_X3_choose hO, loX3_108, Or.inr ⟨rfl, rfl, 12, 3, [some 1, some 4, some 7, some 10, some 13, some 14, some 15, none, none, none], TX3, 10, rfl, rfl, spV2_r⟩⟩, fun _ h => absurd h List.not_mem_nil⟩⟩) b_X3_choosePair

