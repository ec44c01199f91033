/-! LeastNets, but for seek and many -/
def f_X0_forgetFound (M : xM) (Post : xR) : Prop := Post 0 (xup M 10 4 0)
abbrev sp_X0_forgetFound : xT := spV0 10 f_X0_forgetFound
set_option maxRecDepth 100000 in
set_option maxHeartbeats 4000000 in
theorem b_X0_forgetFound (as : List xV) (M : xM) (Post : xR) (h : sp_X0_forgetFound as M Post) : as.length ≤ 1 ∧ xw LX fldX0 calX0_forgetFound [] 0 Post iX0_forgetFound cutX0_forgetFound (fun _ _ _ _ => False) 400 0 (xlv as 1) [] M := by
  obtain ⟨rfl, h⟩ := h
  refine ⟨by simp, ?_⟩
  refine Eq.mpr (vcX0_forgetFound_0 ..) ?_
  exact ⟨by omega, h⟩
theorem k_X0_forgetFound {l : Launch} {D : va_G} {T : Nat → ClassId} {ad : Nat → Nat} (hO : xOk ad LX) : xMet l D T ad LX yX0_forgetFound cX0_forgetFound 1 none true 0 sp_X0_forgetFound :=
  xmet0 (rt := 0) (fld := fldX0) (cals := calX0_forgetFound) (cst := []) (I := iX0_forgetFound) (cut := cutX0_forgetFound) hO (by decide +kernel) ⟨by decide, by decide, by decide⟩ oX0_forgetFound foX0 (fun _ h => absurd h List.not_mem_nil) (fun _ h => absurd h List.not_mem_nil) b_X0_forgetFound
def f_X0_newBoxes (M : xM) (Post : xR) : Prop := Post (M 10 6) M
abbrev sp_X0_newBoxes : xT := spV0 10 f_X0_newBoxes
set_option maxRecDepth 100000 in
set_option maxHeartbeats 4000000 in
theorem b_X0_newBoxes (as : List xV) (M : xM) (Post : xR) (h : sp_X0_newBoxes as M Post) : as.length ≤ 1 ∧ xw LX fldX0 calX0_newBoxes [] 1 Post iX0_newBoxes cutX0_newBoxes (fun _ _ _ _ => False) 400 0 (xlv as 1) [] M := by
  obtain ⟨rfl, h⟩ := h
  refine ⟨by simp, ?_⟩
  refine Eq.mpr (vcX0_newBoxes_0 ..) ?_
  exact h
theorem k_X0_newBoxes {l : Launch} {D : va_G} {T : Nat → ClassId} {ad : Nat → Nat} (hO : xOk ad LX) : xMet l D T ad LX yX0_newBoxes cX0_newBoxes 1 (some .int) false 0 sp_X0_newBoxes :=
  xmet0 (rt := 1) (fld := fldX0) (cals := calX0_newBoxes) (cst := []) (I := iX0_newBoxes) (cut := cutX0_newBoxes) hO (by decide +kernel) ⟨by decide, by decide, by decide⟩ oX0_newBoxes foX0 (fun _ h => absurd h List.not_mem_nil) (fun _ h => absurd h List.not_mem_nil) b_X0_newBoxes
def f_X0_lines (M : xM) (Post : xR) : Prop := Post (M 10 7) M
abbrev sp_X0_lines : xT := spV0 10 f_X0_lines
set_option maxRecDepth 100000 in
set_option maxHeartbeats 4000000 in
theorem b_X0_lines (as : List xV) (M : xM) (Post : xR) (h : sp_X0_lines as M Post) : as.length ≤ 1 ∧ xw LX fldX0 calX0_lines [] 1 Post iX0_lines cutX0_lines (fun _ _ _ _ => False) 400 0 (xlv as 1) [] M := by
  obtain ⟨rfl, h⟩ := h
  refine ⟨by simp, ?_⟩
  refine Eq.mpr (vcX0_lines_0 ..) ?_
  exact h
theorem k_X0_lines {l : Launch} {D : va_G} {T : Nat → ClassId} {ad : Nat → Nat} (hO : xOk ad LX) : xMet l D T ad LX yX0_lines cX0_lines 1 (some .int) false 0 sp_X0_lines :=
  xmet0 (rt := 1) (fld := fldX0) (cals := calX0_lines) (cst := []) (I := iX0_lines) (cut := cutX0_lines) hO (by decide +kernel) ⟨by decide, by decide, by decide⟩ oX0_lines foX0 (fun _ h => absurd h List.not_mem_nil) (fun _ h => absurd h List.not_mem_nil) b_X0_lines
def f_X0_code (k : Int) (M : xM) (Post : xR) : Prop := (0 ≤ k ∧ k < 512) ∧ Post (M 11 k) M
abbrev sp_X0_code : xT := spV1 10 f_X0_code
set_option maxRecDepth 100000 in
set_option maxHeartbeats 4000000 in
theorem b_X0_code (as : List xV) (M : xM) (Post : xR) (h : sp_X0_code as M Post) : as.length ≤ 2 ∧ xw LX fldX0 calX0_code [] 1 Post iX0_code cutX0_code (fun _ _ _ _ => False) 400 0 (xlv as 2) [] M := by
  obtain ⟨v1, rfl, h⟩ := h
  refine ⟨by simp, ?_⟩
  refine Eq.mpr (vcX0_code_0 ..) ?_
  obtain ⟨h0, hp⟩ := h
  simp only [rg]
  grind
theorem k_X0_code {l : Launch} {D : va_G} {T : Nat → ClassId} {ad : Nat → Nat} (hO : xOk ad LX) : xMet l D T ad LX yX0_code cX0_code 2 (some .int) false 0 sp_X0_code :=
  xmet0 (rt := 1) (fld := fldX0) (cals := calX0_code) (cst := []) (I := iX0_code) (cut := cutX0_code) hO (by decide +kernel) ⟨by decide, by decide, by decide⟩ oX0_code foX0 (fun _ h => absurd h List.not_mem_nil) (fun _ h => absurd h List.not_mem_nil) b_X0_code
def f_X0_mayTake (a b : Int) (M : xM) (Post : xR) : Prop := (0 ≤ a ∧ a < 10) ∧ rg b ∧ rg (M 10 6) ∧ (0 ≤ M 10 9 ∧ M 10 9 < 64) ∧ ∀ r, (r = 1 ∧ (b ≤ M 10 6 ∧ (6 ≤ a ∨ a < 6 ∧ tb (M 10 9) a)) ∨ r = 0 ∧ (M 10 6 < b ∨ a < 6 ∧ ¬ tb (M 10 9) a)) → Post r M
abbrev sp_X0_mayTake : xT := spV2 10 f_X0_mayTake
set_option maxRecDepth 100000 in
set_option maxHeartbeats 4000000 in
theorem b_X0_mayTake (as : List xV) (M : xM) (Post : xR) (h : sp_X0_mayTake as M Post) : as.length ≤ 3 ∧ xw LX fldX0 (calX0_mayTake sp_X5_hasBit) [] 2 Post iX0_mayTake cutX0_mayTake (fun _ _ _ _ => False) 400 0 (xlv as 3) [] M := by
  obtain ⟨v1, v2, rfl, h⟩ := h
  refine ⟨by simp, ?_⟩
  refine Eq.mpr (vcX0_mayTake_0 ..) ?_
  obtain ⟨ha, hb, hc, hd, hp⟩ := h
  refine ⟨hb, hc, fun q => ⟨by omega, hp 0 (Or.inr ⟨rfl, Or.inl q⟩)⟩, fun q => ⟨⟨by omega, by omega⟩, ⟨by omega, by omega⟩, fun q1 => ⟨by omega, hp 1 (Or.inl ⟨rfl, q, Or.inl q1⟩)⟩, fun q1 => ⟨_, _, rfl, ⟨by omega, by omega⟩, ⟨by omega, by omega⟩, fun r hr => ⟨⟨by omega, by omega⟩, fun q2 => ⟨by omega, hp 0 (Or.inr ⟨rfl, Or.inr ⟨q1, ?_⟩⟩)⟩, fun q2 => ⟨by omega, hp 1 (Or.inl ⟨rfl, q, Or.inr ⟨q1, ?_⟩⟩)⟩⟩⟩⟩⟩
  · rcases hr with ⟨a, _⟩ | ⟨_, a⟩
    · omega
    · exact a
  · rcases hr with ⟨_, a⟩ | ⟨a, _⟩
    · exact a
    · omega
theorem k_X0_mayTake {l : Launch} {D : va_G} {T : Nat → ClassId} {ad : Nat → Nat} (hO : xOk ad LX) : xMet l D T ad LX yX0_mayTake cX0_mayTake 3 (some .boolean) false 1 sp_X0_mayTake :=
  xmet0 (rt := 2) (fld := fldX0) (cals := (calX0_mayTake sp_X5_hasBit)) (cst := []) (I := iX0_mayTake) (cut := cutX0_mayTake) hO (by decide +kernel) ⟨by decide, by decide, by decide⟩ oX0_mayTake foX0 (fun _ h => absurd h List.not_mem_nil) (List.forall_mem_cons.mpr ⟨⟨yX5_hasBit, cX5_hasBit, 2, (some .boolean), 0, 2, by decide, yoX5_hasBit, k_X5_hasBit hO, loX0_93, Or.inl ⟨rfl, rfl⟩⟩, fun _ h => absurd h List.not_mem_nil⟩) b_X0_mayTake
/-- the class's memory holds this state of the search -/
def stO (M : xM) (S : dS) (s : lSt) : Prop := M 10 6 = s.1 ∧ M 10 7 = s.2.1 ∧ M 10 5 = s.2.2.length ∧ ∀ (j : Nat) (A : List Int), s.2.2[j]? = some A → (0 ≤ M 11 j ∧ M 11 j < 65536) ∧ (∀ u, 0 ≤ u → u < 4 → bxc (M 11 j) u < 10) ∧ ∀ u, 0 ≤ u → u < (mS S : Int) → bxc (M 11 j) u = lkA A u
theorem stO_eq {M N : xM} {S : dS} {s : lSt} (h10 : N 10 = M 10) (h11 : N 11 = M 11) : stO N S s = stO M S s := by simp only [stO, h10, h11]
theorem LnT_sym {S : dS} {pl : Int → Int → Int} {t a b : Int} (h : LnT S pl t a b) : LnT S pl t b a := by
  obtain ⟨i, h1, h2, h3⟩ := h
  exact ⟨i, h1, h2, h3.symm⟩
theorem Adj_sym {S : dS} {q : Int → Prop} {pl : Int → Int → Int} (x y : Int) (h : Adj S q pl x y) : Adj S q pl y x := by
  obtain ⟨t, h1, h2, h3⟩ := h
  exact ⟨t, h1, h2, LnT_sym h3⟩
theorem Adj_irr {S : dS} {q : Int → Prop} {pl : Int → Int → Int} (hF : FT S q pl) (x : Int) : ¬ Adj S q pl x x := by
  rintro ⟨t, h1, h2, i, a1, a2, a3⟩
  refine hF.1 t h1.1 h1.2 h2 i (i + 1) a1 (by omega) a2 ?_
  rcases a3 with ⟨b1, b2⟩ | ⟨b1, b2⟩ <;> rw [b1, b2]
theorem plX_L {M : xM} (hw : wS M) {A : List Int} (h : ∀ s, 0 ≤ s → s < (mS (SX M) : Int) → M 8 s = lkA A s) : ∀ t i, 0 ≤ t → t < (SX M).1 → 0 ≤ i → i < (SX M).2.1 t → plX M t i = plL (SX M) A t i := fun t i h1 h2 h3 h4 => Pl_congr h ⟨h1, h2⟩ ⟨h3, h4⟩
theorem stp_1 {Fit : List Int → Prop} {nl : List Int → Nat} {s : lSt} {A : List Int} (h1 : s.1 ≤ 4) (h2 : s.2.1 ≤ 100) (h3 : nl A ≤ 45) : (stp Fit nl s A).1 ≤ 4 ∧ (stp Fit nl s A).2.1 ≤ 100 := by
  by_cases hc : Fit A ∧ (nwL A 0 < s.1 ∨ nwL A 0 = s.1 ∧ nl A ≤ s.2.1)
  · rw [stp_yes hc]
    split
    · constructor
      · show nwL A 0 ≤ 4; omega
      · show nl A ≤ 100; omega
    · exact ⟨h1, h2⟩
  · rw [stp_no hc]; exact ⟨h1, h2⟩
theorem fold_1 {S : dS} : ∀ (l : List (List Int)) (s : lSt), s.1 ≤ 4 → s.2.1 ≤ 100 → (l.foldl (stp (Fit S) (nlL S)) s).1 ≤ 4 ∧ (l.foldl (stp (Fit S) (nlL S)) s).2.1 ≤ 100 := by
  intro l
  induction l with
  | nil => intro s h1 h2; exact ⟨h1, h2⟩
  | cons A l ih =>
    intro s h1 h2
    rw [List.foldl_cons]
    have := stp_1 (Fit := Fit S) (nl := nlL S) (A := A) h1 h2 (nLn_le _)
    exact ih _ this.1 this.2
def f_X0_keep (nw : Int) (M : xM) (Post : xR) : Prop := ∃ (A : List Int) (s : lSt), wS M ∧ wA M ∧ (∀ u, 0 ≤ u → u < (mS (SX M) : Int) → M 8 u = lkA A u) ∧ FT (SX M) all0 (plX M) ∧ JN M (Adj (SX M) all0 (plX M)) ∧ nw = (nwL A 0 : Nat) ∧ nwL A 0 ≤ 4 ∧ stO M (SX M) s ∧ s.1 ≤ 4 ∧ s.2.1 ≤ 100 ∧ s.2.2.length < 512 ∧ ∀ M' : xM, (∀ c, c ≠ 10 → c ≠ 11 → M' c = M c) → M' 10 4 = M 10 4 → M' 10 8 = M 10 8 → M' 10 9 = M 10 9 → stO M' (SX M) (stp (Fit (SX M)) (nlL (SX M)) s A) → Post 0 M'
abbrev sp_X0_keep : xT := spV1 10 f_X0_keep
set_option maxRecDepth 100000 in
set_option maxHeartbeats 4000000 in
theorem b_X0_keep (as : List xV) (M : xM) (Post : xR) (h : sp_X0_keep as M Post) : as.length ≤ 3 ∧ xw LX fldX0 (calX0_keep sp_X1_lines sp_X1_code) [] 0 Post iX0_keep cutX0_keep (fun _ _ _ _ => False) 400 0 (xlv as 3) [] M := by
  obtain ⟨v1, rfl, h⟩ := h
  refine ⟨by simp, ?_⟩
  refine Eq.mpr (vcX0_keep_0 ..) ?_
  obtain ⟨A, s, hw, hA, hl, hF, hJ, rfl, hn4, hs, hs1, hs2, hs3, hp⟩ := h
  obtain ⟨c1, c2, c3, c4⟩ := id hs
  have hpl := plX_L hw hl
  have hFit : Fit (SX M) A := (FT_iff rfl (fun _ _ _ => rfl) (fun _ _ _ => Iff.rfl) hpl).mp hF
  have hnl : nLn (Adj (SX M) all0 (plX M)) 10 = nlL (SX M) A := nLn_congr (Adj_iff rfl (fun _ _ _ => rfl) (fun _ _ _ => Iff.rfl) hpl) 10
  have hn45 : nlL (SX M) A ≤ 45 := nLn_le _
  have chain : ∀ M0 : xM, M0 8 = M 8 → (0 ≤ M0 10 5 ∧ M0 10 5 < 512) → (∀ x, 0 ≤ x → x < 65536 → (∀ u, 0 ≤ u → u < 4 → bxc x u = M 8 u) → Post 0 (xup (xup M0 11 (M0 10 5) x) 10 5 ((xup M0 11 (M0 10 5) x) 10 5 + 1))) → (rg (M0 10 5) ∧ rg (512 : Int) ∧ ((512 : Int) ≤ M0 10 5 → Post 0 M0) ∧ (M0 10 5 < (512 : Int) → sp_X1_code [.inr 7] M0 (fun r2 M2 => (0 ≤ M0 10 5 ∧ M0 10 5 < 512) ∧ Post 0 (xup (xup M2 11 (M0 10 5) r2) 10 5 ((xup M2 11 (M0 10 5) r2) 10 5 + (1 : Int)))))) := by
    intro M0 h8 hk hq
    refine ⟨⟨by omega, by omega⟩, ⟨by omega, by omega⟩, fun q => by omega, fun _ => ⟨rfl, fun u a1 a2 => ?_, fun x a1 a2 a3 => ⟨hk, hq x a1 a2 (fun u b1 b2 => by rw [a3 u b1 b2, h8])⟩⟩⟩
    rw [h8]
    have := hA u a1 a2
    omega
  have hno : ¬ (Fit (SX M) A ∧ (nwL A 0 < s.1 ∨ nwL A 0 = s.1 ∧ nlL (SX M) A ≤ s.2.1)) → Post 0 M := fun hc => hp M (fun _ _ _ => rfl) rfl rfl rfl (by rw [stp_no hc]; exact hs)
  have hcode : ∀ x, (∀ u, 0 ≤ u → u < 4 → bxc x u = M 8 u) → (∀ u, 0 ≤ u → u < 4 → bxc x u < 10) ∧ ∀ u, 0 ≤ u → u < (mS (SX M) : Int) → bxc x u = lkA A u := fun x hx => ⟨fun u a1 a2 => by rw [hx u a1 a2]; exact (hA u a1 a2).2, fun u a1 a2 => by
    have := mS_4 (wfS_of hw)
    rw [hx u a1 (by omega)]
    exact hl u a1 a2⟩
  have hres : (nwL A 0 < s.1 ∨ nwL A 0 = s.1 ∧ nlL (SX M) A ≤ s.2.1) → (nwL A 0 < s.1 ∨ nlL (SX M) A < s.2.1) → ∀ x, 0 ≤ x → x < 65536 → (∀ u, 0 ≤ u → u < 4 → bxc x u = M 8 u) → Post 0 (xup (xup (xup (xup (xup M 10 5 0) 10 6 (nwL A 0 : Nat)) 10 7 (nlL (SX M) A : Nat)) 11 ((xup (xup (xup M 10 5 0) 10 6 (nwL A 0 : Nat)) 10 7 (nlL (SX M) A : Nat)) 10 5) x) 10 5 ((xup (xup (xup (xup M 10 5 0) 10 6 (nwL A 0 : Nat)) 10 7 (nlL (SX M) A : Nat)) 11 ((xup (xup (xup M 10 5 0) 10 6 (nwL A 0 : Nat)) 10 7 (nlL (SX M) A : Nat)) 10 5) x) 10 5 + 1)) := by
    intro h1 h2 x a1 a2 a3
    refine hp _ (fun c q1 q2 => by rw [xup_ne q1, xup_ne q2, xup_ne q1, xup_ne q1, xup_ne q1]) (by simp [xup]) (by simp [xup]) (by simp [xup]) ?_
    rw [stp_yes ⟨hFit, h1⟩, if_pos h2]
    refine ⟨by simp [xup], by simp [xup], by simp [xup], fun j B hj => ?_⟩
    have hj0 : j = 0 := by
      have := (List.getElem?_eq_some_iff.mp hj).1
      simp at this
      omega
    subst hj0
    simp at hj
    subst hj
    have e : xup (xup (xup (xup (xup M 10 5 0) 10 6 (nwL A 0 : Nat)) 10 7 (nlL (SX M) A : Nat)) 11 ((xup (xup (xup M 10 5 0) 10 6 (nwL A 0 : Nat)) 10 7 (nlL (SX M) A : Nat)) 10 5) x) 10 5 ((xup (xup (xup (xup M 10 5 0) 10 6 (nwL A 0 : Nat)) 10 7 (nlL (SX M) A : Nat)) 11 ((xup (xup (xup M 10 5 0) 10 6 (nwL A 0 : Nat)) 10 7 (nlL (SX M) A : Nat)) 10 5) x) 10 5 + 1) 11 ((0 : Nat) : Int) = x := by simp [xup]
    rw [e]
    exact ⟨⟨a1, a2⟩, hcode x a3⟩
  have happ : (nwL A 0 < s.1 ∨ nwL A 0 = s.1 ∧ nlL (SX M) A ≤ s.2.1) → ¬ (nwL A 0 < s.1 ∨ nlL (SX M) A < s.2.1) → ∀ x, 0 ≤ x → x < 65536 → (∀ u, 0 ≤ u → u < 4 → bxc x u = M 8 u) → Post 0 (xup (xup M 11 (M 10 5) x) 10 5 ((xup M 11 (M 10 5) x) 10 5 + 1)) := by
    intro h1 h2 x a1 a2 a3
    refine hp _ (fun c q1 q2 => by rw [xup_ne q1, xup_ne q2]) (by simp [xup]) (by simp [xup]) (by simp [xup]) ?_
    rw [stp_yes ⟨hFit, h1⟩, if_neg h2]
    refine ⟨by simp [xup, c1], by simp [xup, c2], by simp [xup, c3], fun j B hj => ?_⟩
    have e : ∀ j : Nat, xup (xup M 11 (M 10 5) x) 10 5 ((xup M 11 (M 10 5) x) 10 5 + 1) 11 (j : Int) = if j = s.2.2.length then x else M 11 j := by
      intro j
      rw [xup_ne (by decide), xup_at, c3]
      by_cases h : j = s.2.2.length
      · rw [if_pos h, if_pos (by omega)]
      · rw [if_neg h, if_neg (by omega)]
    rw [e]
    by_cases h : j = s.2.2.length
    · rw [if_pos h]
      subst h
      simp at hj
      subst hj
      exact ⟨⟨a1, a2⟩, hcode x a3⟩
    · rw [if_neg h]
      have hlt := (List.getElem?_eq_some_iff.mp hj).1
      simp at hlt
      rw [List.getElem?_append_left (by omega)] at hj
      exact c4 j B hj
  refine ⟨rfl, Adj (SX M) all0 (plX M), hJ, Adj_sym, Adj_irr hF, ?_⟩
  rw [hnl]
  dsimp only
  rw [c1, c2]
  have M05 : (0 : Int) ≤ (xup (xup (xup M 10 5 0) 10 6 (nwL A 0 : Nat)) 10 7 (nlL (SX M) A : Nat)) 10 5 ∧ (xup (xup (xup M 10 5 0) 10 6 (nwL A 0 : Nat)) 10 7 (nlL (SX M) A : Nat)) 10 5 < 512 := by simp [xup]
  have M08 : (xup (xup (xup M 10 5 0) 10 6 (nwL A 0 : Nat)) 10 7 (nlL (SX M) A : Nat)) 8 = M 8 := by rw [xup_ne (by decide), xup_ne (by decide), xup_ne (by decide)]
  have cR := fun h1 h2 => chain (xup (xup (xup M 10 5 0) 10 6 (nwL A 0 : Nat)) 10 7 (nlL (SX M) A : Nat)) M08 M05 (hres h1 h2)
  have cA := fun h1 h2 => chain M rfl (by rw [c3]; omega) (happ h1 h2)
  refine ⟨⟨by omega, by omega⟩, ⟨by omega, by omega⟩, fun q => hno (by omega), fun q => ⟨⟨by omega, by omega⟩, ⟨by omega, by omega⟩, fun q1 => ⟨⟨by omega, by omega⟩, ⟨by omega, by omega⟩, fun q2 => cR (by omega) (by omega), fun q2 => by omega⟩, fun q1 => ⟨⟨by omega, by omega⟩, ⟨by omega, by omega⟩, fun q2 => ⟨⟨by omega, by omega⟩, ⟨by omega, by omega⟩, fun q3 => by omega, fun q3 => ⟨⟨by omega, by omega⟩, ⟨by omega, by omega⟩, fun q4 => cA (by omega) (by omega), fun q4 => cR (by omega) (by omega)⟩⟩, fun q2 => hno (by omega)⟩⟩⟩
theorem k_X0_keep {l : Launch} {D : va_G} {T : Nat → ClassId} {ad : Nat → Nat} (hO : xOk ad LX) : xMet l D T ad LX yX0_keep cX0_keep 3 none true 2 sp_X0_keep :=
  xmet0 (rt := 0) (fld := fldX0) (cals := (calX0_keep sp_X1_lines sp_X1_code)) (cst := []) (I := iX0_keep) (cut := cutX0_keep) hO (by decide +kernel) ⟨by decide, by decide, by decide⟩ oX0_keep foX0 (fun _ h => absurd h List.not_mem_nil) (List.forall_mem_cons.mpr ⟨⟨yX1_lines, cX1_lines, 3, (some .int), 1, 0, by decide, yoX1_lines, k_X1_lines hO, loX0_96, Or.inr ⟨rfl, rfl, 7, 1, [some 1, some 4, some 8, some 9], TX1, 4, rfl, rfl, spV0_r⟩⟩, List.forall_mem_cons.mpr ⟨⟨yX1_code, cX1_code, 3, (some .int), 0, 0, by decide, yoX1_code, k_X1_code hO, loX0_98, Or.inr ⟨rfl, rfl, 7, 1, [some 1, some 4, some 8, some 9], TX1, 4, rfl, rfl, spV0_r⟩⟩, fun _ h => absurd h List.not_mem_nil⟩⟩) b_X0_keep

