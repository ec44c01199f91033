/-! Survey: its small methods -/
def f_X3_forgetMade (M : xM) (Post : xR) : Prop := Post 0 (xup M 12 7 0)
abbrev sp_X3_forgetMade : xT := spV0 12 f_X3_forgetMade
set_option maxRecDepth 100000 in
set_option maxHeartbeats 4000000 in
theorem b_X3_forgetMade (as : List xV) (M : xM) (Post : xR) (h : sp_X3_forgetMade as M Post) : as.length ≤ 1 ∧ xw LX fldX3 calX3_forgetMade [] 0 Post iX3_forgetMade cutX3_forgetMade (fun _ _ _ _ => False) 400 0 (xlv as 1) [] M := by
  obtain ⟨rfl, h⟩ := h
  refine ⟨by simp, ?_⟩
  refine Eq.mpr (vcX3_forgetMade_0 ..) ?_
  exact ⟨by omega, h⟩
theorem k_X3_forgetMade {l : Launch} {D : va_G} {T : Nat → ClassId} {ad : Nat → Nat} (hO : xOk ad LX) : xMet l D T ad LX yX3_forgetMade cX3_forgetMade 1 none true 0 sp_X3_forgetMade :=
  xmet0 (rt := 0) (fld := fldX3) (cals := calX3_forgetMade) (cst := []) (I := iX3_forgetMade) (cut := cutX3_forgetMade) hO (by decide +kernel) ⟨by decide, by decide, by decide⟩ oX3_forgetMade foX3 (fun _ h => absurd h List.not_mem_nil) (fun _ h => absurd h List.not_mem_nil) b_X3_forgetMade
def f_X3_bestPair (M : xM) (Post : xR) : Prop := Post (M 12 8) M
abbrev sp_X3_bestPair : xT := spV0 12 f_X3_bestPair
set_option maxRecDepth 100000 in
set_option maxHeartbeats 4000000 in
theorem b_X3_bestPair (as : List xV) (M : xM) (Post : xR) (h : sp_X3_bestPair as M Post) : as.length ≤ 1 ∧ xw LX fldX3 calX3_bestPair [] 1 Post iX3_bestPair cutX3_bestPair (fun _ _ _ _ => False) 400 0 (xlv as 1) [] M := by
  obtain ⟨rfl, h⟩ := h
  refine ⟨by simp, ?_⟩
  refine Eq.mpr (vcX3_bestPair_0 ..) ?_
  exact h
theorem k_X3_bestPair {l : Launch} {D : va_G} {T : Nat → ClassId} {ad : Nat → Nat} (hO : xOk ad LX) : xMet l D T ad LX yX3_bestPair cX3_bestPair 1 (some .int) false 0 sp_X3_bestPair :=
  xmet0 (rt := 1) (fld := fldX3) (cals := calX3_bestPair) (cst := []) (I := iX3_bestPair) (cut := cutX3_bestPair) hO (by decide +kernel) ⟨by decide, by decide, by decide⟩ oX3_bestPair foX3 (fun _ h => absurd h List.not_mem_nil) (fun _ h => absurd h List.not_mem_nil) b_X3_bestPair
def f_X3_bestHeap (M : xM) (Post : xR) : Prop := Post (M 12 9) M
abbrev sp_X3_bestHeap : xT := spV0 12 f_X3_bestHeap
set_option maxRecDepth 100000 in
set_option maxHeartbeats 4000000 in
theorem b_X3_bestHeap (as : List xV) (M : xM) (Post : xR) (h : sp_X3_bestHeap as M Post) : as.length ≤ 1 ∧ xw LX fldX3 calX3_bestHeap [] 1 Post iX3_bestHeap cutX3_bestHeap (fun _ _ _ _ => False) 400 0 (xlv as 1) [] M := by
  obtain ⟨rfl, h⟩ := h
  refine ⟨by simp, ?_⟩
  refine Eq.mpr (vcX3_bestHeap_0 ..) ?_
  exact h
theorem k_X3_bestHeap {l : Launch} {D : va_G} {T : Nat → ClassId} {ad : Nat → Nat} (hO : xOk ad LX) : xMet l D T ad LX yX3_bestHeap cX3_bestHeap 1 (some .int) false 0 sp_X3_bestHeap :=
  xmet0 (rt := 1) (fld := fldX3) (cals := calX3_bestHeap) (cst := []) (I := iX3_bestHeap) (cut := cutX3_bestHeap) hO (by decide +kernel) ⟨by decide, by decide, by decide⟩ oX3_bestHeap foX3 (fun _ h => absurd h List.not_mem_nil) (fun _ h => absurd h List.not_mem_nil) b_X3_bestHeap
theorem Pl_b {S : dS} (hw : wfS S) {A : Int → Int} (hA : ∀ s, 0 ≤ s → s < (mS S : Int) → 0 ≤ A s ∧ A s < 10) {t i : Int} (ht : 0 ≤ t ∧ t < S.1) (hi : 0 ≤ i ∧ i < S.2.1 t) : 0 ≤ Pl S A (offS S) t i ∧ Pl S A (offS S) t i < 10 := by
  by_cases hs : S.2.2.1 (t * 6 + i) = -1
  · rw [Pl_sil hs]
    have := sil_m ht hi hs
    exact hA _ this.1 this.2
  · rw [Pl_nm hs]
    have hh := hw.2.2.1 t i ht.1 ht.2 hi.1 hi.2
    have := hw.2.2.2.1 (S.2.2.1 (t * 6 + i)) (by omega) (by omega)
    omega
theorem Adj_in10 {S : dS} {q : Int → Prop} {pl : Int → Int → Int} (h : ∀ t i, 0 ≤ t → t < S.1 → 0 ≤ i → i < S.2.1 t → 0 ≤ pl t i ∧ pl t i < 10) : in10 (Adj S q pl) := by
  rintro x y ⟨t, ht, -, i, h1, h2, h3⟩
  have a := h t i ht.1 ht.2 h1 (by omega)
  have b := h t (i + 1) ht.1 ht.2 (by omega) h2
  rcases h3 with ⟨rfl, rfl⟩ | ⟨rfl, rfl⟩
  · exact ⟨a, b⟩
  · exact ⟨b, a⟩
def f_X3_wayIn (x a b : Int) (M : xM) (Post : xR) : Prop := wS M ∧ (0 ≤ x ∧ x < 65536) ∧ (∀ s, 0 ≤ s → s < 4 → bxc x s < 10) ∧ FT (SX M) all0 (Pl (SX M) (bxc x) (offS (SX M))) ∧ (0 ≤ a ∧ a < 10) ∧ (0 ≤ b ∧ b < 10) ∧ ∀ (d : Int) (M' : xM), (∀ c, c ≠ 8 → c ≠ 9 → M' c = M c) → isD (Adj (SX M) all0 (Pl (SX M) (bxc x) (offS (SX M)))) a b d → Post d M'
abbrev sp_X3_wayIn : xT := spV3 12 f_X3_wayIn
set_option maxRecDepth 100000 in
set_option maxHeartbeats 4000000 in
theorem b_X3_wayIn (as : List xV) (M : xM) (Post : xR) (h : sp_X3_wayIn as M Post) : as.length ≤ 4 ∧ xw LX fldX3 (calX3_wayIn sp_X1_takeUp sp_X1_way) [] 1 Post iX3_wayIn cutX3_wayIn (fun _ _ _ _ => False) 400 0 (xlv as 4) [] M := by
  obtain ⟨v1, v2, v3, rfl, h⟩ := h
  refine ⟨by simp, ?_⟩
  refine Eq.mpr (vcX3_wayIn_0 ..) ?_
  obtain ⟨hw, hx, hb, hF, h1, h2, hp⟩ := h
  refine ⟨_, rfl, hw, hx, hb, hF, fun N g1 g2 g3 => ⟨_, _, rfl, _, g3, Adj_in10 (fun t i a1 a2 a3 a4 => Pl_b (wfS_of hw) (fun s b1 b2 => ⟨bxc_0, hb s b1 ?_⟩) ⟨a1, a2⟩ ⟨a3, a4⟩), h1, h2, fun d hd => hp d N g1 hd⟩⟩
  have := mS_4 (wfS_of hw)
  omega
theorem k_X3_wayIn {l : Launch} {D : va_G} {T : Nat → ClassId} {ad : Nat → Nat} (hO : xOk ad LX) : xMet l D T ad LX yX3_wayIn cX3_wayIn 4 (some .int) false 5 sp_X3_wayIn :=
  xmet0 (rt := 1) (fld := fldX3) (cals := (calX3_wayIn sp_X1_takeUp sp_X1_way)) (cst := []) (I := iX3_wayIn) (cut := cutX3_wayIn) hO (by decide +kernel) ⟨by decide, by decide, by decide⟩ oX3_wayIn foX3 (fun _ h => absurd h List.not_mem_nil) (List.forall_mem_cons.mpr ⟨⟨yX1_takeUp, cX1_takeUp, 3, none, 4, 1, by decide, yoX1_takeUp, k_X1_takeUp hO, loX3_48, Or.inr ⟨rfl, rfl, 7, 1, [some 1, some 4, some 8, some 9], TX1, 4, rfl, rfl, spV1_r⟩⟩, List.forall_mem_cons.mpr ⟨⟨yX1_way, cX1_way, 7, (some .int), 1, 2, by decide, yoX1_way, k_X1_way hO, loX3_54, Or.inr ⟨rfl, rfl, 7, 1, [some 1, some 4, some 8, some 9], TX1, 4, rfl, rfl, spV2_r⟩⟩, fun _ h => absurd h List.not_mem_nil⟩⟩) b_X3_wayIn
def f_X3_lineBetween (x y : Int) (M : xM) (Post : xR) : Prop := (0 ≤ x ∧ x < 10) ∧ (0 ≤ y ∧ y < 10) ∧ (0 ≤ M 13 x ∧ M 13 x < 1024) ∧ (0 ≤ M 14 x ∧ M 14 x < 1024) ∧ ∀ r, (¬ tb (M 13 x) y → r = 0) → (tb (M 13 x) y → ¬ tb (M 14 x) y → r = 1) → (tb (M 13 x) y → tb (M 14 x) y → r = 2) → Post r M
abbrev sp_X3_lineBetween : xT := spV2 12 f_X3_lineBetween
set_option maxRecDepth 100000 in
set_option maxHeartbeats 4000000 in
theorem b_X3_lineBetween (as : List xV) (M : xM) (Post : xR) (h : sp_X3_lineBetween as M Post) : as.length ≤ 3 ∧ xw LX fldX3 (calX3_lineBetween sp_X5_isBox sp_X5_hasBit) [] 1 Post iX3_lineBetween cutX3_lineBetween (fun _ _ _ _ => False) 400 0 (xlv as 3) [] M := by
  obtain ⟨v1, v2, rfl, h⟩ := h
  refine ⟨by simp, ?_⟩
  refine Eq.mpr (vcX3_lineBetween_0 ..) ?_
  obtain ⟨hx, hy, h13, h14, hp⟩ := h
  refine ⟨_, rfl, ⟨by omega, by omega⟩, fun r1 hr1 => ⟨⟨by omega, by omega⟩, fun q => by omega, fun q => ⟨hx, _, _, rfl, ⟨by omega, by omega⟩, ⟨by omega, by omega⟩, fun r2 hr2 => ⟨⟨by omega, by omega⟩, fun q2 => ⟨hx, _, _, rfl, ⟨by omega, by omega⟩, ⟨by omega, by omega⟩, fun r3 hr3 => ⟨⟨by omega, by omega⟩, fun q3 => ?_, fun q3 => ?_⟩⟩, fun q2 => ?_⟩⟩⟩⟩
  · have a2 : tb (M 13 v1) v2 := hr2.elim (fun z => z.2) (fun z => (q2 z.1).elim)
    have a3 : ¬ tb (M 14 v1) v2 := hr3.elim (fun z => by omega) (fun z => z.2)
    exact hp 1 (fun z => (z a2).elim) (fun _ _ => rfl) (fun _ z => (a3 z).elim)
  · have a2 : tb (M 13 v1) v2 := hr2.elim (fun z => z.2) (fun z => (q2 z.1).elim)
    have a3 : tb (M 14 v1) v2 := hr3.elim (fun z => z.2) (fun z => (q3 z.1).elim)
    exact hp 2 (fun z => (z a2).elim) (fun _ z => (z a3).elim) (fun _ _ => rfl)
  · have a2 : ¬ tb (M 13 v1) v2 := hr2.elim (fun z => by omega) (fun z => z.2)
    exact hp 0 (fun _ => rfl) (fun z => (a2 z).elim) (fun z => (a2 z).elim)
theorem k_X3_lineBetween {l : Launch} {D : va_G} {T : Nat → ClassId} {ad : Nat → Nat} (hO : xOk ad LX) : xMet l D T ad LX yX3_lineBetween cX3_lineBetween 3 (some .int) false 1 sp_X3_lineBetween :=
  xmet0 (rt := 1) (fld := fldX3) (cals := (calX3_lineBetween sp_X5_isBox sp_X5_hasBit)) (cst := []) (I := iX3_lineBetween) (cut := cutX3_lineBetween) hO (by decide +kernel) ⟨by decide, by decide, by decide⟩ oX3_lineBetween foX3 (fun _ h => absurd h List.not_mem_nil) (List.forall_mem_cons.mpr ⟨⟨yX5_isBox, cX5_isBox, 1, (some .boolean), 0, 1, by decide, yoX5_isBox, k_X5_isBox hO, loX3_58, Or.inl ⟨rfl, rfl⟩⟩, List.forall_mem_cons.mpr ⟨⟨yX5_hasBit, cX5_hasBit, 2, (some .boolean), 0, 2, by decide, yoX5_hasBit, k_X5_hasBit hO, loX3_62, Or.inl ⟨rfl, rfl⟩⟩, fun _ h => absurd h List.not_mem_nil⟩⟩) b_X3_lineBetween
theorem and2 {x y : Int} (hx : 0 ≤ x ∧ x < 1024) (hy : 0 ≤ y ∧ y < 1024) : (0 ≤ (xi x &&& xi y).toInt ∧ (xi x &&& xi y).toInt < 1024) ∧ ∀ n, tb (xi x &&& xi y).toInt n ↔ tb x n ∧ tb y n := by
  obtain ⟨a, rfl⟩ : ∃ a : Nat, x = a := ⟨x.toNat, by omega⟩
  obtain ⟨b, rfl⟩ : ∃ b : Nat, y = b := ⟨y.toNat, by omega⟩
  rw [bs_and (by omega)]
  have : a &&& b ≤ a := Nat.and_le_left
  exact ⟨⟨by omega, by omega⟩, fun n => by simp [tb, Nat.testBit_and]⟩
def wV (M : xM) : Prop := ∀ x, 0 ≤ x → x < 10 → (0 ≤ M 13 x ∧ M 13 x < 1024) ∧ (0 ≤ M 14 x ∧ M 14 x < 1024)
def f_X3_addLines (M : xM) (Post : xR) : Prop := ∃ R, JN M R ∧ wV M ∧ ∀ M' : xM, (∀ c, c ≠ 13 → c ≠ 14 → M' c = M c) → wV M' → (∀ x y, 0 ≤ x → x < 10 → 0 ≤ y → y < 10 → ((tb (M' 13 x) y ↔ tb (M 13 x) y ∨ R x y) ∧ (tb (M' 14 x) y ↔ tb (M 14 x) y ∧ R x y))) → Post 0 M'
abbrev sp_X3_addLines : xT := spV0 12 f_X3_addLines
set_option maxRecDepth 100000 in
set_option maxHeartbeats 4000000 in
theorem b_X3_addLines (as : List xV) (M : xM) (Post : xR) (h : sp_X3_addLines as M Post) : as.length ≤ 2 ∧ ∃ (Inv : xG) (μ : Nat → xL → List xV → xM → Nat) (f0 f1 : Nat), xw LX fldX3 (calX3_addLines sp_X1_joinedWith) [] 0 Post iX3_addLines cutX3_addLines Inv f0 0 (xlv as 2) [] M ∧ ∀ pc lv st M', Inv pc lv st M' → xw LX fldX3 (calX3_addLines sp_X1_joinedWith) [] 0 Post iX3_addLines cutX3_addLines (fun pc2 lv2 st2 M2 => Inv pc2 lv2 st2 M2 ∧ μ pc2 lv2 st2 M2 < μ pc lv st M') f1 pc lv st M' := by
  obtain ⟨rfl, h⟩ := h
  refine ⟨by simp, (fun pc lv st N => ∃ (i : Int), pc = 2 ∧ lv = [some (.inr 12), some (.inl i)] ∧ st = [] ∧ (0 ≤ i ∧ i ≤ 10) ∧ (∀ c, c ≠ 13 → c ≠ 14 → N c = M c) ∧ wV N ∧ (∀ x y, 0 ≤ x → x < i → 0 ≤ y → y < 10 → ((tb (N 13 x) y ↔ tb (M 13 x) y ∨ tb (M 9 x) y) ∧ (tb (N 14 x) y ↔ tb (M 14 x) y ∧ tb (M 9 x) y))) ∧ ∀ x, i ≤ x → x < 10 → N 13 x = M 13 x ∧ N 14 x = M 14 x), (fun pc lv st N => match lv with | [_, some (.inl i)] => (20 - i).toNat | _ => 0), 400, 400, Eq.mpr (vcX3_addLines_0 ..) ?_, ?_⟩
  · obtain ⟨R, hJ, hV, hp⟩ := h
    exact ⟨0, rfl, rfl, rfl, by omega, fun _ _ _ => rfl, hV, fun x y _ _ => by omega, fun _ _ _ => ⟨rfl, rfl⟩⟩
  · obtain ⟨R, hJ, hV, hp⟩ := h
    rintro pc lv st N ⟨i, rfl, rfl, rfl, h1, h2, h3, h4, h5⟩
    refine Eq.mpr (vcX3_addLines_2 ..) ?_
    have e9 : N 9 = M 9 := h2 9 (by decide) (by decide)
    refine ⟨⟨by omega, by omega⟩, ⟨by omega, by omega⟩, fun q => ?_, fun q => ⟨⟨by omega, by omega⟩, _, rfl, ⟨by omega, by omega⟩, ⟨by omega, by omega⟩, ⟨by omega, by omega⟩, _, rfl, ⟨by omega, by omega⟩, ⟨by omega, by omega⟩, ?_⟩⟩
    · refine hp N h2 h3 (fun x y a1 a2 a3 a4 => ?_)
      have := h4 x y a1 (by omega) a3 a4
      rw [hJ.2 x y a1 a2 a3 a4] at this
      exact this
    · have hi := hV i (by omega) q
      have h9 := hJ.1 i (by omega) q
      have h5i := h5 i (by omega) q
      have z9 : ∀ v : Int, (xup N 13 i v) 9 = M 9 := fun v => by rw [xup_ne (by decide)]; exact e9
      rw [z9, xup_ne (M := N) (c := 13) (c' := 14) (by decide), e9, h5i.1, h5i.2]
      have o := or2 hi.1 h9
      have a := and2 hi.2 h9
      generalize (xi (M 13 i) ||| xi (M 9 i)).toInt = u at o ⊢
      generalize (xi (M 14 i) &&& xi (M 9 i)).toInt = w at a ⊢
      refine ⟨⟨i + 1, rfl, rfl, rfl, by omega, fun c q1 q2 => by rw [xup_ne q2, xup_ne q1]; exact h2 c q1 q2, fun x a1 a2 => ?_, fun x y a1 a2 a3 a4 => ?_, fun x a1 a2 => ?_⟩, by (change Int.toNat _ < Int.toNat _); omega⟩
      · rw [xup_ne (c' := 13) (by decide), xup_at, xup_at, xup_ne (c' := 14) (by decide)]
        have := h3 x a1 a2
        refine ⟨?_, ?_⟩
        · split
          · exact o.1
          · exact this.1
        · split
          · exact a.1
          · exact this.2
      · rw [xup_ne (c' := 13) (by decide), xup_at, xup_at, xup_ne (c' := 14) (by decide)]
        by_cases hx : x = i
        · rw [if_pos hx, if_pos hx, hx]
          exact ⟨o.2 y, a.2 y⟩
        · rw [if_neg hx, if_neg hx]
          exact h4 x y a1 (by omega) a3 a4
      · rw [xup_ne (c' := 13) (by decide), xup_at, xup_at, xup_ne (c' := 14) (by decide), if_neg (by omega), if_neg (by omega)]
        exact h5 x (by omega) a2
theorem k_X3_addLines {l : Launch} {D : va_G} {T : Nat → ClassId} {ad : Nat → Nat} (hO : xOk ad LX) : xMet l D T ad LX yX3_addLines cX3_addLines 2 none true 2 sp_X3_addLines :=
  xmet (rt := 0) (fld := fldX3) (cals := (calX3_addLines sp_X1_joinedWith)) (cst := []) (I := iX3_addLines) (cut := cutX3_addLines) hO (by decide +kernel) ⟨by decide, by decide, by decide⟩ oX3_addLines foX3 (fun _ h => absurd h List.not_mem_nil) (List.forall_mem_cons.mpr ⟨⟨yX1_joinedWith, cX1_joinedWith, 2, (some .int), 1, 1, by decide, yoX1_joinedWith, k_X1_joinedWith hO, loX3_96, Or.inr ⟨rfl, rfl, 7, 1, [some 1, some 4, some 8, some 9], TX1, 4, rfl, rfl, spV1_r⟩⟩, fun _ h => absurd h List.not_mem_nil⟩) b_X3_addLines
def f_X3_addToHeap (a b d : Int) (M : xM) (Post : xR) : Prop := (0 ≤ a ∧ a < 6) ∧ (0 ≤ b ∧ b < 6) ∧ (-1 ≤ d ∧ d ≤ 9) ∧ Post 0 (xup M 15 ((a * 6 + b) * 11 + d + 1) (M 15 ((a * 6 + b) * 11 + d + 1) + 1))
abbrev sp_X3_addToHeap : xT := spV3 12 f_X3_addToHeap
set_option maxRecDepth 100000 in
set_option maxHeartbeats 4000000 in
theorem b_X3_addToHeap (as : List xV) (M : xM) (Post : xR) (h : sp_X3_addToHeap as M Post) : as.length ≤ 5 ∧ xw LX fldX3 calX3_addToHeap [] 0 Post iX3_addToHeap cutX3_addToHeap (fun _ _ _ _ => False) 400 0 (xlv as 5) [] M := by
  obtain ⟨v1, v2, v3, rfl, h⟩ := h
  refine ⟨by simp, ?_⟩
  refine Eq.mpr (vcX3_addToHeap_0 ..) ?_
  obtain ⟨ha, hb, hd, hp⟩ := h
  exact ⟨⟨by omega, by omega⟩, fun q => by omega, fun _ => ⟨⟨by omega, by omega⟩, ⟨by omega, by omega⟩, fun q => by omega, fun _ => ⟨⟨by omega, by omega⟩, ⟨by omega, by omega⟩, hp⟩⟩⟩
theorem k_X3_addToHeap {l : Launch} {D : va_G} {T : Nat → ClassId} {ad : Nat → Nat} (hO : xOk ad LX) : xMet l D T ad LX yX3_addToHeap cX3_addToHeap 5 none true 0 sp_X3_addToHeap :=
  xmet0 (rt := 0) (fld := fldX3) (cals := calX3_addToHeap) (cst := []) (I := iX3_addToHeap) (cut := cutX3_addToHeap) hO (by decide +kernel) ⟨by decide, by decide, by decide⟩ oX3_addToHeap foX3 (fun _ h => absurd h List.not_mem_nil) (fun _ h => absurd h List.not_mem_nil) b_X3_addToHeap
def mxI (f : Int → Int) : Nat → Int
  | 0 => 0
  | n + 1 => max (mxI f n) (f n)
theorem mxI_b {f : Int → Int} {c : Int} (hc : 0 ≤ c) : ∀ (n : Nat), (∀ j : Int, 0 ≤ j → j < n → 0 ≤ f j ∧ f j ≤ c) → 0 ≤ mxI f n ∧ mxI f n ≤ c := by
  intro n
  induction n with
  | zero => intro _; exact ⟨Int.le_refl _, hc⟩
  | succ n ih =>
    intro h
    have h1 := ih (fun j a b => h j a (by omega))
    have h2 := h n (by omega) (by omega)
    simp only [mxI]
    omega
theorem mxI_congr {f g : Int → Int} : ∀ (n : Nat), (∀ j : Int, 0 ≤ j → j < n → f j = g j) → mxI f n = mxI g n := by
  intro n
  induction n with
  | zero => intro _; rfl
  | succ n ih => intro h; simp only [mxI]; rw [ih (fun j a b => h j a (by omega)), h n (by omega) (by omega)]
def wH (M : xM) : Prop := ∀ j, 0 ≤ j → j < 396 → 0 ≤ M 15 j ∧ M 15 j ≤ 1000
def ghM (M : xM) (a b : Int) : Int := mxI (fun j => M 15 ((a * 6 + b) * 11 + j)) 11
def f_X3_greatestHeap (a b : Int) (M : xM) (Post : xR) : Prop := (0 ≤ a ∧ a < 6) ∧ (0 ≤ b ∧ b < 6) ∧ wH M ∧ Post (ghM M a b) M
abbrev sp_X3_greatestHeap : xT := spV2 12 f_X3_greatestHeap
set_option maxRecDepth 100000 in
set_option maxHeartbeats 4000000 in
theorem b_X3_greatestHeap (as : List xV) (M : xM) (Post : xR) (h : sp_X3_greatestHeap as M Post) : as.length ≤ 6 ∧ ∃ (Inv : xG) (μ : Nat → xL → List xV → xM → Nat) (f0 f1 : Nat), xw LX fldX3 (calX3_greatestHeap sp_J9_max_7cf53) [] 1 Post iX3_greatestHeap cutX3_greatestHeap Inv f0 0 (xlv as 6) [] M ∧ ∀ pc lv st M', Inv pc lv st M' → xw LX fldX3 (calX3_greatestHeap sp_J9_max_7cf53) [] 1 Post iX3_greatestHeap cutX3_greatestHeap (fun pc2 lv2 st2 M2 => Inv pc2 lv2 st2 M2 ∧ μ pc2 lv2 st2 M2 < μ pc lv st M') f1 pc lv st M' := by
  obtain ⟨v1, v2, rfl, h⟩ := h
  refine ⟨by simp, (fun pc lv st N => ∃ (i : Nat), pc = 17 ∧ lv = [some (.inr 12), some (.inl v1), some (.inl v2), some (.inl (mxI (fun j => M 15 ((v1 * 6 + v2) * 11 + j)) i)), some (.inl ((v1 * 6 + v2) * 11)), some (.inl ((v1 * 6 + v2) * 11 + (i : Int)))] ∧ st = [] ∧ M = N ∧ i ≤ 11), (fun pc lv st N => match lv with | [_, _, _, _, some (.inl s), some (.inl i)] => (20 - (i - s)).toNat | _ => 0), 400, 400, Eq.mpr (vcX3_greatestHeap_0 ..) ?_, ?_⟩
  · refine ⟨0, rfl, ?_, rfl, rfl, by omega⟩
    show _ = ([some (.inr 12), some (.inl v1), some (.inl v2), some (.inl 0), some (.inl ((v1 * 6 + v2) * 11)), some (.inl ((v1 * 6 + v2) * 11 + 0))] : xL)
    rw [Int.add_zero]
  · obtain ⟨ha, hb, hH, hp⟩ := h
    rintro pc lv st N ⟨i, rfl, rfl, rfl, rfl, h1⟩
    refine Eq.mpr (vcX3_greatestHeap_17 ..) ?_
    have hmb := mxI_b (f := fun j => M 15 ((v1 * 6 + v2) * 11 + j)) (c := 1000) (by omega) i (fun j a1 a2 => hH _ (by omega) (by omega))
    refine ⟨⟨by omega, by omega⟩, ⟨by omega, by omega⟩, fun q => ?_, fun q => ⟨⟨by omega, by omega⟩, ⟨by omega, by omega⟩, fun q1 => by omega, fun q1 => ⟨⟨by omega, by omega⟩, _, _, rfl, ⟨by omega, by omega⟩, ?_, ⟨i + 1, rfl, ?_, rfl, rfl, by omega⟩, by (change Int.toNat _ < Int.toNat _); omega⟩⟩⟩
    · rw [show i = 11 by omega]
      exact hp
    · have := hH ((v1 * 6 + v2) * 11 + i) (by omega) (by omega)
      exact ⟨by omega, by omega⟩
    · rw [show (v1 * 6 + v2) * 11 + (i : Int) + 1 = (v1 * 6 + v2) * 11 + ((i + 1 : Nat) : Int) by omega]
      rfl
theorem k_X3_greatestHeap {l : Launch} {D : va_G} {T : Nat → ClassId} {ad : Nat → Nat} (hO : xOk ad LX) : xMet l D T ad LX yX3_greatestHeap cX3_greatestHeap 6 (some .int) false 1 sp_X3_greatestHeap :=
  xmet2 (rt := 1) (fld := fldX3) (cals := (calX3_greatestHeap sp_J9_max_7cf53)) (cst := []) (I := iX3_greatestHeap) (cut := cutX3_greatestHeap) hO (by decide +kernel) ⟨by decide, by decide, by decide⟩ oX3_greatestHeap foX3 (fun _ h => absurd h List.not_mem_nil) (List.forall_mem_cons.mpr ⟨Or.inr ⟨by decide, xm 48 (by decide +kernel) rfl, Or.inl ⟨rfl, xm 536 (by decide +kernel) rfl, xm 371 (by decide +kernel) rfl, xm 372 (by decide +kernel) rfl⟩⟩, fun _ h => absurd h List.not_mem_nil⟩) b_X3_greatestHeap

