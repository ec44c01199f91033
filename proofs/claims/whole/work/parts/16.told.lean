/-! Told: cell 5 the least NAME of each NAME's box, cell 6 APART by bits, place 2 of cell 4 how many times it was told -/
def wT (M : xM) : Prop := (∀ n, 0 ≤ n → n < 6 → 0 ≤ M 5 n ∧ M 5 n ≤ n) ∧ (∀ n, 0 ≤ n → n < 6 → M 5 (M 5 n) = M 5 n) ∧ (∀ n, 0 ≤ n → n < 6 → 0 ≤ M 6 n ∧ M 6 n < 64)
def f_X4_times (M : xM) (Post : xR) : Prop := Post (M 4 2) M
abbrev sp_X4_times : xT := spV0 4 f_X4_times
set_option maxRecDepth 100000 in
set_option maxHeartbeats 4000000 in
theorem b_X4_times (as : List xV) (M : xM) (Post : xR) (h : sp_X4_times as M Post) : as.length ≤ 1 ∧ xw LX fldX4 calX4_times [] 1 Post iX4_times cutX4_times (fun _ _ _ _ => False) 400 0 (xlv as 1) [] M := by
  obtain ⟨rfl, h⟩ := h
  refine ⟨by simp, ?_⟩
  refine Eq.mpr (vcX4_times_0 ..) ?_
  exact h
theorem k_X4_times {l : Launch} {D : va_G} {T : Nat → ClassId} {ad : Nat → Nat} (hO : xOk ad LX) : xMet l D T ad LX yX4_times cX4_times 1 (some .int) false 0 sp_X4_times :=
  xmet0 (rt := 1) (fld := fldX4) (cals := calX4_times) (cst := []) (I := iX4_times) (cut := cutX4_times) hO (by decide +kernel) ⟨by decide, by decide, by decide⟩ oX4_times foX4 (fun _ h => absurd h List.not_mem_nil) (fun _ h => absurd h List.not_mem_nil) b_X4_times
def f_X4_box (n : Int) (M : xM) (Post : xR) : Prop := (0 ≤ n ∧ n < 6) ∧ Post (M 5 n) M
abbrev sp_X4_box : xT := spV1 4 f_X4_box
set_option maxRecDepth 100000 in
set_option maxHeartbeats 4000000 in
theorem b_X4_box (as : List xV) (M : xM) (Post : xR) (h : sp_X4_box as M Post) : as.length ≤ 2 ∧ xw LX fldX4 calX4_box [] 1 Post iX4_box cutX4_box (fun _ _ _ _ => False) 400 0 (xlv as 2) [] M := by
  obtain ⟨v1, rfl, h⟩ := h
  refine ⟨by simp, ?_⟩
  refine Eq.mpr (vcX4_box_0 ..) ?_
  obtain ⟨h0, hp⟩ := h
  simp only [rg]
  grind
theorem k_X4_box {l : Launch} {D : va_G} {T : Nat → ClassId} {ad : Nat → Nat} (hO : xOk ad LX) : xMet l D T ad LX yX4_box cX4_box 2 (some .int) false 0 sp_X4_box :=
  xmet0 (rt := 1) (fld := fldX4) (cals := calX4_box) (cst := []) (I := iX4_box) (cut := cutX4_box) hO (by decide +kernel) ⟨by decide, by decide, by decide⟩ oX4_box foX4 (fun _ h => absurd h List.not_mem_nil) (fun _ h => absurd h List.not_mem_nil) b_X4_box
def f_X4_clear (M : xM) (Post : xR) : Prop := ∀ M' : xM, (∀ c, c ≠ 4 → c ≠ 5 → c ≠ 6 → M' c = M c) → (∀ n, 0 ≤ n → n < 6 → M' 5 n = n) → (∀ n, 0 ≤ n → n < 6 → M' 6 n = 0) → M' 4 2 = 0 → Post 0 M'
abbrev sp_X4_clear : xT := spV0 4 f_X4_clear
set_option maxRecDepth 100000 in
set_option maxHeartbeats 4000000 in
theorem b_X4_clear (as : List xV) (M : xM) (Post : xR) (h : sp_X4_clear as M Post) : as.length ≤ 2 ∧ ∃ (Inv : xG) (μ : Nat → xL → List xV → xM → Nat) (f0 f1 : Nat), xw LX fldX4 (calX4_clear sp_J7_fill_53178) [] 0 Post iX4_clear cutX4_clear Inv f0 0 (xlv as 2) [] M ∧ ∀ pc lv st M', Inv pc lv st M' → xw LX fldX4 (calX4_clear sp_J7_fill_53178) [] 0 Post iX4_clear cutX4_clear (fun pc2 lv2 st2 M2 => Inv pc2 lv2 st2 M2 ∧ μ pc2 lv2 st2 M2 < μ pc lv st M') f1 pc lv st M' := by
  obtain ⟨rfl, h⟩ := h
  refine ⟨by simp, (fun pc lv st N => ∃ (i : Int), pc = 2 ∧ lv = [some (.inr 4), some (.inl i)] ∧ st = [] ∧ 0 ≤ i ∧ i ≤ 6 ∧ (∀ c, c ≠ 5 → N c = M c) ∧ ∀ n, 0 ≤ n → n < i → N 5 n = n), (fun pc lv st N => match lv with | [_, some (.inl i)] => (10 - i).toNat | _ => 0), 400, 400, Eq.mpr (vcX4_clear_0 ..) ?_, ?_⟩
  · exact ⟨0, rfl, rfl, rfl, by omega, by omega, fun _ _ => rfl, fun n _ _ => by omega⟩
  · rintro pc lv st N ⟨i, rfl, rfl, rfl, h1, h2, h3, h4⟩
    refine Eq.mpr (vcX4_clear_2 ..) ?_
    refine ⟨⟨by omega, by omega⟩, ⟨by omega, by omega⟩, fun q => ⟨0, Or.inl ⟨rfl, fun N2 g1 g2 => ?_⟩⟩, fun q => ⟨⟨by omega, by omega⟩, ⟨i + 1, rfl, rfl, rfl, by omega, by omega, fun c hc => by rw [xup_ne hc]; exact h3 c hc, fun n q1 q2 => ?_⟩, by (change Int.toNat _ < Int.toNat _); omega⟩⟩
    · refine h _ (fun c q1 q2 q3 => ?_) (fun n q1 q2 => ?_) (fun n q1 q2 => ?_) ?_
      · rw [xup_ne q1, g1 c q3]; exact h3 c q2
      · rw [xup_ne (by decide), g1 5 (by decide)]; exact h4 n q1 (by omega)
      · rw [xup_ne (by decide)]; exact g2 n q1 (by omega)
      · rw [xup_at, if_pos rfl]
    · rw [xup_at]
      split
      · omega
      · exact h4 n q1 (by omega)
theorem k_X4_clear {l : Launch} {D : va_G} {T : Nat → ClassId} {ad : Nat → Nat} (hO : xOk ad LX) : xMet l D T ad LX yX4_clear cX4_clear 2 none true 1 sp_X4_clear :=
  xmet (rt := 0) (fld := fldX4) (cals := (calX4_clear sp_J7_fill_53178)) (cst := []) (I := iX4_clear) (cut := cutX4_clear) hO (by decide +kernel) ⟨by decide, by decide, by decide⟩ oX4_clear foX4 (fun _ h => absurd h List.not_mem_nil) (List.forall_mem_cons.mpr ⟨⟨yJ7_fill_53178, cJ7_fill_53178, 4, none, 0, 2, by decide, yoJ7_fill_53178, k_J7_fill_53178 hO, loX4_22, Or.inl ⟨rfl, rfl⟩⟩, fun _ h => absurd h List.not_mem_nil⟩) b_X4_clear
def f_X4_boxes (x : Int) (M : xM) (Post : xR) : Prop := wT M ∧ (0 ≤ x ∧ x < 64) ∧ ∀ y, 0 ≤ y → y < 64 → (∀ b, 0 ≤ b → b < 6 → (tb y b ↔ ∃ n, 0 ≤ n ∧ n < 6 ∧ tb x n ∧ M 5 n = b)) → Post y M
abbrev sp_X4_boxes : xT := spV1 4 f_X4_boxes
set_option maxRecDepth 100000 in
set_option maxHeartbeats 4000000 in
theorem b_X4_boxes (as : List xV) (M : xM) (Post : xR) (h : sp_X4_boxes as M Post) : as.length ≤ 4 ∧ ∃ (Inv : xG) (μ : Nat → xL → List xV → xM → Nat) (f0 f1 : Nat), xw LX fldX4 (calX4_boxes sp_X5_hasBit sp_X4_box) [] 1 Post iX4_boxes cutX4_boxes Inv f0 0 (xlv as 4) [] M ∧ ∀ pc lv st M', Inv pc lv st M' → xw LX fldX4 (calX4_boxes sp_X5_hasBit sp_X4_box) [] 1 Post iX4_boxes cutX4_boxes (fun pc2 lv2 st2 M2 => Inv pc2 lv2 st2 M2 ∧ μ pc2 lv2 st2 M2 < μ pc lv st M') f1 pc lv st M' := by
  obtain ⟨v1, rfl, h⟩ := h
  refine ⟨by simp, (fun pc lv st N => ∃ (y i : Int), pc = 4 ∧ lv = [some (.inr 4), some (.inl v1), some (.inl y), some (.inl i)] ∧ st = [] ∧ M = N ∧ 0 ≤ i ∧ i ≤ 6 ∧ 0 ≤ y ∧ y < 64 ∧ ∀ b, 0 ≤ b → b < 6 → (tb y b ↔ ∃ n, 0 ≤ n ∧ n < i ∧ tb v1 n ∧ M 5 n = b)), (fun pc lv st N => match lv with | [_, _, _, some (.inl i)] => (10 - i).toNat | _ => 0), 400, 400, Eq.mpr (vcX4_boxes_0 ..) ?_, ?_⟩
  · obtain ⟨hw, hx, hp⟩ := h
    refine ⟨0, 0, rfl, rfl, rfl, rfl, by omega, by omega, by omega, by omega, fun b _ _ => ⟨fun q => (tb_0 b q).elim, ?_⟩⟩
    rintro ⟨n, q1, q2, -⟩
    omega
  · obtain ⟨hw, hx, hp⟩ := h
    rintro pc lv st N ⟨y, i, rfl, rfl, rfl, rfl, h1, h2, h3, h4, h5⟩
    refine Eq.mpr (vcX4_boxes_4 ..) ?_
    refine ⟨⟨by omega, by omega⟩, ⟨by omega, by omega⟩, fun q => ?_, fun q => ⟨_, _, rfl, ⟨by omega, by omega⟩, ⟨by omega, by omega⟩, fun r hr => ⟨⟨by omega, by omega⟩, fun q3 => ⟨⟨_, i + 1, rfl, rfl, rfl, rfl, by omega, by omega, ?_, ?_, fun b q1 q2 => ?_⟩, by (change Int.toNat _ < Int.toNat _); omega⟩, fun q3 => ⟨_, rfl, ⟨by omega, by omega⟩, ⟨_, i + 1, rfl, rfl, rfl, rfl, by omega, by omega, ?_, ?_, fun b q1 q2 => ?_⟩, by (change Int.toNat _ < Int.toNat _); omega⟩⟩⟩⟩
    · refine hp y h3 h4 (fun b q1 q2 => ?_)
      rw [h5 b q1 q2, show i = 6 by omega]
    · rw [or0 ⟨by omega, by omega⟩]; exact h3
    · rw [or0 ⟨by omega, by omega⟩]; exact h4
    · rw [or0 ⟨by omega, by omega⟩, h5 b q1 q2]
      have hnt : ¬ tb v1 i := by
        rcases hr with ⟨a, _⟩ | ⟨_, a⟩
        · omega
        · exact a
      constructor
      · rintro ⟨n, a1, a2, a3⟩
        exact ⟨n, a1, by omega, a3⟩
      · rintro ⟨n, a1, a2, a3, a4⟩
        by_cases hn : n = i
        · subst hn; exact (hnt a3).elim
        · exact ⟨n, a1, by omega, a3, a4⟩
    all_goals
      have hb := hw.1 i h1 (by omega)
      have ho := or1 (x := y) (h := M 5 i) 6 (by omega) ⟨h3, by rw [h64]; omega⟩ ⟨by omega, by omega⟩
      rw [h64] at ho
    · exact ho.1.1
    · exact ho.1.2
    · rw [ho.2 b q1, h5 b q1 q2]
      have hnt : tb v1 i := by
        rcases hr with ⟨_, a⟩ | ⟨a, _⟩
        · exact a
        · omega
      constructor
      · rintro (⟨n, a1, a2, a3⟩ | a)
        · exact ⟨n, a1, by omega, a3⟩
        · exact ⟨i, h1, by omega, hnt, a.symm⟩
      · rintro ⟨n, a1, a2, a3, a4⟩
        by_cases hn : n = i
        · subst hn; exact Or.inr a4.symm
        · exact Or.inl ⟨n, a1, by omega, a3, a4⟩
theorem k_X4_boxes {l : Launch} {D : va_G} {T : Nat → ClassId} {ad : Nat → Nat} (hO : xOk ad LX) : xMet l D T ad LX yX4_boxes cX4_boxes 4 (some .int) false 1 sp_X4_boxes :=
  xmet (rt := 1) (fld := fldX4) (cals := (calX4_boxes sp_X5_hasBit sp_X4_box)) (cst := []) (I := iX4_boxes) (cut := cutX4_boxes) hO (by decide +kernel) ⟨by decide, by decide, by decide⟩ oX4_boxes foX4 (fun _ h => absurd h List.not_mem_nil) (List.forall_mem_cons.mpr ⟨⟨yX5_hasBit, cX5_hasBit, 2, (some .boolean), 0, 2, by decide, yoX5_hasBit, k_X5_hasBit hO, loX4_28, Or.inl ⟨rfl, rfl⟩⟩, List.forall_mem_cons.mpr ⟨⟨yX4_box, cX4_box, 2, (some .int), 0, 1, by decide, yoX4_box, k_X4_box hO, loX4_32, Or.inr ⟨rfl, rfl, 4, 4, [some 5, some 6, none], TX4, 3, rfl, rfl, spV1_r⟩⟩, fun _ h => absurd h List.not_mem_nil⟩⟩) b_X4_boxes
def f_X4_areOneBox (a b : Int) (M : xM) (Post : xR) : Prop := wT M ∧ (0 ≤ a ∧ a < 6) ∧ (0 ≤ b ∧ b < 6) ∧ ∀ r, (r = 1 ∧ M 5 a = M 5 b ∨ r = 0 ∧ M 5 a ≠ M 5 b) → Post r M
abbrev sp_X4_areOneBox : xT := spV2 4 f_X4_areOneBox
set_option maxRecDepth 100000 in
set_option maxHeartbeats 4000000 in
theorem b_X4_areOneBox (as : List xV) (M : xM) (Post : xR) (h : sp_X4_areOneBox as M Post) : as.length ≤ 3 ∧ xw LX fldX4 (calX4_areOneBox sp_X4_box) [] 2 Post iX4_areOneBox cutX4_areOneBox (fun _ _ _ _ => False) 400 0 (xlv as 3) [] M := by
  obtain ⟨v1, v2, rfl, h⟩ := h
  refine ⟨by simp, ?_⟩
  refine Eq.mpr (vcX4_areOneBox_0 ..) ?_
  obtain ⟨hw, ha, hb, hp⟩ := h
  have h1 := hw.1 v1 ha.1 ha.2
  have h2 := hw.1 v2 hb.1 hb.2
  exact ⟨_, rfl, ha, _, rfl, hb, ⟨by omega, by omega⟩, ⟨by omega, by omega⟩, fun q => ⟨by omega, hp 0 (Or.inr ⟨rfl, q⟩)⟩, fun q => ⟨by omega, hp 1 (Or.inl ⟨rfl, q⟩)⟩⟩
theorem k_X4_areOneBox {l : Launch} {D : va_G} {T : Nat → ClassId} {ad : Nat → Nat} (hO : xOk ad LX) : xMet l D T ad LX yX4_areOneBox cX4_areOneBox 3 (some .boolean) false 1 sp_X4_areOneBox :=
  xmet0 (rt := 2) (fld := fldX4) (cals := (calX4_areOneBox sp_X4_box)) (cst := []) (I := iX4_areOneBox) (cut := cutX4_areOneBox) hO (by decide +kernel) ⟨by decide, by decide, by decide⟩ oX4_areOneBox foX4 (fun _ h => absurd h List.not_mem_nil) (List.forall_mem_cons.mpr ⟨⟨yX4_box, cX4_box, 2, (some .int), 0, 1, by decide, yoX4_box, k_X4_box hO, loX4_32, Or.inr ⟨rfl, rfl, 4, 4, [some 5, some 6, none], TX4, 3, rfl, rfl, spV1_r⟩⟩, fun _ h => absurd h List.not_mem_nil⟩) b_X4_areOneBox
def f_X4_areToldApart (a b : Int) (M : xM) (Post : xR) : Prop := wT M ∧ (0 ≤ a ∧ a < 6) ∧ (0 ≤ b ∧ b < 6) ∧ ∀ r, (r = 1 ∧ tb (M 6 a) b ∨ r = 0 ∧ ¬ tb (M 6 a) b) → Post r M
abbrev sp_X4_areToldApart : xT := spV2 4 f_X4_areToldApart
set_option maxRecDepth 100000 in
set_option maxHeartbeats 4000000 in
theorem b_X4_areToldApart (as : List xV) (M : xM) (Post : xR) (h : sp_X4_areToldApart as M Post) : as.length ≤ 3 ∧ xw LX fldX4 (calX4_areToldApart sp_X5_hasBit) [] 2 Post iX4_areToldApart cutX4_areToldApart (fun _ _ _ _ => False) 400 0 (xlv as 3) [] M := by
  obtain ⟨v1, v2, rfl, h⟩ := h
  refine ⟨by simp, ?_⟩
  refine Eq.mpr (vcX4_areToldApart_0 ..) ?_
  obtain ⟨hw, ha, hb, hp⟩ := h
  have h1 := hw.2.2 v1 ha.1 ha.2
  refine ⟨⟨by omega, by omega⟩, fun q => by omega, fun _ => ⟨⟨by omega, by omega⟩, ⟨by omega, by omega⟩, fun q => by omega, fun _ => ⟨ha, _, _, rfl, ⟨by omega, by omega⟩, ⟨by omega, by omega⟩, fun r hr => ⟨⟨by omega, by omega⟩, fun q => ⟨by omega, hp 0 (Or.inr ⟨rfl, ?_⟩)⟩, fun q => ⟨by omega, hp 1 (Or.inl ⟨rfl, ?_⟩)⟩⟩⟩⟩⟩
  · rcases hr with ⟨a, _⟩ | ⟨_, a⟩
    · omega
    · exact a
  · rcases hr with ⟨_, a⟩ | ⟨a, _⟩
    · exact a
    · omega
theorem k_X4_areToldApart {l : Launch} {D : va_G} {T : Nat → ClassId} {ad : Nat → Nat} (hO : xOk ad LX) : xMet l D T ad LX yX4_areToldApart cX4_areToldApart 3 (some .boolean) false 1 sp_X4_areToldApart :=
  xmet0 (rt := 2) (fld := fldX4) (cals := (calX4_areToldApart sp_X5_hasBit)) (cst := []) (I := iX4_areToldApart) (cut := cutX4_areToldApart) hO (by decide +kernel) ⟨by decide, by decide, by decide⟩ oX4_areToldApart foX4 (fun _ h => absurd h List.not_mem_nil) (List.forall_mem_cons.mpr ⟨⟨yX5_hasBit, cX5_hasBit, 2, (some .boolean), 0, 2, by decide, yoX5_hasBit, k_X5_hasBit hO, loX4_28, Or.inl ⟨rfl, rfl⟩⟩, fun _ h => absurd h List.not_mem_nil⟩) b_X4_areToldApart
def apB (M : xM) (a b : Int) : Prop := ∃ c d : Int, 0 ≤ c ∧ c < 6 ∧ 0 ≤ d ∧ d < 6 ∧ M 5 a = M 5 c ∧ M 5 b = M 5 d ∧ tb (M 6 c) d
def f_X4_haveBoxesApart (a b : Int) (M : xM) (Post : xR) : Prop := wT M ∧ (0 ≤ a ∧ a < 6) ∧ (0 ≤ b ∧ b < 6) ∧ ∀ r, (r = 1 ∧ apB M a b ∨ r = 0 ∧ ¬ apB M a b) → Post r M
abbrev sp_X4_haveBoxesApart : xT := spV2 4 f_X4_haveBoxesApart
set_option maxRecDepth 100000 in
set_option maxHeartbeats 4000000 in
theorem b_X4_haveBoxesApart (as : List xV) (M : xM) (Post : xR) (h : sp_X4_haveBoxesApart as M Post) : as.length ≤ 5 ∧ ∃ (Inv : xG) (μ : Nat → xL → List xV → xM → Nat) (f0 f1 : Nat), xw LX fldX4 (calX4_haveBoxesApart sp_X4_areOneBox sp_X4_areToldApart) [] 2 Post iX4_haveBoxesApart cutX4_haveBoxesApart Inv f0 0 (xlv as 5) [] M ∧ ∀ pc lv st M', Inv pc lv st M' → xw LX fldX4 (calX4_haveBoxesApart sp_X4_areOneBox sp_X4_areToldApart) [] 2 Post iX4_haveBoxesApart cutX4_haveBoxesApart (fun pc2 lv2 st2 M2 => Inv pc2 lv2 st2 M2 ∧ μ pc2 lv2 st2 M2 < μ pc lv st M') f1 pc lv st M' := by
  obtain ⟨v1, v2, rfl, h⟩ := h
  refine ⟨by simp, (fun pc lv st N => (∃ (x : Int) (o4 : Option xV), pc = 2 ∧ lv = [some (.inr 4), some (.inl v1), some (.inl v2), some (.inl x), o4] ∧ st = [] ∧ M = N ∧ 0 ≤ x ∧ x ≤ 6 ∧ ∀ c d : Int, 0 ≤ c → c < x → 0 ≤ d → d < 6 → M 5 v1 = M 5 c → M 5 v2 = M 5 d → ¬ tb (M 6 c) d) ∨ (∃ (x y : Int), pc = 11 ∧ lv = [some (.inr 4), some (.inl v1), some (.inl v2), some (.inl x), some (.inl y)] ∧ st = [] ∧ M = N ∧ 0 ≤ x ∧ x < 6 ∧ 0 ≤ y ∧ y ≤ 6 ∧ (∀ c d : Int, 0 ≤ c → c < x → 0 ≤ d → d < 6 → M 5 v1 = M 5 c → M 5 v2 = M 5 d → ¬ tb (M 6 c) d) ∧ ∀ d : Int, 0 ≤ d → d < y → M 5 v1 = M 5 x → M 5 v2 = M 5 d → ¬ tb (M 6 x) d)), (fun pc lv st N => match pc, lv with | 2, [_, _, _, some (.inl t), _] => ((7 - t) * 100).toNat | 11, [_, _, _, some (.inl t), some (.inl i)] => ((6 - t) * 100 + 50 - i).toNat | _, _ => 0), 400, 400, Eq.mpr (vcX4_haveBoxesApart_0 ..) ?_, ?_⟩
  · obtain ⟨hw, ha, hb, hp⟩ := h
    exact Or.inl ⟨0, none, rfl, rfl, rfl, rfl, by omega, by omega, fun c d _ _ => by omega⟩
  · obtain ⟨hw, ha, hb, hp⟩ := h
    rintro pc lv st N (⟨x, o4, rfl, rfl, rfl, rfl, h1, h2, h3⟩ | ⟨x, y, rfl, rfl, rfl, rfl, h1, h2, h3, h4, h5, h6⟩)
    · refine Eq.mpr (vcX4_haveBoxesApart_2 ..) ?_
      refine ⟨⟨by omega, by omega⟩, ⟨by omega, by omega⟩, fun q => ⟨by omega, hp 0 (Or.inr ⟨rfl, ?_⟩)⟩, fun q => ⟨Or.inr ⟨x, 0, rfl, rfl, rfl, rfl, by omega, by omega, by omega, by omega, h3, fun d _ _ => by omega⟩, by (change Int.toNat _ < Int.toNat _); omega⟩⟩
      rintro ⟨c, d, a1, a2, a3, a4, a5, a6, a7⟩
      exact h3 c d a1 (by omega) a3 a4 a5 a6 a7
    · refine Eq.mpr (vcX4_haveBoxesApart_11 ..) ?_
      refine ⟨⟨by omega, by omega⟩, ⟨by omega, by omega⟩, fun q => ⟨Or.inl ⟨x + 1, _, rfl, rfl, rfl, rfl, by omega, by omega, fun c d a1 a2 a3 a4 a5 a6 => ?_⟩, by (change Int.toNat _ < Int.toNat _); omega⟩, fun q => ⟨_, _, rfl, hw, ha, ⟨by omega, by omega⟩, fun r1 hr1 => ⟨⟨by omega, by omega⟩, fun q1 => ⟨Or.inr ⟨x, y + 1, rfl, rfl, rfl, rfl, by omega, by omega, by omega, by omega, h5, fun d a1 a2 a3 a4 => ?_⟩, by (change Int.toNat _ < Int.toNat _); omega⟩, fun q1 => ⟨_, _, rfl, hw, hb, ⟨by omega, by omega⟩, fun r2 hr2 => ⟨⟨by omega, by omega⟩, fun q2 => ⟨Or.inr ⟨x, y + 1, rfl, rfl, rfl, rfl, by omega, by omega, by omega, by omega, h5, fun d a1 a2 a3 a4 => ?_⟩, by (change Int.toNat _ < Int.toNat _); omega⟩, fun q2 => ⟨_, _, rfl, hw, ⟨by omega, by omega⟩, ⟨by omega, by omega⟩, fun r3 hr3 => ⟨⟨by omega, by omega⟩, fun q3 => ⟨Or.inr ⟨x, y + 1, rfl, rfl, rfl, rfl, by omega, by omega, by omega, by omega, h5, fun d a1 a2 a3 a4 => ?_⟩, by (change Int.toNat _ < Int.toNat _); omega⟩, fun q3 => ⟨by omega, hp 1 (Or.inl ⟨rfl, x, y, by omega, by omega, by omega, by omega, ?_, ?_, ?_⟩)⟩⟩⟩⟩⟩⟩⟩⟩
      · by_cases hc : c = x
        · subst hc; exact h6 d a3 (by omega) a5 a6
        · exact h5 c d a1 (by omega) a3 a4 a5 a6
      · omega
      · by_cases hd : d = y
        · subst hd; omega
        · exact h6 d a1 (by omega) a3 a4
      · by_cases hd : d = y
        · subst hd
          rcases hr3 with ⟨a, _⟩ | ⟨_, a⟩
          · omega
          · exact a
        · exact h6 d a1 (by omega) a3 a4
      · omega
      · omega
      · rcases hr3 with ⟨_, a⟩ | ⟨a, _⟩
        · exact a
        · omega
theorem k_X4_haveBoxesApart {l : Launch} {D : va_G} {T : Nat → ClassId} {ad : Nat → Nat} (hO : xOk ad LX) : xMet l D T ad LX yX4_haveBoxesApart cX4_haveBoxesApart 5 (some .boolean) false 2 sp_X4_haveBoxesApart :=
  xmet (rt := 2) (fld := fldX4) (cals := (calX4_haveBoxesApart sp_X4_areOneBox sp_X4_areToldApart)) (cst := []) (I := iX4_haveBoxesApart) (cut := cutX4_haveBoxesApart) hO (by decide +kernel) ⟨by decide, by decide, by decide⟩ oX4_haveBoxesApart foX4 (fun _ h => absurd h List.not_mem_nil) (List.forall_mem_cons.mpr ⟨⟨yX4_areOneBox, cX4_areOneBox, 3, (some .boolean), 1, 2, by decide, yoX4_areOneBox, k_X4_areOneBox hO, loX4_36, Or.inr ⟨rfl, rfl, 4, 4, [some 5, some 6, none], TX4, 3, rfl, rfl, spV2_r⟩⟩, List.forall_mem_cons.mpr ⟨⟨yX4_areToldApart, cX4_areToldApart, 3, (some .boolean), 1, 2, by decide, yoX4_areToldApart, k_X4_areToldApart hO, loX4_39, Or.inr ⟨rfl, rfl, 4, 4, [some 5, some 6, none], TX4, 3, rfl, rfl, spV2_r⟩⟩, fun _ h => absurd h List.not_mem_nil⟩⟩) b_X4_haveBoxesApart
def f_X4_makeOne (x y : Int) (M : xM) (Post : xR) : Prop := wT M ∧ (0 ≤ x ∧ x < 6) ∧ (0 ≤ y ∧ y < 6) ∧ ∀ M' : xM, (∀ c, c ≠ 5 → M' c = M c) → (∀ n, 0 ≤ n → n < 6 → M' 5 n = if M 5 n = x ∨ M 5 n = y then min x y else M 5 n) → Post 0 M'
abbrev sp_X4_makeOne : xT := spV2 4 f_X4_makeOne
set_option maxRecDepth 100000 in
set_option maxHeartbeats 4000000 in
theorem b_X4_makeOne (as : List xV) (M : xM) (Post : xR) (h : sp_X4_makeOne as M Post) : as.length ≤ 4 ∧ ∃ (Inv : xG) (μ : Nat → xL → List xV → xM → Nat) (f0 f1 : Nat), xw LX fldX4 (calX4_makeOne sp_J9_min_7cf53) [] 0 Post iX4_makeOne cutX4_makeOne Inv f0 0 (xlv as 4) [] M ∧ ∀ pc lv st M', Inv pc lv st M' → xw LX fldX4 (calX4_makeOne sp_J9_min_7cf53) [] 0 Post iX4_makeOne cutX4_makeOne (fun pc2 lv2 st2 M2 => Inv pc2 lv2 st2 M2 ∧ μ pc2 lv2 st2 M2 < μ pc lv st M') f1 pc lv st M' := by
  obtain ⟨v1, v2, rfl, h⟩ := h
  refine ⟨by simp, (fun pc lv st N => ∃ (i : Int), pc = 2 ∧ lv = [some (.inr 4), some (.inl v1), some (.inl v2), some (.inl i)] ∧ st = [] ∧ 0 ≤ i ∧ i ≤ 6 ∧ (∀ c, c ≠ 5 → N c = M c) ∧ (∀ n, 0 ≤ n → n < i → N 5 n = if M 5 n = v1 ∨ M 5 n = v2 then min v1 v2 else M 5 n) ∧ ∀ n, i ≤ n → n < 6 → N 5 n = M 5 n), (fun pc lv st N => match lv with | [_, _, _, some (.inl i)] => (10 - i).toNat | _ => 0), 400, 400, Eq.mpr (vcX4_makeOne_0 ..) ?_, ?_⟩
  · exact ⟨0, rfl, rfl, rfl, by omega, by omega, fun _ _ => rfl, fun n _ _ => by omega, fun _ _ _ => rfl⟩
  · obtain ⟨hw, hx, hy, hp⟩ := h
    rintro pc lv st N ⟨i, rfl, rfl, rfl, h1, h2, h3, h4, h5⟩
    refine Eq.mpr (vcX4_makeOne_2 ..) ?_
    refine ⟨⟨by omega, by omega⟩, ⟨by omega, by omega⟩, fun q => hp N h3 (fun n q1 q2 => h4 n q1 (by omega)), fun q => ?_⟩
    have e := h5 i (by omega) q
    have hb := hw.1 i h1 q
    rw [e]
    have stp : ∀ v, v = (if M 5 i = v1 ∨ M 5 i = v2 then min v1 v2 else M 5 i) → (∀ c, c ≠ 5 → xup N 5 i v c = M c) ∧ (∀ n, 0 ≤ n → n < i + 1 → xup N 5 i v 5 n = if M 5 n = v1 ∨ M 5 n = v2 then min v1 v2 else M 5 n) ∧ ∀ n, i + 1 ≤ n → n < 6 → xup N 5 i v 5 n = M 5 n := by
      intro v hv
      refine ⟨fun c hc => by rw [xup_ne hc]; exact h3 c hc, fun n q1 q2 => ?_, fun n q1 q2 => ?_⟩
      · rw [xup_at]
        by_cases hn : n = i
        · subst hn; rw [if_pos rfl]; exact hv
        · rw [if_neg hn]; exact h4 n q1 (by omega)
      · rw [xup_at, if_neg (by omega)]; exact h5 n (by omega) q2
    refine ⟨⟨by omega, by omega⟩, ⟨by omega, by omega⟩, ⟨by omega, by omega⟩, fun q1 => ⟨_, _, rfl, ⟨by omega, by omega⟩, ⟨by omega, by omega⟩, ⟨by omega, by omega⟩, ⟨i + 1, rfl, rfl, rfl, by omega, by omega, stp _ (by rw [if_pos (Or.inl q1)])⟩, by (change Int.toNat _ < Int.toNat _); omega⟩, fun q1 => ⟨⟨by omega, by omega⟩, ⟨by omega, by omega⟩, ⟨by omega, by omega⟩, fun q2 => ⟨⟨i + 1, rfl, rfl, rfl, by omega, by omega, h3, fun n a1 a2 => ?_, fun n a1 a2 => h5 n (by omega) a2⟩, by (change Int.toNat _ < Int.toNat _); omega⟩, fun q2 => ⟨_, _, rfl, ⟨by omega, by omega⟩, ⟨by omega, by omega⟩, ⟨by omega, by omega⟩, ⟨i + 1, rfl, rfl, rfl, by omega, by omega, stp _ (by rw [if_pos (Or.inr q2)])⟩, by (change Int.toNat _ < Int.toNat _); omega⟩⟩⟩
    by_cases hn : n = i
    · subst hn; rw [if_neg (by omega)]; exact e
    · exact h4 n a1 (by omega)
theorem k_X4_makeOne {l : Launch} {D : va_G} {T : Nat → ClassId} {ad : Nat → Nat} (hO : xOk ad LX) : xMet l D T ad LX yX4_makeOne cX4_makeOne 4 none true 1 sp_X4_makeOne :=
  xmet2 (rt := 0) (fld := fldX4) (cals := (calX4_makeOne sp_J9_min_7cf53)) (cst := []) (I := iX4_makeOne) (cut := cutX4_makeOne) hO (by decide +kernel) ⟨by decide, by decide, by decide⟩ oX4_makeOne foX4 (fun _ h => absurd h List.not_mem_nil) (List.forall_mem_cons.mpr ⟨Or.inr ⟨by decide, xm 48 (by decide +kernel) rfl, Or.inr ⟨rfl, xm 315 (by decide +kernel) rfl, xm 316 (by decide +kernel) rfl, xm 317 (by decide +kernel) rfl⟩⟩, fun _ h => absurd h List.not_mem_nil⟩) b_X4_makeOne
def f_X4_setApart (a b : Int) (M : xM) (Post : xR) : Prop := wT M ∧ (0 ≤ a ∧ a < 6) ∧ (0 ≤ b ∧ b < 6) ∧ ∀ M' : xM, (∀ c, c ≠ 6 → M' c = M c) → (∀ n, 0 ≤ n → n < 6 → (0 ≤ M' 6 n ∧ M' 6 n < 64) ∧ ∀ d, 0 ≤ d → d < 6 → (tb (M' 6 n) d ↔ tb (M 6 n) d ∨ n = a ∧ d = b)) → Post 0 M'
abbrev sp_X4_setApart : xT := spV2 4 f_X4_setApart
set_option maxRecDepth 100000 in
set_option maxHeartbeats 4000000 in
theorem b_X4_setApart (as : List xV) (M : xM) (Post : xR) (h : sp_X4_setApart as M Post) : as.length ≤ 3 ∧ xw LX fldX4 calX4_setApart [] 0 Post iX4_setApart cutX4_setApart (fun _ _ _ _ => False) 400 0 (xlv as 3) [] M := by
  obtain ⟨v1, v2, rfl, h⟩ := h
  refine ⟨by simp, ?_⟩
  refine Eq.mpr (vcX4_setApart_0 ..) ?_
  obtain ⟨hw, ha, hb, hp⟩ := h
  have h1 := hw.2.2 v1 ha.1 ha.2
  have ho := or1 (x := M 6 v1) (h := v2) 6 (by omega) ⟨h1.1, by rw [h64]; omega⟩ ⟨by omega, by omega⟩
  rw [h64] at ho
  refine ⟨⟨by omega, by omega⟩, fun q => by omega, fun _ => ⟨⟨by omega, by omega⟩, ⟨by omega, by omega⟩, fun q => by omega, fun _ => ⟨ha, ha, hp _ (fun c hc => xup_ne hc) (fun n q1 q2 => ?_)⟩⟩⟩
  by_cases hn : n = v1
  · subst hn
    rw [xup_at, if_pos rfl]
    refine ⟨ho.1, fun d a1 a2 => ?_⟩
    rw [ho.2 d a1]
    constructor
    · rintro (a | a)
      · exact Or.inl a
      · exact Or.inr ⟨rfl, a⟩
    · rintro (a | ⟨-, a⟩)
      · exact Or.inl a
      · exact Or.inr a
  · rw [xup_at, if_neg hn]
    refine ⟨hw.2.2 n q1 q2, fun d a1 a2 => ⟨Or.inl, ?_⟩⟩
    rintro (a | ⟨a, -⟩)
    · exact a
    · exact (hn a).elim
theorem k_X4_setApart {l : Launch} {D : va_G} {T : Nat → ClassId} {ad : Nat → Nat} (hO : xOk ad LX) : xMet l D T ad LX yX4_setApart cX4_setApart 3 none true 0 sp_X4_setApart :=
  xmet0 (rt := 0) (fld := fldX4) (cals := calX4_setApart) (cst := []) (I := iX4_setApart) (cut := cutX4_setApart) hO (by decide +kernel) ⟨by decide, by decide, by decide⟩ oX4_setApart foX4 (fun _ h => absurd h List.not_mem_nil) (fun _ h => absurd h List.not_mem_nil) b_X4_setApart
def f_X4_add (a b one : Int) (M : xM) (Post : xR) : Prop := wT M ∧ (0 ≤ a ∧ a < 6) ∧ (0 ≤ b ∧ b < 6) ∧ rg one ∧ (one ≠ 0 → ∀ M' : xM, (∀ c, c ≠ 4 → c ≠ 5 → M' c = M c) → M' 4 2 = M 4 2 + 1 → (∀ n, 0 ≤ n → n < 6 → M' 5 n = if M 5 n = M 5 a ∨ M 5 n = M 5 b then min (M 5 a) (M 5 b) else M 5 n) → Post 0 M') ∧ (one = 0 → ∀ M' : xM, (∀ c, c ≠ 4 → c ≠ 6 → M' c = M c) → M' 4 2 = M 4 2 + 1 → (∀ n, 0 ≤ n → n < 6 → (0 ≤ M' 6 n ∧ M' 6 n < 64) ∧ ∀ d, 0 ≤ d → d < 6 → (tb (M' 6 n) d ↔ tb (M 6 n) d ∨ n = a ∧ d = b ∨ n = b ∧ d = a)) → Post 0 M')
abbrev sp_X4_add : xT := spV3 4 f_X4_add
set_option maxRecDepth 100000 in
set_option maxHeartbeats 4000000 in
theorem b_X4_add (as : List xV) (M : xM) (Post : xR) (h : sp_X4_add as M Post) : as.length ≤ 4 ∧ xw LX fldX4 (calX4_add sp_X4_box sp_X4_makeOne sp_X4_setApart) [] 0 Post iX4_add cutX4_add (fun _ _ _ _ => False) 400 0 (xlv as 4) [] M := by
  obtain ⟨v1, v2, v3, rfl, h⟩ := h
  refine ⟨by simp, ?_⟩
  refine Eq.mpr (vcX4_add_0 ..) ?_
  obtain ⟨hw, ha, hb, ho, hp1, hp0⟩ := h
  have h1 := hw.1 v1 ha.1 ha.2
  have h2 := hw.1 v2 hb.1 hb.2
  refine ⟨ho, fun q => ⟨_, _, rfl, hw, ha, hb, fun N g1 g2 => ⟨_, _, rfl, ⟨?_, ?_, fun n q1 q2 => (g2 n q1 q2).1⟩, hb, ha, fun N2 k1 k2 => ?_⟩⟩, fun q => ⟨_, rfl, ha, _, rfl, hb, _, _, rfl, hw, ⟨by omega, by omega⟩, ⟨by omega, by omega⟩, fun N g1 g2 => ?_⟩⟩
  · rw [g1 5 (by decide)]; exact hw.1
  · rw [g1 5 (by decide)]; exact hw.2.1
  · refine hp0 q _ (fun c q1 q2 => ?_) ?_ (fun n q1 q2 => ⟨?_, fun d a1 a2 => ?_⟩)
    · rw [xup_ne q1, k1 c q2]; exact g1 c q2
    · rw [xup_at, if_pos rfl, k1 4 (by decide), g1 4 (by decide)]
    · rw [xup_ne (by decide)]; exact (k2 n q1 q2).1
    · rw [xup_ne (by decide), (k2 n q1 q2).2 d a1 a2, (g2 n q1 q2).2 d a1 a2]
      constructor
      · rintro ((a | a) | a)
        · exact Or.inl a
        · exact Or.inr (Or.inl a)
        · exact Or.inr (Or.inr a)
      · rintro (a | a | a)
        · exact Or.inl (Or.inl a)
        · exact Or.inl (Or.inr a)
        · exact Or.inr a
  · refine hp1 q _ (fun c q1 q2 => ?_) ?_ (fun n q1 q2 => ?_)
    · rw [xup_ne q1]; exact g1 c q2
    · rw [xup_at, if_pos rfl, g1 4 (by decide)]
    · rw [xup_ne (by decide)]; exact g2 n q1 q2
theorem k_X4_add {l : Launch} {D : va_G} {T : Nat → ClassId} {ad : Nat → Nat} (hO : xOk ad LX) : xMet l D T ad LX yX4_add cX4_add 4 none true 2 sp_X4_add :=
  xmet0 (rt := 0) (fld := fldX4) (cals := (calX4_add sp_X4_box sp_X4_makeOne sp_X4_setApart)) (cst := []) (I := iX4_add) (cut := cutX4_add) hO (by decide +kernel) ⟨by decide, by decide, by decide⟩ oX4_add foX4 (fun _ h => absurd h List.not_mem_nil) (List.forall_mem_cons.mpr ⟨⟨yX4_box, cX4_box, 2, (some .int), 0, 1, by decide, yoX4_box, k_X4_box hO, loX4_32, Or.inr ⟨rfl, rfl, 4, 4, [some 5, some 6, none], TX4, 3, rfl, rfl, spV1_r⟩⟩, List.forall_mem_cons.mpr ⟨⟨yX4_makeOne, cX4_makeOne, 4, none, 1, 2, by decide, yoX4_makeOne, k_X4_makeOne hO, loX4_42, Or.inr ⟨rfl, rfl, 4, 4, [some 5, some 6, none], TX4, 3, rfl, rfl, spV2_r⟩⟩, List.forall_mem_cons.mpr ⟨⟨yX4_setApart, cX4_setApart, 3, none, 0, 2, by decide, yoX4_setApart, k_X4_setApart hO, loX4_46, Or.inr ⟨rfl, rfl, 4, 4, [some 5, some 6, none], TX4, 3, rfl, rfl, spV2_r⟩⟩, fun _ h => absurd h List.not_mem_nil⟩⟩⟩) b_X4_add

