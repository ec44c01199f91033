/-! Rows: the class's TRACES and its row at hand (row 6); cell 2 the HOPS, cell 3 the lengths, place 2 of cell 1 how many TRACES -/
def wR (M : xM) : Prop := (0 ≤ M 1 2 ∧ M 1 2 ≤ 6) ∧ (∀ r, 0 ≤ r → r < 7 → 0 ≤ M 3 r ∧ M 3 r ≤ 6) ∧ (∀ p, 0 ≤ p → p < 42 → -1 ≤ M 2 p ∧ M 2 p ≤ 5)
/-- SILENT ones among the first k from b on -/
def cS (f : Int → Int) (b : Int) : Nat → Int
  | 0 => 0
  | k + 1 => cS f b k + if f (b + (k : Int)) = -1 then 1 else 0
theorem cS_b (f : Int → Int) (b : Int) (k : Nat) : 0 ≤ cS f b k ∧ cS f b k ≤ k := by
  induction k with
  | zero => simp [cS]
  | succ k ih => simp only [cS]; split <;> omega
theorem cS_congr {f g : Int → Int} {b b' : Int} {k : Nat} (h : ∀ i : Int, 0 ≤ i → i < k → f (b + i) = g (b' + i)) : cS f b k = cS g b' k := by
  induction k with
  | zero => rfl
  | succ k ih => simp only [cS]; rw [ih (fun i h1 h2 => h i h1 (by omega)), h k (by omega) (by omega)]
def sS (f g : Int → Int) : Nat → Int
  | 0 => 0
  | k + 1 => sS f g k + cS f ((k : Int) * 6) (g k).toNat
theorem sS_b (f g : Int → Int) (k : Nat) (h : ∀ t : Int, 0 ≤ t → t < k → g t ≤ 6) : 0 ≤ sS f g k ∧ sS f g k ≤ 6 * k := by
  induction k with
  | zero => simp [sS]
  | succ k ih =>
    have h1 := ih (fun t a b => h t a (by omega))
    have h2 := cS_b f ((k : Int) * 6) (g k).toNat
    have h3 := h k (by omega) (by omega)
    simp only [sS]
    omega
/-- the NAME n is in some TRACE -/
def nmIn (M : xM) (n : Int) : Prop := ∃ t i : Int, 0 ≤ t ∧ t < M 1 2 ∧ 0 ≤ i ∧ i < M 3 t ∧ M 2 (t * 6 + i) = n
def rowEq (M : xM) (t : Int) (M' : xM) (t' : Int) : Prop := M' 3 t' = M 3 t ∧ ∀ i, 0 ≤ i → i < M 3 t → M' 2 (t' * 6 + i) = M 2 (t * 6 + i)
theorem xup_at {M : xM} {c : Nat} {k k' x : Int} : xup M c k x c k' = if k' = k then x else M c k' := by simp [xup]
theorem tb_or {a b : Nat} {n : Int} : tb ((a ||| b : Nat) : Int) n ↔ tb (a : Int) n ∨ tb (b : Int) n := by simp [tb, Nat.testBit_or]
theorem tb_pow {h : Nat} {n : Int} (hn : 0 ≤ n) : tb ((2 ^ h : Nat) : Int) n ↔ n = h := by
  simp only [tb, Int.toNat_natCast, Nat.testBit_two_pow]
  rw [decide_eq_true_eq]
  omega
theorem tb_0 (n : Int) : ¬ tb 0 n := by simp [tb]
/-- a bit more -/
theorem or1 {x h : Int} (k : Nat) (hk : k ≤ 31) (hx : 0 ≤ x ∧ x < (2 ^ k : Nat)) (hh : 0 ≤ h ∧ h < k) : (0 ≤ (xi x ||| xi (xi 1 <<< (xi h &&& 31)).toInt).toInt ∧ (xi x ||| xi (xi 1 <<< (xi h &&& 31)).toInt).toInt < (2 ^ k : Nat)) ∧ ∀ n, 0 ≤ n → (tb (xi x ||| xi (xi 1 <<< (xi h &&& 31)).toInt).toInt n ↔ tb x n ∨ n = h) := by
  obtain ⟨a, rfl⟩ : ∃ a : Nat, x = a := ⟨x.toNat, by omega⟩
  obtain ⟨j, rfl⟩ : ∃ j : Nat, h = j := ⟨h.toNat, by omega⟩
  have h31 : 2 ^ k ≤ 2 ^ 31 := Nat.pow_le_pow_right (by omega) hk
  have hj : 2 ^ j < 2 ^ k := Nat.pow_lt_pow_right (by omega) (by omega)
  rw [bs_one (by omega), bs_or (by omega) (by omega)]
  refine ⟨⟨by omega, ?_⟩, fun n hn => ?_⟩
  · have := Nat.or_lt_two_pow (x := a) (y := 2 ^ j) (n := k) (by omega) hj
    omega
  · rw [tb_or, tb_pow hn]
theorem or0 {x : Int} (hx : rg x) : (xi x ||| xi 0).toInt = x := by
  have e : xi x ||| xi 0 = xi x := by
    apply Int32.toBitVec_inj.1
    show (xi x).toBitVec ||| 0#32 = _
    simp
  rw [e, to_xi hx]
def f_X2_traces (M : xM) (Post : xR) : Prop := Post (M 1 2) M
abbrev sp_X2_traces : xT := spV0 1 f_X2_traces
set_option maxRecDepth 100000 in
set_option maxHeartbeats 4000000 in
theorem b_X2_traces (as : List xV) (M : xM) (Post : xR) (h : sp_X2_traces as M Post) : as.length ≤ 1 ∧ xw LX fldX2 calX2_traces [] 1 Post iX2_traces cutX2_traces (fun _ _ _ _ => False) 400 0 (xlv as 1) [] M := by
  obtain ⟨rfl, h⟩ := h
  refine ⟨by simp, ?_⟩
  refine Eq.mpr (vcX2_traces_0 ..) ?_
  exact h
theorem k_X2_traces {l : Launch} {D : va_G} {T : Nat → ClassId} {ad : Nat → Nat} (hO : xOk ad LX) : xMet l D T ad LX yX2_traces cX2_traces 1 (some .int) false 0 sp_X2_traces :=
  xmet0 (rt := 1) (fld := fldX2) (cals := calX2_traces) (cst := []) (I := iX2_traces) (cut := cutX2_traces) hO (by decide +kernel) ⟨by decide, by decide, by decide⟩ oX2_traces foX2 (fun _ h => absurd h List.not_mem_nil) (fun _ h => absurd h List.not_mem_nil) b_X2_traces
def f_X2_all (M : xM) (Post : xR) : Prop := (0 ≤ M 1 2 ∧ M 1 2 ≤ 6) ∧ Post ((2 ^ (M 1 2).toNat : Nat) - 1) M
abbrev sp_X2_all : xT := spV0 1 f_X2_all
set_option maxRecDepth 100000 in
set_option maxHeartbeats 4000000 in
theorem b_X2_all (as : List xV) (M : xM) (Post : xR) (h : sp_X2_all as M Post) : as.length ≤ 1 ∧ xw LX fldX2 calX2_all [] 1 Post iX2_all cutX2_all (fun _ _ _ _ => False) 400 0 (xlv as 1) [] M := by
  obtain ⟨rfl, h⟩ := h
  refine ⟨by simp, ?_⟩
  refine Eq.mpr (vcX2_all_0 ..) ?_
  obtain ⟨h0, hp⟩ := h
  have e : (xi 1 <<< (xi (M 1 2) &&& 31)).toInt = ((2 ^ (M 1 2).toNat : Nat) : Int) := by
    rw [← bs_one (by omega), Int.toNat_of_nonneg h0.1]
  rw [e]
  exact hp
theorem k_X2_all {l : Launch} {D : va_G} {T : Nat → ClassId} {ad : Nat → Nat} (hO : xOk ad LX) : xMet l D T ad LX yX2_all cX2_all 1 (some .int) false 0 sp_X2_all :=
  xmet0 (rt := 1) (fld := fldX2) (cals := calX2_all) (cst := []) (I := iX2_all) (cut := cutX2_all) hO (by decide +kernel) ⟨by decide, by decide, by decide⟩ oX2_all foX2 (fun _ h => absurd h List.not_mem_nil) (fun _ h => absurd h List.not_mem_nil) b_X2_all
def f_X2_length (r : Int) (M : xM) (Post : xR) : Prop := (0 ≤ r ∧ r < 7) ∧ Post (M 3 r) M
abbrev sp_X2_length : xT := spV1 1 f_X2_length
set_option maxRecDepth 100000 in
set_option maxHeartbeats 4000000 in
theorem b_X2_length (as : List xV) (M : xM) (Post : xR) (h : sp_X2_length as M Post) : as.length ≤ 2 ∧ xw LX fldX2 calX2_length [] 1 Post iX2_length cutX2_length (fun _ _ _ _ => False) 400 0 (xlv as 2) [] M := by
  obtain ⟨v1, rfl, h⟩ := h
  refine ⟨by simp, ?_⟩
  refine Eq.mpr (vcX2_length_0 ..) ?_
  obtain ⟨h0, hp⟩ := h
  simp only [rg]
  grind
theorem k_X2_length {l : Launch} {D : va_G} {T : Nat → ClassId} {ad : Nat → Nat} (hO : xOk ad LX) : xMet l D T ad LX yX2_length cX2_length 2 (some .int) false 0 sp_X2_length :=
  xmet0 (rt := 1) (fld := fldX2) (cals := calX2_length) (cst := []) (I := iX2_length) (cut := cutX2_length) hO (by decide +kernel) ⟨by decide, by decide, by decide⟩ oX2_length foX2 (fun _ h => absurd h List.not_mem_nil) (fun _ h => absurd h List.not_mem_nil) b_X2_length
def f_X2_hopAt (r i : Int) (M : xM) (Post : xR) : Prop := (0 ≤ r ∧ r < 7) ∧ (0 ≤ i ∧ i < 6) ∧ Post (M 2 (r * 6 + i)) M
abbrev sp_X2_hopAt : xT := spV2 1 f_X2_hopAt
set_option maxRecDepth 100000 in
set_option maxHeartbeats 4000000 in
theorem b_X2_hopAt (as : List xV) (M : xM) (Post : xR) (h : sp_X2_hopAt as M Post) : as.length ≤ 4 ∧ xw LX fldX2 calX2_hopAt [] 1 Post iX2_hopAt cutX2_hopAt (fun _ _ _ _ => False) 400 0 (xlv as 4) [] M := by
  obtain ⟨v1, v2, rfl, h⟩ := h
  refine ⟨by simp, ?_⟩
  refine Eq.mpr (vcX2_hopAt_0 ..) ?_
  obtain ⟨hr, hi, hp⟩ := h
  simp only [rg]
  grind
theorem k_X2_hopAt {l : Launch} {D : va_G} {T : Nat → ClassId} {ad : Nat → Nat} (hO : xOk ad LX) : xMet l D T ad LX yX2_hopAt cX2_hopAt 4 (some .int) false 0 sp_X2_hopAt :=
  xmet0 (rt := 1) (fld := fldX2) (cals := calX2_hopAt) (cst := []) (I := iX2_hopAt) (cut := cutX2_hopAt) hO (by decide +kernel) ⟨by decide, by decide, by decide⟩ oX2_hopAt foX2 (fun _ h => absurd h List.not_mem_nil) (fun _ h => absurd h List.not_mem_nil) b_X2_hopAt
def f_X2_has (r x : Int) (M : xM) (Post : xR) : Prop := wR M ∧ (0 ≤ r ∧ r < 7) ∧ rg x ∧ ∀ q, (q = 1 ∧ (∃ i, 0 ≤ i ∧ i < M 3 r ∧ M 2 (r * 6 + i) = x) ∨ q = 0 ∧ ¬ (∃ i, 0 ≤ i ∧ i < M 3 r ∧ M 2 (r * 6 + i) = x)) → Post q M
abbrev sp_X2_has : xT := spV2 1 f_X2_has
set_option maxRecDepth 100000 in
set_option maxHeartbeats 4000000 in
theorem b_X2_has (as : List xV) (M : xM) (Post : xR) (h : sp_X2_has as M Post) : as.length ≤ 4 ∧ ∃ (Inv : xG) (μ : Nat → xL → List xV → xM → Nat) (f0 f1 : Nat), xw LX fldX2 (calX2_has sp_X2_length sp_X2_hopAt) [] 2 Post iX2_has cutX2_has Inv f0 0 (xlv as 4) [] M ∧ ∀ pc lv st M', Inv pc lv st M' → xw LX fldX2 (calX2_has sp_X2_length sp_X2_hopAt) [] 2 Post iX2_has cutX2_has (fun pc2 lv2 st2 M2 => Inv pc2 lv2 st2 M2 ∧ μ pc2 lv2 st2 M2 < μ pc lv st M') f1 pc lv st M' := by
  obtain ⟨v1, v2, rfl, h⟩ := h
  refine ⟨by simp, (fun pc lv st N => ∃ i : Int, pc = 2 ∧ lv = [some (.inr 1), some (.inl v1), some (.inl v2), some (.inl i)] ∧ st = [] ∧ M = N ∧ 0 ≤ i ∧ i ≤ M 3 v1 ∧ ∀ j, 0 ≤ j → j < i → M 2 (v1 * 6 + j) ≠ v2), (fun pc lv st N => match lv with | [_, _, _, some (.inl i)] => (10 - i).toNat | _ => 0), 400, 400, Eq.mpr (vcX2_has_0 ..) ?_, ?_⟩
  · obtain ⟨hw, hr, hx, hp⟩ := h
    exact ⟨0, rfl, rfl, rfl, rfl, by omega, (hw.2.1 v1 hr.1 hr.2).1, fun j h1 h2 => by omega⟩
  · obtain ⟨hw, hr, hx, hp⟩ := h
    rintro pc lv st N ⟨i, rfl, rfl, rfl, rfl, h0, h1, h2⟩
    refine Eq.mpr (vcX2_has_2 ..) ?_
    have hl := hw.2.1 v1 hr.1 hr.2
    refine ⟨_, rfl, hr, ⟨by omega, by omega⟩, ⟨by omega, by omega⟩, fun h3 => ⟨by omega, hp 0 (Or.inr ⟨rfl, ?_⟩)⟩, fun h3 => ⟨_, _, rfl, hr, ⟨by omega, by omega⟩, ?_, hx, fun h4 => ⟨⟨i + 1, rfl, rfl, rfl, rfl, by omega, by omega, ?_⟩, ?_⟩, fun h4 => ⟨by omega, hp 1 (Or.inl ⟨rfl, i, by omega, by omega, h4⟩)⟩⟩⟩
    · rintro ⟨j, q1, q2, q3⟩
      exact h2 j q1 (by omega) q3
    · have := hw.2.2 (v1 * 6 + i) (by omega) (by omega)
      exact ⟨by omega, by omega⟩
    · intro j q1 q2
      by_cases hj : j = i
      · subst hj; exact h4
      · exact h2 j q1 (by omega)
    · show (10 - (i + 1)).toNat < (10 - i).toNat
      omega
theorem k_X2_has {l : Launch} {D : va_G} {T : Nat → ClassId} {ad : Nat → Nat} (hO : xOk ad LX) : xMet l D T ad LX yX2_has cX2_has 4 (some .boolean) false 1 sp_X2_has :=
  xmet (rt := 2) (fld := fldX2) (cals := (calX2_has sp_X2_length sp_X2_hopAt)) (cst := []) (I := iX2_has) (cut := cutX2_has) hO (by decide +kernel) ⟨by decide, by decide, by decide⟩ oX2_has foX2 (fun _ h => absurd h List.not_mem_nil) (List.forall_mem_cons.mpr ⟨⟨yX2_length, cX2_length, 2, (some .int), 0, 1, by decide, yoX2_length, k_X2_length hO, loX2_22, Or.inr ⟨rfl, rfl, 1, 2, [some 2, some 3, none], TX2, 3, rfl, rfl, spV1_r⟩⟩, List.forall_mem_cons.mpr ⟨⟨yX2_hopAt, cX2_hopAt, 4, (some .int), 0, 2, by decide, yoX2_hopAt, k_X2_hopAt hO, loX2_26, Or.inr ⟨rfl, rfl, 1, 2, [some 2, some 3, none], TX2, 3, rfl, rfl, spV2_r⟩⟩, fun _ h => absurd h List.not_mem_nil⟩⟩) b_X2_has
def f_X2_silentsIn (r : Int) (M : xM) (Post : xR) : Prop := wR M ∧ (0 ≤ r ∧ r < 7) ∧ Post (cS (M 2) (r * 6) (M 3 r).toNat) M
abbrev sp_X2_silentsIn : xT := spV1 1 f_X2_silentsIn
set_option maxRecDepth 100000 in
set_option maxHeartbeats 4000000 in
theorem b_X2_silentsIn (as : List xV) (M : xM) (Post : xR) (h : sp_X2_silentsIn as M Post) : as.length ≤ 4 ∧ ∃ (Inv : xG) (μ : Nat → xL → List xV → xM → Nat) (f0 f1 : Nat), xw LX fldX2 (calX2_silentsIn sp_X2_length sp_X2_hopAt) [] 1 Post iX2_silentsIn cutX2_silentsIn Inv f0 0 (xlv as 4) [] M ∧ ∀ pc lv st M', Inv pc lv st M' → xw LX fldX2 (calX2_silentsIn sp_X2_length sp_X2_hopAt) [] 1 Post iX2_silentsIn cutX2_silentsIn (fun pc2 lv2 st2 M2 => Inv pc2 lv2 st2 M2 ∧ μ pc2 lv2 st2 M2 < μ pc lv st M') f1 pc lv st M' := by
  obtain ⟨v1, rfl, h⟩ := h
  refine ⟨by simp, (fun pc lv st N => ∃ (i : Nat), pc = 4 ∧ lv = [some (.inr 1), some (.inl v1), some (.inl (cS (M 2) (v1 * 6) i)), some (.inl (i : Int))] ∧ st = [] ∧ M = N ∧ (i : Int) ≤ M 3 v1), (fun pc lv st N => match lv with | [_, _, _, some (.inl i)] => (10 - i).toNat | _ => 0), 400, 400, Eq.mpr (vcX2_silentsIn_0 ..) ?_, ?_⟩
  · obtain ⟨hw, hr, hp⟩ := h
    exact ⟨0, rfl, rfl, rfl, rfl, (hw.2.1 v1 hr.1 hr.2).1⟩
  · obtain ⟨hw, hr, hp⟩ := h
    rintro pc lv st N ⟨i, rfl, rfl, rfl, rfl, h1⟩
    refine Eq.mpr (vcX2_silentsIn_4 ..) ?_
    have hl := hw.2.1 v1 hr.1 hr.2
    refine ⟨_, rfl, hr, ⟨by omega, by omega⟩, ⟨by omega, by omega⟩, fun h3 => ?_, fun h3 => ⟨_, _, rfl, hr, ⟨by omega, by omega⟩, ?_, ⟨by omega, by omega⟩, fun h4 => ⟨⟨i + 1, rfl, ?_, rfl, rfl, by omega⟩, ?_⟩, fun h4 => ⟨⟨i + 1, rfl, ?_, rfl, rfl, by omega⟩, ?_⟩⟩⟩
    · rw [show (M 3 v1).toNat = i by omega] at hp
      exact hp
    · have := hw.2.2 (v1 * 6 + i) (by omega) (by omega)
      exact ⟨by omega, by omega⟩
    · simp only [cS, if_neg h4, Int.add_zero]
      rfl
    · show (10 - ((i : Int) + 1)).toNat < (10 - (i : Int)).toNat
      omega
    · simp only [cS, if_pos h4]
      rfl
    · show (10 - ((i : Int) + 1)).toNat < (10 - (i : Int)).toNat
      omega
theorem k_X2_silentsIn {l : Launch} {D : va_G} {T : Nat → ClassId} {ad : Nat → Nat} (hO : xOk ad LX) : xMet l D T ad LX yX2_silentsIn cX2_silentsIn 4 (some .int) false 1 sp_X2_silentsIn :=
  xmet (rt := 1) (fld := fldX2) (cals := (calX2_silentsIn sp_X2_length sp_X2_hopAt)) (cst := []) (I := iX2_silentsIn) (cut := cutX2_silentsIn) hO (by decide +kernel) ⟨by decide, by decide, by decide⟩ oX2_silentsIn foX2 (fun _ h => absurd h List.not_mem_nil) (List.forall_mem_cons.mpr ⟨⟨yX2_length, cX2_length, 2, (some .int), 0, 1, by decide, yoX2_length, k_X2_length hO, loX2_22, Or.inr ⟨rfl, rfl, 1, 2, [some 2, some 3, none], TX2, 3, rfl, rfl, spV1_r⟩⟩, List.forall_mem_cons.mpr ⟨⟨yX2_hopAt, cX2_hopAt, 4, (some .int), 0, 2, by decide, yoX2_hopAt, k_X2_hopAt hO, loX2_26, Or.inr ⟨rfl, rfl, 1, 2, [some 2, some 3, none], TX2, 3, rfl, rfl, spV2_r⟩⟩, fun _ h => absurd h List.not_mem_nil⟩⟩) b_X2_silentsIn
def f_X2_silents (M : xM) (Post : xR) : Prop := wR M ∧ Post (sS (M 2) (M 3) (M 1 2).toNat) M
abbrev sp_X2_silents : xT := spV0 1 f_X2_silents
set_option maxRecDepth 100000 in
set_option maxHeartbeats 4000000 in
theorem b_X2_silents (as : List xV) (M : xM) (Post : xR) (h : sp_X2_silents as M Post) : as.length ≤ 3 ∧ ∃ (Inv : xG) (μ : Nat → xL → List xV → xM → Nat) (f0 f1 : Nat), xw LX fldX2 (calX2_silents sp_X2_silentsIn) [] 1 Post iX2_silents cutX2_silents Inv f0 0 (xlv as 3) [] M ∧ ∀ pc lv st M', Inv pc lv st M' → xw LX fldX2 (calX2_silents sp_X2_silentsIn) [] 1 Post iX2_silents cutX2_silents (fun pc2 lv2 st2 M2 => Inv pc2 lv2 st2 M2 ∧ μ pc2 lv2 st2 M2 < μ pc lv st M') f1 pc lv st M' := by
  obtain ⟨rfl, h⟩ := h
  refine ⟨by simp, (fun pc lv st N => ∃ (t : Nat), pc = 4 ∧ lv = [some (.inr 1), some (.inl (sS (M 2) (M 3) t)), some (.inl (t : Int))] ∧ st = [] ∧ M = N ∧ (t : Int) ≤ M 1 2), (fun pc lv st N => match lv with | [_, _, some (.inl i)] => (10 - i).toNat | _ => 0), 400, 400, Eq.mpr (vcX2_silents_0 ..) ?_, ?_⟩
  · obtain ⟨hw, hp⟩ := h
    exact ⟨0, rfl, rfl, rfl, rfl, hw.1.1⟩
  · obtain ⟨hw, hp⟩ := h
    rintro pc lv st N ⟨t, rfl, rfl, rfl, rfl, h1⟩
    refine Eq.mpr (vcX2_silents_4 ..) ?_
    have hn := hw.1
    refine ⟨⟨by omega, by omega⟩, ⟨by omega, by omega⟩, fun h3 => ?_, fun h3 => ⟨_, rfl, hw, ⟨by omega, by omega⟩, ⟨t + 1, rfl, rfl, rfl, rfl, by omega⟩, ?_⟩⟩
    · rw [show (M 1 2).toNat = t by omega] at hp
      exact hp
    · show (10 - ((t : Int) + 1)).toNat < (10 - (t : Int)).toNat
      omega
theorem k_X2_silents {l : Launch} {D : va_G} {T : Nat → ClassId} {ad : Nat → Nat} (hO : xOk ad LX) : xMet l D T ad LX yX2_silents cX2_silents 3 (some .int) false 2 sp_X2_silents :=
  xmet (rt := 1) (fld := fldX2) (cals := (calX2_silents sp_X2_silentsIn)) (cst := []) (I := iX2_silents) (cut := cutX2_silents) hO (by decide +kernel) ⟨by decide, by decide, by decide⟩ oX2_silents foX2 (fun _ h => absurd h List.not_mem_nil) (List.forall_mem_cons.mpr ⟨⟨yX2_silentsIn, cX2_silentsIn, 4, (some .int), 1, 1, by decide, yoX2_silentsIn, k_X2_silentsIn hO, loX2_30, Or.inr ⟨rfl, rfl, 1, 2, [some 2, some 3, none], TX2, 3, rfl, rfl, spV1_r⟩⟩, fun _ h => absurd h List.not_mem_nil⟩) b_X2_silents

