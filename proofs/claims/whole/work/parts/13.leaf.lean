/-! NetShape's own small ones, the JDK's -/
def f_X5_hasBit (x i : Int) (M : xM) (Post : xR) : Prop := (0 ≤ x ∧ x < 2147483648) ∧ (0 ≤ i ∧ i < 32) ∧ ∀ r, (r = 1 ∧ tb x i ∨ r = 0 ∧ ¬ tb x i) → Post r M
abbrev sp_X5_hasBit : xT := spS2 f_X5_hasBit
set_option maxRecDepth 100000 in
set_option maxHeartbeats 4000000 in
theorem b_X5_hasBit (as : List xV) (M : xM) (Post : xR) (h : sp_X5_hasBit as M Post) : as.length ≤ 2 ∧ xw LX fldX5 calX5_hasBit [] 2 Post iX5_hasBit cutX5_hasBit (fun _ _ _ _ => False) 400 0 (xlv as 2) [] M := by
  obtain ⟨v0, v1, rfl, h⟩ := h
  refine ⟨by simp, ?_⟩
  refine Eq.mpr (vcX5_hasBit_0 ..) ?_
  obtain ⟨hx, hi, hp⟩ := h
  have := bs_bit hx hi
  simp only [rg]
  grind
theorem k_X5_hasBit {l : Launch} {D : va_G} {T : Nat → ClassId} {ad : Nat → Nat} (hO : xOk ad LX) : xMet l D T ad LX yX5_hasBit cX5_hasBit 2 (some .boolean) false 0 sp_X5_hasBit :=
  xmet0 (rt := 2) (fld := fldX5) (cals := calX5_hasBit) (cst := []) (I := iX5_hasBit) (cut := cutX5_hasBit) hO (by decide +kernel) ⟨by decide, by decide, by decide⟩ oX5_hasBit foX5 (fun _ h => absurd h List.not_mem_nil) (fun _ h => absurd h List.not_mem_nil) b_X5_hasBit
def f_X5_isName (x : Int) (M : xM) (Post : xR) : Prop := rg x ∧ ∀ r, (r = 1 ∧ 0 ≤ x ∧ x < 6 ∨ r = 0 ∧ ¬ (0 ≤ x ∧ x < 6)) → Post r M
abbrev sp_X5_isName : xT := spS1 f_X5_isName
set_option maxRecDepth 100000 in
set_option maxHeartbeats 4000000 in
theorem b_X5_isName (as : List xV) (M : xM) (Post : xR) (h : sp_X5_isName as M Post) : as.length ≤ 1 ∧ xw LX fldX5 calX5_isName [] 2 Post iX5_isName cutX5_isName (fun _ _ _ _ => False) 400 0 (xlv as 1) [] M := by
  obtain ⟨v0, rfl, h⟩ := h
  refine ⟨by simp, ?_⟩
  refine Eq.mpr (vcX5_isName_0 ..) ?_
  obtain ⟨hx, hp⟩ := h
  simp only [rg] at *
  grind
theorem k_X5_isName {l : Launch} {D : va_G} {T : Nat → ClassId} {ad : Nat → Nat} (hO : xOk ad LX) : xMet l D T ad LX yX5_isName cX5_isName 1 (some .boolean) false 0 sp_X5_isName :=
  xmet0 (rt := 2) (fld := fldX5) (cals := calX5_isName) (cst := []) (I := iX5_isName) (cut := cutX5_isName) hO (by decide +kernel) ⟨by decide, by decide, by decide⟩ oX5_isName foX5 (fun _ h => absurd h List.not_mem_nil) (fun _ h => absurd h List.not_mem_nil) b_X5_isName
def f_X5_isBox (x : Int) (M : xM) (Post : xR) : Prop := rg x ∧ ∀ r, (r = 1 ∧ 0 ≤ x ∧ x < 10 ∨ r = 0 ∧ ¬ (0 ≤ x ∧ x < 10)) → Post r M
abbrev sp_X5_isBox : xT := spS1 f_X5_isBox
set_option maxRecDepth 100000 in
set_option maxHeartbeats 4000000 in
theorem b_X5_isBox (as : List xV) (M : xM) (Post : xR) (h : sp_X5_isBox as M Post) : as.length ≤ 1 ∧ xw LX fldX5 calX5_isBox [] 2 Post iX5_isBox cutX5_isBox (fun _ _ _ _ => False) 400 0 (xlv as 1) [] M := by
  obtain ⟨v0, rfl, h⟩ := h
  refine ⟨by simp, ?_⟩
  refine Eq.mpr (vcX5_isBox_0 ..) ?_
  obtain ⟨hx, hp⟩ := h
  simp only [rg] at *
  grind
theorem k_X5_isBox {l : Launch} {D : va_G} {T : Nat → ClassId} {ad : Nat → Nat} (hO : xOk ad LX) : xMet l D T ad LX yX5_isBox cX5_isBox 1 (some .boolean) false 0 sp_X5_isBox :=
  xmet0 (rt := 2) (fld := fldX5) (cals := calX5_isBox) (cst := []) (I := iX5_isBox) (cut := cutX5_isBox) hO (by decide +kernel) ⟨by decide, by decide, by decide⟩ oX5_isBox foX5 (fun _ h => absurd h List.not_mem_nil) (fun _ h => absurd h List.not_mem_nil) b_X5_isBox
/-- box s of a packed code -/
def bxc (code s : Int) : Int := code / 16 ^ s.toNat % 16
def f_X5_boxIn (x s : Int) (M : xM) (Post : xR) : Prop := (0 ≤ x ∧ x < 65536) ∧ (0 ≤ s ∧ s < 4) ∧ Post (bxc x s) M
theorem bxc_ok {x s : Int} (hx : 0 ≤ x ∧ x < 65536) (hs : 0 ≤ s ∧ s < 4) : (xi ((xi x >>> (xi (s * 4) &&& 31)).toInt) &&& xi 15).toInt = bxc x s := by
  obtain ⟨a, rfl⟩ : ∃ a : Nat, x = a := ⟨x.toNat, by omega⟩
  obtain ⟨k, rfl⟩ : ∃ k : Nat, s = k := ⟨s.toNat, by omega⟩
  have h1 : a / 2 ^ (k * 4) < 2147483648 := Nat.lt_of_le_of_lt (Nat.div_le_self _ _) (by omega)
  rw [show (k : Int) * 4 = ((k * 4 : Nat) : Int) by omega, bs_shr (by omega) (by omega), show (15 : Int) = ((15 : Nat) : Int) from rfl, bs_and h1, show (15 : Nat) = 2 ^ 4 - 1 from rfl, Nat.and_two_pow_sub_one_eq_mod]
  unfold bxc
  rw [Int.toNat_natCast, Nat.mul_comm k 4, Nat.pow_mul]
  simp
abbrev sp_X5_boxIn : xT := spS2 f_X5_boxIn
set_option maxRecDepth 100000 in
set_option maxHeartbeats 4000000 in
theorem b_X5_boxIn (as : List xV) (M : xM) (Post : xR) (h : sp_X5_boxIn as M Post) : as.length ≤ 2 ∧ xw LX fldX5 calX5_boxIn [] 1 Post iX5_boxIn cutX5_boxIn (fun _ _ _ _ => False) 400 0 (xlv as 2) [] M := by
  obtain ⟨v0, v1, rfl, h⟩ := h
  refine ⟨by simp, ?_⟩
  refine Eq.mpr (vcX5_boxIn_0 ..) ?_
  obtain ⟨hx, hs, hp⟩ := h
  rw [bxc_ok hx hs]
  exact hp
theorem k_X5_boxIn {l : Launch} {D : va_G} {T : Nat → ClassId} {ad : Nat → Nat} (hO : xOk ad LX) : xMet l D T ad LX yX5_boxIn cX5_boxIn 2 (some .int) false 0 sp_X5_boxIn :=
  xmet0 (rt := 1) (fld := fldX5) (cals := calX5_boxIn) (cst := []) (I := iX5_boxIn) (cut := cutX5_boxIn) hO (by decide +kernel) ⟨by decide, by decide, by decide⟩ oX5_boxIn foX5 (fun _ h => absurd h List.not_mem_nil) (fun _ h => absurd h List.not_mem_nil) b_X5_boxIn
/-- how many of the bits 0 to 9 -/
def pop (x : Int) : Int := (((List.range 10).countP (fun i => x.toNat.testBit i) : Nat) : Int)
/-- what the bytecode of bitCount works out -/
def BC (v0 : Int) : Int := (xi (((xi (((xi (v0 - (xi (((xi v0).toUInt32 >>> ((xi (1 : Int)).toUInt32 &&& Int32.toUInt32 31)).toInt32).toInt &&& xi (1431655765 : Int)).toInt) &&& xi (858993459 : Int)).toInt + (xi (((xi (v0 - (xi (((xi v0).toUInt32 >>> ((xi (1 : Int)).toUInt32 &&& Int32.toUInt32 31)).toInt32).toInt &&& xi (1431655765 : Int)).toInt)).toUInt32 >>> ((xi (2 : Int)).toUInt32 &&& Int32.toUInt32 31)).toInt32).toInt &&& xi (858993459 : Int)).toInt) + (((xi ((xi (v0 - (xi (((xi v0).toUInt32 >>> ((xi (1 : Int)).toUInt32 &&& Int32.toUInt32 31)).toInt32).toInt &&& xi (1431655765 : Int)).toInt) &&& xi (858993459 : Int)).toInt + (xi (((xi (v0 - (xi (((xi v0).toUInt32 >>> ((xi (1 : Int)).toUInt32 &&& Int32.toUInt32 31)).toInt32).toInt &&& xi (1431655765 : Int)).toInt)).toUInt32 >>> ((xi (2 : Int)).toUInt32 &&& Int32.toUInt32 31)).toInt32).toInt &&& xi (858993459 : Int)).toInt)).toUInt32 >>> ((xi (4 : Int)).toUInt32 &&& Int32.toUInt32 31)).toInt32).toInt) &&& xi (252645135 : Int)).toInt + (((xi (xi (((xi (v0 - (xi (((xi v0).toUInt32 >>> ((xi (1 : Int)).toUInt32 &&& Int32.toUInt32 31)).toInt32).toInt &&& xi (1431655765 : Int)).toInt) &&& xi (858993459 : Int)).toInt + (xi (((xi (v0 - (xi (((xi v0).toUInt32 >>> ((xi (1 : Int)).toUInt32 &&& Int32.toUInt32 31)).toInt32).toInt &&& xi (1431655765 : Int)).toInt)).toUInt32 >>> ((xi (2 : Int)).toUInt32 &&& Int32.toUInt32 31)).toInt32).toInt &&& xi (858993459 : Int)).toInt) + (((xi ((xi (v0 - (xi (((xi v0).toUInt32 >>> ((xi (1 : Int)).toUInt32 &&& Int32.toUInt32 31)).toInt32).toInt &&& xi (1431655765 : Int)).toInt) &&& xi (858993459 : Int)).toInt + (xi (((xi (v0 - (xi (((xi v0).toUInt32 >>> ((xi (1 : Int)).toUInt32 &&& Int32.toUInt32 31)).toInt32).toInt &&& xi (1431655765 : Int)).toInt)).toUInt32 >>> ((xi (2 : Int)).toUInt32 &&& Int32.toUInt32 31)).toInt32).toInt &&& xi (858993459 : Int)).toInt)).toUInt32 >>> ((xi (4 : Int)).toUInt32 &&& Int32.toUInt32 31)).toInt32).toInt) &&& xi (252645135 : Int)).toInt).toUInt32 >>> ((xi (8 : Int)).toUInt32 &&& Int32.toUInt32 31)).toInt32).toInt) + (((xi ((xi (((xi (v0 - (xi (((xi v0).toUInt32 >>> ((xi (1 : Int)).toUInt32 &&& Int32.toUInt32 31)).toInt32).toInt &&& xi (1431655765 : Int)).toInt) &&& xi (858993459 : Int)).toInt + (xi (((xi (v0 - (xi (((xi v0).toUInt32 >>> ((xi (1 : Int)).toUInt32 &&& Int32.toUInt32 31)).toInt32).toInt &&& xi (1431655765 : Int)).toInt)).toUInt32 >>> ((xi (2 : Int)).toUInt32 &&& Int32.toUInt32 31)).toInt32).toInt &&& xi (858993459 : Int)).toInt) + (((xi ((xi (v0 - (xi (((xi v0).toUInt32 >>> ((xi (1 : Int)).toUInt32 &&& Int32.toUInt32 31)).toInt32).toInt &&& xi (1431655765 : Int)).toInt) &&& xi (858993459 : Int)).toInt + (xi (((xi (v0 - (xi (((xi v0).toUInt32 >>> ((xi (1 : Int)).toUInt32 &&& Int32.toUInt32 31)).toInt32).toInt &&& xi (1431655765 : Int)).toInt)).toUInt32 >>> ((xi (2 : Int)).toUInt32 &&& Int32.toUInt32 31)).toInt32).toInt &&& xi (858993459 : Int)).toInt)).toUInt32 >>> ((xi (4 : Int)).toUInt32 &&& Int32.toUInt32 31)).toInt32).toInt) &&& xi (252645135 : Int)).toInt + (((xi (xi (((xi (v0 - (xi (((xi v0).toUInt32 >>> ((xi (1 : Int)).toUInt32 &&& Int32.toUInt32 31)).toInt32).toInt &&& xi (1431655765 : Int)).toInt) &&& xi (858993459 : Int)).toInt + (xi (((xi (v0 - (xi (((xi v0).toUInt32 >>> ((xi (1 : Int)).toUInt32 &&& Int32.toUInt32 31)).toInt32).toInt &&& xi (1431655765 : Int)).toInt)).toUInt32 >>> ((xi (2 : Int)).toUInt32 &&& Int32.toUInt32 31)).toInt32).toInt &&& xi (858993459 : Int)).toInt) + (((xi ((xi (v0 - (xi (((xi v0).toUInt32 >>> ((xi (1 : Int)).toUInt32 &&& Int32.toUInt32 31)).toInt32).toInt &&& xi (1431655765 : Int)).toInt) &&& xi (858993459 : Int)).toInt + (xi (((xi (v0 - (xi (((xi v0).toUInt32 >>> ((xi (1 : Int)).toUInt32 &&& Int32.toUInt32 31)).toInt32).toInt &&& xi (1431655765 : Int)).toInt)).toUInt32 >>> ((xi (2 : Int)).toUInt32 &&& Int32.toUInt32 31)).toInt32).toInt &&& xi (858993459 : Int)).toInt)).toUInt32 >>> ((xi (4 : Int)).toUInt32 &&& Int32.toUInt32 31)).toInt32).toInt) &&& xi (252645135 : Int)).toInt).toUInt32 >>> ((xi (8 : Int)).toUInt32 &&& Int32.toUInt32 31)).toInt32).toInt)).toUInt32 >>> ((xi (16 : Int)).toUInt32 &&& Int32.toUInt32 31)).toInt32).toInt) &&& xi (63 : Int)).toInt
theorem us_n {n k : Nat} (hn : n < 2147483648) (hk : (((nI k).toUInt32 &&& Int32.toUInt32 31).toBitVec % 32).toNat = k) : (((xi (n : Int)).toUInt32 >>> ((xi (k : Int)).toUInt32 &&& Int32.toUInt32 31)).toInt32).toInt = ((n / 2 ^ k : Nat) : Int) := by
  rw [xi_nI, xi_nI, pk_ushrN (by omega) _ k hk, bs_n]
  exact Nat.lt_of_le_of_lt (Nat.div_le_self _ _) hn
def nbc1 (a : Nat) : Nat := a - (a / 2 ^ 1 &&& 1431655765)
def nbc2 (a : Nat) : Nat := (a &&& 858993459) + (a / 2 ^ 2 &&& 858993459)
def nbc3 (a : Nat) : Nat := (a + a / 2 ^ 4) &&& 252645135
def nbc4 (a : Nat) : Nat := a + a / 2 ^ 8
def nbc5 (a : Nat) : Nat := a + a / 2 ^ 16
theorem nbc : (List.range 1024).all (fun a => decide ((((nbc5 (nbc4 (nbc3 (nbc2 (nbc1 a)))) &&& 63 : Nat) : Int) = pop (a : Int))) && decide (nbc1 a < 1024)) = true := by decide +kernel
theorem BC_ok {a : Nat} (ha : a < 1024) : BC (a : Int) = pop (a : Int) := by
  have h0 := List.all_eq_true.mp nbc a (List.mem_range.mpr ha)
  rw [Bool.and_eq_true, decide_eq_true_eq, decide_eq_true_eq] at h0
  obtain ⟨h0, h1⟩ := h0
  rw [← h0]
  clear h0
  have e1 : (a : Int) - (xi ((((xi (a : Int)).toUInt32 >>> ((xi ((1 : Nat) : Int)).toUInt32 &&& Int32.toUInt32 31)).toInt32).toInt) &&& xi ((1431655765 : Nat) : Int)).toInt = ((nbc1 a : Nat) : Int) := by
    rw [us_n (by omega) (by decide +kernel), bs_and (Nat.lt_of_le_of_lt (Nat.div_le_self _ _) (by omega))]
    have : a / 2 ^ 1 &&& 1431655765 ≤ a := Nat.le_trans Nat.and_le_left (Nat.div_le_self _ _)
    unfold nbc1
    omega
  generalize nbc1 a = b at e1 h1 ⊢
  have e2 : (xi (b : Int) &&& xi ((858993459 : Nat) : Int)).toInt + (xi ((((xi (b : Int)).toUInt32 >>> ((xi ((2 : Nat) : Int)).toUInt32 &&& Int32.toUInt32 31)).toInt32).toInt) &&& xi ((858993459 : Nat) : Int)).toInt = ((nbc2 b : Nat) : Int) := by
    rw [us_n (by omega) (by decide +kernel), bs_and (by omega), bs_and (Nat.lt_of_le_of_lt (Nat.div_le_self _ _) (by omega))]
    unfold nbc2
    omega
  have h2 : nbc2 b < 2048 := by
    have q1 : b &&& 858993459 ≤ b := Nat.and_le_left
    have q2 : b / 2 ^ 2 &&& 858993459 ≤ b := Nat.le_trans Nat.and_le_left (Nat.div_le_self _ _)
    unfold nbc2
    omega
  generalize nbc2 b = d at e2 h2 ⊢
  have e3 : (xi ((d : Int) + (((xi (d : Int)).toUInt32 >>> ((xi ((4 : Nat) : Int)).toUInt32 &&& Int32.toUInt32 31)).toInt32).toInt) &&& xi ((252645135 : Nat) : Int)).toInt = ((nbc3 d : Nat) : Int) := by
    have q : d / 2 ^ 4 ≤ d := Nat.div_le_self _ _
    rw [us_n (by omega) (by decide +kernel), show (d : Int) + ((d / 2 ^ 4 : Nat) : Int) = ((d + d / 2 ^ 4 : Nat) : Int) by omega, bs_and (by omega)]
    rfl
  have h3 : nbc3 d < 4096 := by
    have q : d / 2 ^ 4 ≤ d := Nat.div_le_self _ _
    have q1 : (d + d / 2 ^ 4) &&& 252645135 ≤ d + d / 2 ^ 4 := Nat.and_le_left
    unfold nbc3
    omega
  generalize nbc3 d = f at e3 h3 ⊢
  have e4 : (f : Int) + (((xi (f : Int)).toUInt32 >>> ((xi ((8 : Nat) : Int)).toUInt32 &&& Int32.toUInt32 31)).toInt32).toInt = ((nbc4 f : Nat) : Int) := by
    rw [us_n (by omega) (by decide +kernel)]
    unfold nbc4
    omega
  have h4 : nbc4 f < 8192 := by
    have q : f / 2 ^ 8 ≤ f := Nat.div_le_self _ _
    unfold nbc4
    omega
  generalize nbc4 f = i at e4 h4 ⊢
  have e5 : (i : Int) + (((xi (i : Int)).toUInt32 >>> ((xi ((16 : Nat) : Int)).toUInt32 &&& Int32.toUInt32 31)).toInt32).toInt = ((nbc5 i : Nat) : Int) := by
    rw [us_n (by omega) (by decide +kernel)]
    unfold nbc5
    omega
  have h5 : nbc5 i < 16384 := by
    have q : i / 2 ^ 16 ≤ i := Nat.div_le_self _ _
    unfold nbc5
    omega
  unfold BC
  have r1 : (1 : Int) = ((1 : Nat) : Int) := rfl
  have r2 : (1431655765 : Int) = ((1431655765 : Nat) : Int) := rfl
  have r3 : (2 : Int) = ((2 : Nat) : Int) := rfl
  have r4 : (858993459 : Int) = ((858993459 : Nat) : Int) := rfl
  have r5 : (4 : Int) = ((4 : Nat) : Int) := rfl
  have r6 : (252645135 : Int) = ((252645135 : Nat) : Int) := rfl
  have r7 : (8 : Int) = ((8 : Nat) : Int) := rfl
  have r8 : (16 : Int) = ((16 : Nat) : Int) := rfl
  have r9 : (63 : Int) = ((63 : Nat) : Int) := rfl
  rw [r1, r2, r3, r4, r5, r6, r7, r8, r9, e1, e2, e3, e4, e5, bs_and (by omega)]
def f_J6_bitCount_0f7a4 (x : Int) (M : xM) (Post : xR) : Prop := (0 ≤ x ∧ x < 1024) ∧ Post (pop x) M
abbrev sp_J6_bitCount_0f7a4 : xT := spS1 f_J6_bitCount_0f7a4
set_option maxRecDepth 100000 in
set_option maxHeartbeats 4000000 in
theorem b_J6_bitCount_0f7a4 (as : List xV) (M : xM) (Post : xR) (h : sp_J6_bitCount_0f7a4 as M Post) : as.length ≤ 1 ∧ xw LX [] calJ6_bitCount_0f7a4 [(265, 1431655765), (266, 858993459), (267, 252645135)] 1 Post iJ6_bitCount_0f7a4 cutJ6_bitCount_0f7a4 (fun _ _ _ _ => False) 400 0 (xlv as 1) [] M := by
  obtain ⟨v0, rfl, h⟩ := h
  refine ⟨by simp, ?_⟩
  refine Eq.mpr (vcJ6_bitCount_0f7a4_0 ..) ?_
  obtain ⟨hx, hp⟩ := h
  obtain ⟨a, rfl⟩ : ∃ a : Nat, v0 = a := ⟨v0.toNat, by omega⟩
  rw [← BC_ok (by omega)] at hp
  exact hp
theorem k_J6_bitCount_0f7a4 {l : Launch} {D : va_G} {T : Nat → ClassId} {ad : Nat → Nat} (hO : xOk ad LX) : xMet l D T ad LX yJ6_bitCount_0f7a4 cJ6_bitCount_0f7a4 1 (some .int) false 0 sp_J6_bitCount_0f7a4 :=
  xmet0 (rt := 1) (fld := []) (cals := calJ6_bitCount_0f7a4) (cst := [(265, 1431655765), (266, 858993459), (267, 252645135)]) (I := iJ6_bitCount_0f7a4) (cut := cutJ6_bitCount_0f7a4) hO (by decide +kernel) ⟨by decide, by decide, by decide⟩ oJ6_bitCount_0f7a4 (fun _ h => absurd h List.not_mem_nil) (List.forall_mem_cons.mpr ⟨xm 421 (by decide +kernel) rfl, List.forall_mem_cons.mpr ⟨xm 422 (by decide +kernel) rfl, List.forall_mem_cons.mpr ⟨xm 423 (by decide +kernel) rfl, fun _ h => absurd h List.not_mem_nil⟩⟩⟩) (fun _ h => absurd h List.not_mem_nil) b_J6_bitCount_0f7a4
/-- Arrays.fill, of the class's rows -/
def f_J7_fill (c n : Nat) (v : Int) (M : xM) (Post : xR) : Prop := ∀ M' : xM, (∀ c', c' ≠ c → M' c' = M c') → (∀ j, 0 ≤ j → j < (n : Int) → M' c j = v) → Post 0 M'
def sp_J7_fill_53178 : xT := fun as M Post => ∃ v, (as = [.inr 6, .inl v] ∧ f_J7_fill 6 6 v M Post) ∨ (as = [.inr 9, .inl v] ∧ f_J7_fill 9 10 v M Post) ∨ (as = [.inr 13, .inl v] ∧ f_J7_fill 13 10 v M Post) ∨ (as = [.inr 14, .inl v] ∧ f_J7_fill 14 10 v M Post) ∨ (as = [.inr 15, .inl v] ∧ f_J7_fill 15 396 v M Post)
set_option maxRecDepth 100000 in
set_option maxHeartbeats 4000000 in
theorem b_J7_fill_53178 (as : List xV) (M : xM) (Post : xR) (h : sp_J7_fill_53178 as M Post) : as.length ≤ 4 ∧ ∃ (Inv : xG) (μ : Nat → xL → List xV → xM → Nat) (f0 f1 : Nat), xw LX [] calJ7_fill_53178 [] 0 Post iJ7_fill_53178 cutJ7_fill_53178 Inv f0 0 (xlv as 4) [] M ∧ ∀ pc lv st M', Inv pc lv st M' → xw LX [] calJ7_fill_53178 [] 0 Post iJ7_fill_53178 cutJ7_fill_53178 (fun pc2 lv2 st2 M2 => Inv pc2 lv2 st2 M2 ∧ μ pc2 lv2 st2 M2 < μ pc lv st M') f1 pc lv st M' := by
  obtain ⟨v, h⟩ := h
  rcases h with ⟨rfl, h⟩ | ⟨rfl, h⟩ | ⟨rfl, h⟩ | ⟨rfl, h⟩ | ⟨rfl, h⟩
  · refine ⟨by simp, (fun pc lv st N => ∃ i : Int, pc = 5 ∧ lv = [some (.inr 6), some (.inl v), some (.inl i), some (.inl 6)] ∧ st = [] ∧ 0 ≤ i ∧ i ≤ 6 ∧ (∀ c', c' ≠ 6 → N c' = M c') ∧ ∀ j, 0 ≤ j → j < i → N 6 j = v), (fun pc lv st N => match lv with | [_, _, some (.inl i), _] => (6 - i).toNat | _ => 0), 400, 400, Eq.mpr (vcJ7_fill_53178_0_6 ..) ?_, ?_⟩
    · exact ⟨0, rfl, rfl, rfl, by omega, by omega, fun _ _ => rfl, fun j h1 h2 => by omega⟩
    · rintro pc lv st N ⟨i, rfl, rfl, rfl, h0, h1, h2, h3⟩
      refine Eq.mpr (vcJ7_fill_53178_5_6 ..) ?_
      refine ⟨⟨by omega, by omega⟩, ⟨by omega, by omega⟩, fun h4 => ?_, fun h4 => ⟨⟨by omega, by omega⟩, ⟨i + 1, rfl, rfl, rfl, by omega, by omega, fun c' hc => by rw [xup_ne hc]; exact h2 c' hc, fun j q1 q2 => ?_⟩, ?_⟩⟩
      · exact h N h2 (fun j q1 q2 => h3 j q1 (by omega))
      · by_cases hj : j = i
        · simp [xup, hj]
        · simp only [xup, hj, and_false, if_false]
          exact h3 j q1 (by omega)
      · show (6 - (i + 1)).toNat < (6 - i).toNat
        omega
  · refine ⟨by simp, (fun pc lv st N => ∃ i : Int, pc = 5 ∧ lv = [some (.inr 9), some (.inl v), some (.inl i), some (.inl 10)] ∧ st = [] ∧ 0 ≤ i ∧ i ≤ 10 ∧ (∀ c', c' ≠ 9 → N c' = M c') ∧ ∀ j, 0 ≤ j → j < i → N 9 j = v), (fun pc lv st N => match lv with | [_, _, some (.inl i), _] => (10 - i).toNat | _ => 0), 400, 400, Eq.mpr (vcJ7_fill_53178_0_9 ..) ?_, ?_⟩
    · exact ⟨0, rfl, rfl, rfl, by omega, by omega, fun _ _ => rfl, fun j h1 h2 => by omega⟩
    · rintro pc lv st N ⟨i, rfl, rfl, rfl, h0, h1, h2, h3⟩
      refine Eq.mpr (vcJ7_fill_53178_5_9 ..) ?_
      refine ⟨⟨by omega, by omega⟩, ⟨by omega, by omega⟩, fun h4 => ?_, fun h4 => ⟨⟨by omega, by omega⟩, ⟨i + 1, rfl, rfl, rfl, by omega, by omega, fun c' hc => by rw [xup_ne hc]; exact h2 c' hc, fun j q1 q2 => ?_⟩, ?_⟩⟩
      · exact h N h2 (fun j q1 q2 => h3 j q1 (by omega))
      · by_cases hj : j = i
        · simp [xup, hj]
        · simp only [xup, hj, and_false, if_false]
          exact h3 j q1 (by omega)
      · show (10 - (i + 1)).toNat < (10 - i).toNat
        omega
  · refine ⟨by simp, (fun pc lv st N => ∃ i : Int, pc = 5 ∧ lv = [some (.inr 13), some (.inl v), some (.inl i), some (.inl 10)] ∧ st = [] ∧ 0 ≤ i ∧ i ≤ 10 ∧ (∀ c', c' ≠ 13 → N c' = M c') ∧ ∀ j, 0 ≤ j → j < i → N 13 j = v), (fun pc lv st N => match lv with | [_, _, some (.inl i), _] => (10 - i).toNat | _ => 0), 400, 400, Eq.mpr (vcJ7_fill_53178_0_13 ..) ?_, ?_⟩
    · exact ⟨0, rfl, rfl, rfl, by omega, by omega, fun _ _ => rfl, fun j h1 h2 => by omega⟩
    · rintro pc lv st N ⟨i, rfl, rfl, rfl, h0, h1, h2, h3⟩
      refine Eq.mpr (vcJ7_fill_53178_5_13 ..) ?_
      refine ⟨⟨by omega, by omega⟩, ⟨by omega, by omega⟩, fun h4 => ?_, fun h4 => ⟨⟨by omega, by omega⟩, ⟨i + 1, rfl, rfl, rfl, by omega, by omega, fun c' hc => by rw [xup_ne hc]; exact h2 c' hc, fun j q1 q2 => ?_⟩, ?_⟩⟩
      · exact h N h2 (fun j q1 q2 => h3 j q1 (by omega))
      · by_cases hj : j = i
        · simp [xup, hj]
        · simp only [xup, hj, and_false, if_false]
          exact h3 j q1 (by omega)
      · show (10 - (i + 1)).toNat < (10 - i).toNat
        omega
  · refine ⟨by simp, (fun pc lv st N => ∃ i : Int, pc = 5 ∧ lv = [some (.inr 14), some (.inl v), some (.inl i), some (.inl 10)] ∧ st = [] ∧ 0 ≤ i ∧ i ≤ 10 ∧ (∀ c', c' ≠ 14 → N c' = M c') ∧ ∀ j, 0 ≤ j → j < i → N 14 j = v), (fun pc lv st N => match lv with | [_, _, some (.inl i), _] => (10 - i).toNat | _ => 0), 400, 400, Eq.mpr (vcJ7_fill_53178_0_14 ..) ?_, ?_⟩
    · exact ⟨0, rfl, rfl, rfl, by omega, by omega, fun _ _ => rfl, fun j h1 h2 => by omega⟩
    · rintro pc lv st N ⟨i, rfl, rfl, rfl, h0, h1, h2, h3⟩
      refine Eq.mpr (vcJ7_fill_53178_5_14 ..) ?_
      refine ⟨⟨by omega, by omega⟩, ⟨by omega, by omega⟩, fun h4 => ?_, fun h4 => ⟨⟨by omega, by omega⟩, ⟨i + 1, rfl, rfl, rfl, by omega, by omega, fun c' hc => by rw [xup_ne hc]; exact h2 c' hc, fun j q1 q2 => ?_⟩, ?_⟩⟩
      · exact h N h2 (fun j q1 q2 => h3 j q1 (by omega))
      · by_cases hj : j = i
        · simp [xup, hj]
        · simp only [xup, hj, and_false, if_false]
          exact h3 j q1 (by omega)
      · show (10 - (i + 1)).toNat < (10 - i).toNat
        omega
  · refine ⟨by simp, (fun pc lv st N => ∃ i : Int, pc = 5 ∧ lv = [some (.inr 15), some (.inl v), some (.inl i), some (.inl 396)] ∧ st = [] ∧ 0 ≤ i ∧ i ≤ 396 ∧ (∀ c', c' ≠ 15 → N c' = M c') ∧ ∀ j, 0 ≤ j → j < i → N 15 j = v), (fun pc lv st N => match lv with | [_, _, some (.inl i), _] => (396 - i).toNat | _ => 0), 400, 400, Eq.mpr (vcJ7_fill_53178_0_15 ..) ?_, ?_⟩
    · exact ⟨0, rfl, rfl, rfl, by omega, by omega, fun _ _ => rfl, fun j h1 h2 => by omega⟩
    · rintro pc lv st N ⟨i, rfl, rfl, rfl, h0, h1, h2, h3⟩
      refine Eq.mpr (vcJ7_fill_53178_5_15 ..) ?_
      refine ⟨⟨by omega, by omega⟩, ⟨by omega, by omega⟩, fun h4 => ?_, fun h4 => ⟨⟨by omega, by omega⟩, ⟨i + 1, rfl, rfl, rfl, by omega, by omega, fun c' hc => by rw [xup_ne hc]; exact h2 c' hc, fun j q1 q2 => ?_⟩, ?_⟩⟩
      · exact h N h2 (fun j q1 q2 => h3 j q1 (by omega))
      · by_cases hj : j = i
        · simp [xup, hj]
        · simp only [xup, hj, and_false, if_false]
          exact h3 j q1 (by omega)
      · show (396 - (i + 1)).toNat < (396 - i).toNat
        omega
theorem k_J7_fill_53178 {l : Launch} {D : va_G} {T : Nat → ClassId} {ad : Nat → Nat} (hO : xOk ad LX) : xMet l D T ad LX yJ7_fill_53178 cJ7_fill_53178 4 none true 0 sp_J7_fill_53178 :=
  xmet (rt := 0) (fld := []) (cals := calJ7_fill_53178) (cst := []) (I := iJ7_fill_53178) (cut := cutJ7_fill_53178) hO (by decide +kernel) ⟨by decide, by decide, by decide⟩ oJ7_fill_53178 (fun _ h => absurd h List.not_mem_nil) (fun _ h => absurd h List.not_mem_nil) (fun _ h => absurd h List.not_mem_nil) b_J7_fill_53178

