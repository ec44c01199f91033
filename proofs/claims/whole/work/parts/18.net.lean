/-! Net, its small methods; what places and LINES are -/
abbrev dS : Type := Int × (Int → Int) × (Int → Int) × (Int → Int)
def SX (M : xM) : dS := (M 1 2, M 3, M 2, M 5)
/-- the box of HOP i of TRACE t: SILENT HOPS by A, their numbers from off t on -/
def Pl (S : dS) (A off : Int → Int) (t i : Int) : Int := if S.2.2.1 (t * 6 + i) = -1 then A (off t + cS S.2.2.1 (t * 6) i.toNat) else S.2.2.2 (S.2.2.1 (t * 6 + i))
def LnT (S : dS) (pl : Int → Int → Int) (t a b : Int) : Prop := ∃ i, 0 ≤ i ∧ i + 1 < S.2.1 t ∧ (pl t i = a ∧ pl t (i + 1) = b ∨ pl t i = b ∧ pl t (i + 1) = a)
def Adj (S : dS) (q : Int → Prop) (pl : Int → Int → Int) (a b : Int) : Prop := ∃ t, (0 ≤ t ∧ t < S.1) ∧ q t ∧ LnT S pl t a b
def Dst (S : dS) (pl : Int → Int → Int) (t : Int) : Prop := ∀ i j, 0 ≤ i → i < j → j < S.2.1 t → pl t i ≠ pl t j
def Sht (S : dS) (q : Int → Prop) (pl : Int → Int → Int) (t : Int) : Prop := ∀ k : Nat, (k : Int) < S.2.1 t - 1 → ¬ wk (Adj S q pl) k (pl t 0) (pl t (S.2.1 t - 1))
def FT (S : dS) (q : Int → Prop) (pl : Int → Int → Int) : Prop := (∀ t, 0 ≤ t → t < S.1 → q t → Dst S pl t) ∧ ∀ t, 0 ≤ t → t < S.1 → q t → Sht S q pl t
def ofX (M : xM) (t : Int) : Int := sS (M 2) (M 3) t.toNat
def plX (M : xM) : Int → Int → Int := Pl (SX M) (M 8) (ofX M)
def wS (M : xM) : Prop := wR M ∧ wT M ∧ sS (M 2) (M 3) (M 1 2).toNat ≤ 4 ∧ ∀ t, 0 ≤ t → t < M 1 2 → 2 ≤ M 3 t ∧ M 2 (t * 6) ≠ -1 ∧ M 2 (t * 6 + (M 3 t - 1)) ≠ -1
def wA (M : xM) : Prop := ∀ s, 0 ≤ s → s < 4 → 0 ≤ M 8 s ∧ M 8 s < 10
def wJ (M : xM) : Prop := ∀ x, 0 ≤ x → x < 10 → 0 ≤ M 9 x ∧ M 9 x < 1024
def JN (M : xM) (R : Int → Int → Prop) : Prop := wJ M ∧ ∀ x y, 0 ≤ x → x < 10 → 0 ≤ y → y < 10 → (tb (M 9 x) y ↔ R x y)
theorem cS_mono (f : Int → Int) (b : Int) {j k : Nat} (h : j ≤ k) : cS f b j ≤ cS f b k := by
  induction k with
  | zero => rw [show j = 0 by omega]; omega
  | succ k ih =>
    by_cases hj : j = k + 1
    · subst hj; omega
    · have := ih (by omega)
      simp only [cS]; split <;> omega
theorem sS_mono (f g : Int → Int) {j k : Nat} (h : j ≤ k) : sS f g j ≤ sS f g k := by
  induction k with
  | zero => rw [show j = 0 by omega]; omega
  | succ k ih =>
    by_cases hj : j = k + 1
    · subst hj; omega
    · have := ih (by omega)
      have := cS_b f ((k : Int) * 6) (g k).toNat
      simp only [sS]; omega
theorem sS_0 (f g : Int → Int) (k : Nat) : 0 ≤ sS f g k := by
  induction k with
  | zero => simp [sS]
  | succ k ih =>
    have := cS_b f ((k : Int) * 6) (g k).toNat
    simp only [sS]; omega
/-- a SILENT HOP's number -/
theorem sil_lt {f g : Int → Int} {n t i : Int} (ht : 0 ≤ t ∧ t < n) (hi : 0 ≤ i ∧ i < g t) (hs : f (t * 6 + i) = -1) : 0 ≤ sS f g t.toNat + cS f (t * 6) i.toNat ∧ sS f g t.toNat + cS f (t * 6) i.toNat < sS f g n.toNat := by
  obtain ⟨a, rfl⟩ : ∃ a : Nat, t = a := ⟨t.toNat, by omega⟩
  obtain ⟨j, rfl⟩ : ∃ j : Nat, i = j := ⟨i.toNat, by omega⟩
  simp only [Int.toNat_natCast]
  have h0 := sS_0 f g a
  have h1 := cS_b f ((a : Int) * 6) j
  have h2 : sS f g (a + 1) ≤ sS f g n.toNat := sS_mono f g (by omega)
  have h3 : cS f ((a : Int) * 6) (j + 1) ≤ cS f ((a : Int) * 6) (g a).toNat := cS_mono f _ (by omega)
  have h4 : cS f ((a : Int) * 6) (j + 1) = cS f ((a : Int) * 6) j + 1 := by simp only [cS, if_pos hs]
  simp only [sS] at h2
  omega
theorem plX_b {M : xM} (hw : wS M) (hA : wA M) {t i : Int} (ht : 0 ≤ t ∧ t < M 1 2) (hi : 0 ≤ i ∧ i < M 3 t) : 0 ≤ plX M t i ∧ plX M t i < 10 := by
  have hn := hw.1.1
  have hl := hw.1.2.1 t ht.1 (by omega)
  have hh := hw.1.2.2 (t * 6 + i) (by omega) (by omega)
  show 0 ≤ (if M 2 (t * 6 + i) = -1 then M 8 (ofX M t + cS (M 2) (t * 6) i.toNat) else M 5 (M 2 (t * 6 + i))) ∧ (if M 2 (t * 6 + i) = -1 then M 8 (ofX M t + cS (M 2) (t * 6) i.toNat) else M 5 (M 2 (t * 6 + i))) < 10
  split
  · rename_i hs
    have := sil_lt (f := M 2) (g := M 3) (n := M 1 2) ht hi hs
    have h4 := hw.2.2.1
    exact hA _ this.1 (by unfold ofX; omega)
  · have := hw.2.1.1 (M 2 (t * 6 + i)) (by omega) (by omega)
    omega
def f_X1_silentBox (s : Int) (M : xM) (Post : xR) : Prop := (0 ≤ s ∧ s < 4) ∧ Post (M 8 s) M
abbrev sp_X1_silentBox : xT := spV1 7 f_X1_silentBox
set_option maxRecDepth 100000 in
set_option maxHeartbeats 4000000 in
theorem b_X1_silentBox (as : List xV) (M : xM) (Post : xR) (h : sp_X1_silentBox as M Post) : as.length ≤ 2 ∧ xw LX fldX1 calX1_silentBox [] 1 Post iX1_silentBox cutX1_silentBox (fun _ _ _ _ => False) 400 0 (xlv as 2) [] M := by
  obtain ⟨v1, rfl, h⟩ := h
  refine ⟨by simp, ?_⟩
  refine Eq.mpr (vcX1_silentBox_0 ..) ?_
  obtain ⟨h0, hp⟩ := h
  simp only [rg]
  grind
theorem k_X1_silentBox {l : Launch} {D : va_G} {T : Nat → ClassId} {ad : Nat → Nat} (hO : xOk ad LX) : xMet l D T ad LX yX1_silentBox cX1_silentBox 2 (some .int) false 0 sp_X1_silentBox :=
  xmet0 (rt := 1) (fld := fldX1) (cals := calX1_silentBox) (cst := []) (I := iX1_silentBox) (cut := cutX1_silentBox) hO (by decide +kernel) ⟨by decide, by decide, by decide⟩ oX1_silentBox foX1 (fun _ h => absurd h List.not_mem_nil) (fun _ h => absurd h List.not_mem_nil) b_X1_silentBox
def f_X1_joinedWith (b : Int) (M : xM) (Post : xR) : Prop := (0 ≤ b ∧ b < 10) ∧ Post (M 9 b) M
abbrev sp_X1_joinedWith : xT := spV1 7 f_X1_joinedWith
set_option maxRecDepth 100000 in
set_option maxHeartbeats 4000000 in
theorem b_X1_joinedWith (as : List xV) (M : xM) (Post : xR) (h : sp_X1_joinedWith as M Post) : as.length ≤ 2 ∧ xw LX fldX1 (calX1_joinedWith sp_X5_isBox) [] 1 Post iX1_joinedWith cutX1_joinedWith (fun _ _ _ _ => False) 400 0 (xlv as 2) [] M := by
  obtain ⟨v1, rfl, h⟩ := h
  refine ⟨by simp, ?_⟩
  refine Eq.mpr (vcX1_joinedWith_0 ..) ?_
  obtain ⟨h0, hp⟩ := h
  exact ⟨_, rfl, ⟨by omega, by omega⟩, fun r hr => ⟨⟨by omega, by omega⟩, fun q => by omega, fun q => ⟨h0, hp⟩⟩⟩
theorem k_X1_joinedWith {l : Launch} {D : va_G} {T : Nat → ClassId} {ad : Nat → Nat} (hO : xOk ad LX) : xMet l D T ad LX yX1_joinedWith cX1_joinedWith 2 (some .int) false 1 sp_X1_joinedWith :=
  xmet0 (rt := 1) (fld := fldX1) (cals := (calX1_joinedWith sp_X5_isBox)) (cst := []) (I := iX1_joinedWith) (cut := cutX1_joinedWith) hO (by decide +kernel) ⟨by decide, by decide, by decide⟩ oX1_joinedWith foX1 (fun _ h => absurd h List.not_mem_nil) (List.forall_mem_cons.mpr ⟨⟨yX5_isBox, cX5_isBox, 1, (some .boolean), 0, 1, by decide, yoX5_isBox, k_X5_isBox hO, loX1_92, Or.inl ⟨rfl, rfl⟩⟩, fun _ h => absurd h List.not_mem_nil⟩) b_X1_joinedWith
def f_X1_loosen (s k : Int) (M : xM) (Post : xR) : Prop := (0 ≤ s ∧ s ≤ 4) ∧ ∀ M' : xM, (∀ c, c ≠ 8 → M' c = M c) → (∀ j, j < s → M' 8 j = M 8 j) → (∀ j, s ≤ j → j < 4 → M' 8 j = 6 + k + j - s) → Post 0 M'
abbrev sp_X1_loosen : xT := spV2 7 f_X1_loosen
set_option maxRecDepth 100000 in
set_option maxHeartbeats 4000000 in
theorem b_X1_loosen (as : List xV) (M : xM) (Post : xR) (h : sp_X1_loosen as M Post) : as.length ≤ 4 ∧ ∃ (Inv : xG) (μ : Nat → xL → List xV → xM → Nat) (f0 f1 : Nat), xw LX fldX1 (calX1_loosen sp_J9_max_7cf53) [] 0 Post iX1_loosen cutX1_loosen Inv f0 0 (xlv as 4) [] M ∧ ∀ pc lv st M', Inv pc lv st M' → xw LX fldX1 (calX1_loosen sp_J9_max_7cf53) [] 0 Post iX1_loosen cutX1_loosen (fun pc2 lv2 st2 M2 => Inv pc2 lv2 st2 M2 ∧ μ pc2 lv2 st2 M2 < μ pc lv st M') f1 pc lv st M' := by
  obtain ⟨v1, v2, rfl, h⟩ := h
  refine ⟨by simp, (fun pc lv st N => ∃ (i : Int), pc = 6 ∧ lv = [some (.inr 7), some (.inl v1), some (.inl v2), some (.inl i)] ∧ st = [] ∧ v1 ≤ i ∧ i ≤ 4 ∧ (∀ c, c ≠ 8 → N c = M c) ∧ (∀ j, j < v1 → N 8 j = M 8 j) ∧ ∀ j, v1 ≤ j → j < i → N 8 j = 6 + v2 + j - v1), (fun pc lv st N => match lv with | [_, _, _, some (.inl i)] => (10 - i).toNat | _ => 0), 400, 400, Eq.mpr (vcX1_loosen_0 ..) ?_, ?_⟩
  · obtain ⟨hs, hp⟩ := h
    refine ⟨_, _, rfl, ⟨by omega, by omega⟩, ⟨by omega, by omega⟩, v1, rfl, ?_, rfl, by omega, by omega, fun _ _ => rfl, fun _ _ => rfl, fun j _ _ => by omega⟩
    rw [Int.max_eq_left hs.1]
  · obtain ⟨hs, hp⟩ := h
    rintro pc lv st N ⟨i, rfl, rfl, rfl, h1, h2, h3, h4, h5⟩
    refine Eq.mpr (vcX1_loosen_6 ..) ?_
    refine ⟨⟨by omega, by omega⟩, ⟨by omega, by omega⟩, fun q => hp N h3 h4 (fun j q1 q2 => h5 j q1 (by omega)), fun q => ⟨⟨by omega, by omega⟩, ⟨i + 1, rfl, rfl, rfl, by omega, by omega, fun c hc => by rw [xup_ne hc]; exact h3 c hc, fun j hj => ?_, fun j q1 q2 => ?_⟩, by (change Int.toNat _ < Int.toNat _); omega⟩⟩
    · rw [xup_at, if_neg (by omega)]; exact h4 j hj
    · rw [xup_at]
      by_cases hj : j = i
      · rw [if_pos hj, hj]
      · rw [if_neg hj]; exact h5 j q1 (by omega)
theorem k_X1_loosen {l : Launch} {D : va_G} {T : Nat → ClassId} {ad : Nat → Nat} (hO : xOk ad LX) : xMet l D T ad LX yX1_loosen cX1_loosen 4 none true 1 sp_X1_loosen :=
  xmet2 (rt := 0) (fld := fldX1) (cals := (calX1_loosen sp_J9_max_7cf53)) (cst := []) (I := iX1_loosen) (cut := cutX1_loosen) hO (by decide +kernel) ⟨by decide, by decide, by decide⟩ oX1_loosen foX1 (fun _ h => absurd h List.not_mem_nil) (List.forall_mem_cons.mpr ⟨Or.inr ⟨by decide, xm 48 (by decide +kernel) rfl, Or.inl ⟨rfl, xm 370 (by decide +kernel) rfl, xm 371 (by decide +kernel) rfl, xm 372 (by decide +kernel) rfl⟩⟩, fun _ h => absurd h List.not_mem_nil⟩) b_X1_loosen
def f_X1_place (s b k : Int) (M : xM) (Post : xR) : Prop := (0 ≤ s ∧ s < 4) ∧ ∀ M' : xM, (∀ c, c ≠ 8 → M' c = M c) → (∀ j, j < s → M' 8 j = M 8 j) → M' 8 s = b → (∀ j, s < j → j < 4 → M' 8 j = 6 + k + j - (s + 1)) → Post 0 M'
abbrev sp_X1_place : xT := spV3 7 f_X1_place
set_option maxRecDepth 100000 in
set_option maxHeartbeats 4000000 in
theorem b_X1_place (as : List xV) (M : xM) (Post : xR) (h : sp_X1_place as M Post) : as.length ≤ 4 ∧ xw LX fldX1 (calX1_place sp_X1_loosen) [] 0 Post iX1_place cutX1_place (fun _ _ _ _ => False) 400 0 (xlv as 4) [] M := by
  obtain ⟨v1, v2, v3, rfl, h⟩ := h
  refine ⟨by simp, ?_⟩
  refine Eq.mpr (vcX1_place_0 ..) ?_
  obtain ⟨hs, hp⟩ := h
  refine ⟨⟨by omega, by omega⟩, fun q => by omega, fun _ => ⟨⟨by omega, by omega⟩, ⟨by omega, by omega⟩, fun q => by omega, fun _ => ⟨hs, _, _, rfl, ⟨by omega, by omega⟩, fun N g1 g2 g3 => hp N (fun c hc => ?_) (fun j hj => ?_) ?_ (fun j q1 q2 => g3 j (by omega) q2)⟩⟩⟩
  · rw [g1 c hc, xup_ne hc]
  · rw [g2 j (by omega), xup_at, if_neg (by omega)]
  · rw [g2 v1 (by omega), xup_at, if_pos rfl]
theorem k_X1_place {l : Launch} {D : va_G} {T : Nat → ClassId} {ad : Nat → Nat} (hO : xOk ad LX) : xMet l D T ad LX yX1_place cX1_place 4 none true 2 sp_X1_place :=
  xmet0 (rt := 0) (fld := fldX1) (cals := (calX1_place sp_X1_loosen)) (cst := []) (I := iX1_place) (cut := cutX1_place) hO (by decide +kernel) ⟨by decide, by decide, by decide⟩ oX1_place foX1 (fun _ h => absurd h List.not_mem_nil) (List.forall_mem_cons.mpr ⟨⟨yX1_loosen, cX1_loosen, 4, none, 1, 2, by decide, yoX1_loosen, k_X1_loosen hO, loX1_26, Or.inr ⟨rfl, rfl, 7, 1, [some 1, some 4, some 8, some 9], TX1, 4, rfl, rfl, spV2_r⟩⟩, fun _ h => absurd h List.not_mem_nil⟩) b_X1_place
theorem pack {x b : Int} {i : Nat} (hi : i < 4) (hx : 0 ≤ x ∧ x < (16 ^ i : Nat)) (hb : 0 ≤ b ∧ b < 16) : (xi x ||| xi (xi b <<< (xi ((i : Int) * 4) &&& 31)).toInt).toInt = x + b * ((16 ^ i : Nat) : Int) := by
  obtain ⟨a, rfl⟩ : ∃ a : Nat, x = a := ⟨x.toNat, by omega⟩
  obtain ⟨d, rfl⟩ : ∃ d : Nat, b = d := ⟨b.toNat, by omega⟩
  have hp : (16 : Nat) ^ i = 2 ^ (4 * i) := by rw [Nat.pow_mul]
  have h16 : (16 : Nat) ^ i ≤ 16 ^ 3 := Nat.pow_le_pow_right (by omega) (by omega)
  have hd : d * 2 ^ (i * 4) < 65536 := by
    rw [Nat.mul_comm i 4, ← hp]
    have : d * 16 ^ i ≤ 15 * 16 ^ 3 := Nat.mul_le_mul (by omega) h16
    omega
  rw [show (i : Int) * 4 = ((i * 4 : Nat) : Int) by omega, bs_shl (by omega) (by omega), bs_or (by omega) (by omega)]
  have e := Nat.two_pow_add_eq_or_of_lt (i := 4 * i) (b := a) (by rw [← hp]; omega) d
  rw [Nat.or_comm, Nat.mul_comm i 4, Nat.mul_comm d, ← e, hp]
  rw [Int.natCast_add, Int.natCast_mul, Int.mul_comm, Int.add_comm]
def f_X1_code (M : xM) (Post : xR) : Prop := (∀ s, 0 ≤ s → s < 4 → 0 ≤ M 8 s ∧ M 8 s < 16) ∧ ∀ x, 0 ≤ x → x < 65536 → (∀ s, 0 ≤ s → s < 4 → bxc x s = M 8 s) → Post x M
theorem bxc_step {x b s : Int} {i : Nat} (hi : i < 4) (hx : 0 ≤ x ∧ x < (16 ^ i : Nat)) (hb : 0 ≤ b ∧ b < 16) (hs : 0 ≤ s ∧ s ≤ i) : bxc (x + b * ((16 ^ i : Nat) : Int)) s = if s = i then b else bxc x s := by
  unfold bxc
  obtain ⟨u, rfl⟩ : ∃ u : Nat, s = u := ⟨s.toNat, by omega⟩
  rcases (show i = 0 ∨ i = 1 ∨ i = 2 ∨ i = 3 by omega) with rfl | rfl | rfl | rfl <;> rcases (show u = 0 ∨ u = 1 ∨ u = 2 ∨ u = 3 by omega) with rfl | rfl | rfl | rfl <;> simp at hx hs ⊢ <;> omega
abbrev sp_X1_code : xT := spV0 7 f_X1_code
set_option maxRecDepth 100000 in
set_option maxHeartbeats 4000000 in
theorem b_X1_code (as : List xV) (M : xM) (Post : xR) (h : sp_X1_code as M Post) : as.length ≤ 3 ∧ ∃ (Inv : xG) (μ : Nat → xL → List xV → xM → Nat) (f0 f1 : Nat), xw LX fldX1 calX1_code [] 1 Post iX1_code cutX1_code Inv f0 0 (xlv as 3) [] M ∧ ∀ pc lv st M', Inv pc lv st M' → xw LX fldX1 calX1_code [] 1 Post iX1_code cutX1_code (fun pc2 lv2 st2 M2 => Inv pc2 lv2 st2 M2 ∧ μ pc2 lv2 st2 M2 < μ pc lv st M') f1 pc lv st M' := by
  obtain ⟨rfl, h⟩ := h
  refine ⟨by simp, (fun pc lv st N => ∃ (x : Int) (i : Nat), pc = 4 ∧ lv = [some (.inr 7), some (.inl x), some (.inl (i : Int))] ∧ st = [] ∧ M = N ∧ i ≤ 4 ∧ 0 ≤ x ∧ x < ((16 ^ i : Nat) : Int) ∧ ∀ s, 0 ≤ s → s < (i : Int) → bxc x s = M 8 s), (fun pc lv st N => match lv with | [_, _, some (.inl i)] => (10 - i).toNat | _ => 0), 400, 400, Eq.mpr (vcX1_code_0 ..) ?_, ?_⟩
  · exact ⟨0, 0, rfl, rfl, rfl, rfl, by omega, by omega, by decide, fun s _ _ => by omega⟩
  · obtain ⟨hb, hp⟩ := h
    rintro pc lv st N ⟨x, i, rfl, rfl, rfl, rfl, h1, h2, h3, h4⟩
    refine Eq.mpr (vcX1_code_4 ..) ?_
    refine ⟨⟨by omega, by omega⟩, ⟨by omega, by omega⟩, fun q => ?_, fun q => ⟨⟨by omega, by omega⟩, ⟨_, i + 1, rfl, rfl, rfl, rfl, by omega, ?_, ?_, fun s q1 q2 => ?_⟩, by (change Int.toNat _ < Int.toNat _); omega⟩⟩
    · have hi : i = 4 := by omega
      subst hi
      exact hp x h2 h3 h4
    all_goals
      have hbi := hb i (by omega) q
      rw [pack (by omega) ⟨h2, h3⟩ hbi]
    · have : 0 ≤ M 8 i * ((16 ^ i : Nat) : Int) := Int.mul_nonneg hbi.1 (by omega)
      omega
    · rw [Nat.pow_succ, Int.natCast_mul, Int.mul_comm ((16 ^ i : Nat) : Int)]
      have : M 8 i * ((16 ^ i : Nat) : Int) ≤ 15 * ((16 ^ i : Nat) : Int) := Int.mul_le_mul_of_nonneg_right (by omega) (by omega)
      show x + M 8 i * ((16 ^ i : Nat) : Int) < 16 * ((16 ^ i : Nat) : Int)
      omega
    · rw [bxc_step (by omega) ⟨h2, h3⟩ hbi ⟨q1, by omega⟩]
      by_cases hs : s = i
      · rw [if_pos hs, hs]
      · rw [if_neg hs]; exact h4 s q1 (by omega)
theorem k_X1_code {l : Launch} {D : va_G} {T : Nat → ClassId} {ad : Nat → Nat} (hO : xOk ad LX) : xMet l D T ad LX yX1_code cX1_code 3 (some .int) false 0 sp_X1_code :=
  xmet (rt := 1) (fld := fldX1) (cals := calX1_code) (cst := []) (I := iX1_code) (cut := cutX1_code) hO (by decide +kernel) ⟨by decide, by decide, by decide⟩ oX1_code foX1 (fun _ h => absurd h List.not_mem_nil) (fun _ h => absurd h List.not_mem_nil) b_X1_code
def f_X1_join (a b : Int) (M : xM) (Post : xR) : Prop := (-1 ≤ a ∧ a < 10) ∧ (0 ≤ b ∧ b < 10) ∧ wJ M ∧ ∀ M' : xM, (∀ c, c ≠ 9 → M' c = M c) → wJ M' → (∀ x y, 0 ≤ x → x < 10 → 0 ≤ y → y < 10 → (tb (M' 9 x) y ↔ tb (M 9 x) y ∨ 0 ≤ a ∧ (x = a ∧ y = b ∨ x = b ∧ y = a))) → Post 0 M'
abbrev sp_X1_join : xT := spV2 7 f_X1_join
set_option maxRecDepth 100000 in
set_option maxHeartbeats 4000000 in
theorem b_X1_join (as : List xV) (M : xM) (Post : xR) (h : sp_X1_join as M Post) : as.length ≤ 3 ∧ xw LX fldX1 (calX1_join sp_X5_isBox) [] 0 Post iX1_join cutX1_join (fun _ _ _ _ => False) 400 0 (xlv as 3) [] M := by
  obtain ⟨v1, v2, rfl, h⟩ := h
  refine ⟨by simp, ?_⟩
  refine Eq.mpr (vcX1_join_0 ..) ?_
  obtain ⟨ha, hb, hJ, hp⟩ := h
  refine ⟨_, rfl, ⟨by omega, by omega⟩, fun r hr => ⟨⟨by omega, by omega⟩, fun q => hp M (fun _ _ => rfl) hJ (fun x y _ _ _ _ => ⟨Or.inl, ?_⟩), fun q => ⟨_, rfl, ⟨by omega, by omega⟩, fun r2 hr2 => ⟨⟨by omega, by omega⟩, fun q2 => by omega, fun q2 => ⟨⟨by omega, by omega⟩, ⟨by omega, by omega⟩, hb, hb, ?_⟩⟩⟩⟩⟩
  · rintro (a | ⟨a, -⟩)
    · exact a
    · omega
  · have h1 := hJ v1 (by omega) (by omega)
    have o1 := or1 (x := M 9 v1) (h := v2) 10 (by omega) ⟨h1.1, by rw [h1024]; omega⟩ ⟨by omega, by omega⟩
    rw [h1024] at o1
    generalize (xi (M 9 v1) ||| xi (xi 1 <<< (xi v2 &&& 31)).toInt).toInt = z at o1 ⊢
    have h2 : 0 ≤ xup M 9 v1 z 9 v2 ∧ xup M 9 v1 z 9 v2 < 1024 := by
      rw [xup_at]
      split
      · exact o1.1
      · exact hJ v2 hb.1 hb.2
    have o2 := or1 (x := xup M 9 v1 z 9 v2) (h := v1) 10 (by omega) ⟨h2.1, by rw [h1024]; omega⟩ ⟨by omega, by omega⟩
    rw [h1024] at o2
    generalize (xi (xup M 9 v1 z 9 v2) ||| xi (xi 1 <<< (xi v1 &&& 31)).toInt).toInt = w at o2 ⊢
    refine hp _ (fun c hc => by rw [xup_ne hc, xup_ne hc]) (fun x q1 q2 => ?_) (fun x y q1 q2 q3 q4 => ?_)
    · rw [xup_at]
      split
      · exact o2.1
      · rw [xup_at]
        split
        · exact o1.1
        · exact hJ x q1 q2
    · rw [xup_at]
      by_cases hx2 : x = v2
      · rw [if_pos hx2, o2.2 y q3, xup_at]
        by_cases h12 : v2 = v1
        · rw [if_pos h12, o1.2 y q3]
          subst hx2; subst h12
          constructor
          · rintro ((a | a) | a)
            · exact Or.inl a
            · exact Or.inr ⟨by omega, Or.inl ⟨rfl, a⟩⟩
            · exact Or.inr ⟨by omega, Or.inl ⟨rfl, a⟩⟩
          · rintro (a | ⟨-, ⟨-, a⟩ | ⟨-, a⟩⟩)
            · exact Or.inl (Or.inl a)
            · exact Or.inr a
            · exact Or.inr a
        · rw [if_neg h12, hx2]
          constructor
          · rintro (a | a)
            · exact Or.inl a
            · exact Or.inr ⟨by omega, Or.inr ⟨rfl, a⟩⟩
          · rintro (a | ⟨-, ⟨a, -⟩ | ⟨-, a⟩⟩)
            · exact Or.inl a
            · omega
            · exact Or.inr a
      · rw [if_neg hx2, xup_at]
        by_cases hx1 : x = v1
        · rw [if_pos hx1, o1.2 y q3, hx1]
          constructor
          · rintro (a | a)
            · exact Or.inl a
            · exact Or.inr ⟨by omega, Or.inl ⟨rfl, a⟩⟩
          · rintro (a | ⟨-, ⟨-, a⟩ | ⟨a, -⟩⟩)
            · exact Or.inl a
            · exact Or.inr a
            · omega
        · rw [if_neg hx1]
          refine ⟨Or.inl, ?_⟩
          rintro (a | ⟨-, ⟨a, -⟩ | ⟨a, -⟩⟩)
          · exact a
          · omega
          · omega
theorem k_X1_join {l : Launch} {D : va_G} {T : Nat → ClassId} {ad : Nat → Nat} (hO : xOk ad LX) : xMet l D T ad LX yX1_join cX1_join 3 none true 1 sp_X1_join :=
  xmet0 (rt := 0) (fld := fldX1) (cals := (calX1_join sp_X5_isBox)) (cst := []) (I := iX1_join) (cut := cutX1_join) hO (by decide +kernel) ⟨by decide, by decide, by decide⟩ oX1_join foX1 (fun _ h => absurd h List.not_mem_nil) (List.forall_mem_cons.mpr ⟨⟨yX5_isBox, cX5_isBox, 1, (some .boolean), 0, 1, by decide, yoX5_isBox, k_X5_isBox hO, loX1_92, Or.inl ⟨rfl, rfl⟩⟩, fun _ h => absurd h List.not_mem_nil⟩) b_X1_join
def f_X1_lines (M : xM) (Post : xR) : Prop := ∃ R, JN M R ∧ (∀ x y, R x y → R y x) ∧ (∀ x, ¬ R x x) ∧ Post (nLn R 10 : Nat) M
abbrev sp_X1_lines : xT := spV0 7 f_X1_lines
set_option maxRecDepth 100000 in
set_option maxHeartbeats 4000000 in
theorem b_X1_lines (as : List xV) (M : xM) (Post : xR) (h : sp_X1_lines as M Post) : as.length ≤ 3 ∧ ∃ (Inv : xG) (μ : Nat → xL → List xV → xM → Nat) (f0 f1 : Nat), xw LX fldX1 (calX1_lines sp_J6_bitCount_0f7a4) [] 1 Post iX1_lines cutX1_lines Inv f0 0 (xlv as 3) [] M ∧ ∀ pc lv st M', Inv pc lv st M' → xw LX fldX1 (calX1_lines sp_J6_bitCount_0f7a4) [] 1 Post iX1_lines cutX1_lines (fun pc2 lv2 st2 M2 => Inv pc2 lv2 st2 M2 ∧ μ pc2 lv2 st2 M2 < μ pc lv st M') f1 pc lv st M' := by
  obtain ⟨rfl, h⟩ := h
  refine ⟨by simp, (fun pc lv st N => ∃ (i : Nat), pc = 4 ∧ lv = [some (.inr 7), some (.inl ((sm (fun a => (pop (M 9 (a : Int))).toNat) i : Nat) : Int)), some (.inl (i : Int))] ∧ st = [] ∧ M = N ∧ i ≤ 10), (fun pc lv st N => match lv with | [_, _, some (.inl i)] => (20 - i).toNat | _ => 0), 400, 400, Eq.mpr (vcX1_lines_0 ..) ?_, ?_⟩
  · exact ⟨0, rfl, rfl, rfl, rfl, by omega⟩
  · obtain ⟨R, hJ, hs, hi, hp⟩ := h
    rintro pc lv st N ⟨i, rfl, rfl, rfl, rfl, h1⟩
    refine Eq.mpr (vcX1_lines_4 ..) ?_
    refine ⟨⟨by omega, by omega⟩, ⟨by omega, by omega⟩, fun q => ?_, fun q => ⟨⟨by omega, by omega⟩, _, rfl, hJ.1 i (by omega) q, ⟨i + 1, rfl, ?_, rfl, rfl, by omega⟩, by (change Int.toNat _ < Int.toNat _); omega⟩⟩
    · have hi10 : i = 10 := by omega
      subst hi10
      have e : sm (fun a => (pop (M 9 (a : Int))).toNat) 10 = 2 * nLn R 10 := by
        rw [← nLn_two hs hi]
        refine sm_congr (fun a ha => ?_)
        rw [pop_sm, Int.toNat_natCast]
        exact sm_congr (fun b hb => bb_congr (hJ.2 a b (by omega) (by omega) (by omega) (by omega)))
      have := nLn_le R
      rw [e]
      refine ⟨⟨by omega, by omega, by omega, by omega⟩, ?_⟩
      rw [show ((2 * nLn R 10 : Nat) : Int) / 2 = (nLn R 10 : Nat) by omega]
      exact hp
    · have := pop_b (M 9 i)
      have e : ((sm (fun a => (pop (M 9 (a : Int))).toNat) i : Nat) : Int) + pop (M 9 i) = ((sm (fun a => (pop (M 9 (a : Int))).toNat) (i + 1) : Nat) : Int) := by
        simp only [sm]; omega
      rw [e]
      rfl
theorem k_X1_lines {l : Launch} {D : va_G} {T : Nat → ClassId} {ad : Nat → Nat} (hO : xOk ad LX) : xMet l D T ad LX yX1_lines cX1_lines 3 (some .int) false 1 sp_X1_lines :=
  xmet (rt := 1) (fld := fldX1) (cals := (calX1_lines sp_J6_bitCount_0f7a4)) (cst := []) (I := iX1_lines) (cut := cutX1_lines) hO (by decide +kernel) ⟨by decide, by decide, by decide⟩ oX1_lines foX1 (fun _ h => absurd h List.not_mem_nil) (List.forall_mem_cons.mpr ⟨⟨yJ6_bitCount_0f7a4, cJ6_bitCount_0f7a4, 1, (some .int), 0, 1, by decide, yoJ6_bitCount_0f7a4, k_J6_bitCount_0f7a4 hO, loX1_95, Or.inl ⟨rfl, rfl⟩⟩, fun _ h => absurd h List.not_mem_nil⟩) b_X1_lines

