/-! FITS of a list of boxes; looser ones; Net.takeUp, LeastNets.someFits -/
def all0 : Int → Prop := fun _ => True
def offS (S : dS) (t : Int) : Int := sS S.2.2.1 S.2.1 t.toNat
def mS (S : dS) : Nat := (sS S.2.2.1 S.2.1 S.1.toNat).toNat
def lkA (A : List Int) (s : Int) : Int := A.getD s.toNat 0
def plL (S : dS) (A : List Int) : Int → Int → Int := Pl S (lkA A) (offS S)
def Fit (S : dS) (A : List Int) : Prop := FT S all0 (plL S A)
noncomputable def nlL (S : dS) (A : List Int) : Nat := nLn (Adj S all0 (plL S A)) 10
def nmS (S : dS) (n : Int) : Prop := ∃ t i : Int, 0 ≤ t ∧ t < S.1 ∧ 0 ≤ i ∧ i < S.2.1 t ∧ S.2.2.1 (t * 6 + i) = n
def thB (S : dS) (b : Int) : Prop := ∃ n, 0 ≤ n ∧ n < 6 ∧ S.2.2.2 n = b ∧ nmS S n
noncomputable def LNs (S : dS) : lSt := (enm (thB S) (mS S) 0).foldl (stp (Fit S) (nlL S)) init0
def wfS (S : dS) : Prop := (0 ≤ S.1 ∧ S.1 ≤ 6) ∧ (∀ t, 0 ≤ t → t < S.1 → (2 ≤ S.2.1 t ∧ S.2.1 t ≤ 6) ∧ S.2.2.1 (t * 6) ≠ -1 ∧ S.2.2.1 (t * 6 + (S.2.1 t - 1)) ≠ -1) ∧ (∀ t i, 0 ≤ t → t < S.1 → 0 ≤ i → i < S.2.1 t → -1 ≤ S.2.2.1 (t * 6 + i) ∧ S.2.2.1 (t * 6 + i) ≤ 5) ∧ (∀ n, 0 ≤ n → n < 6 → 0 ≤ S.2.2.2 n ∧ S.2.2.2 n ≤ n) ∧ sS S.2.2.1 S.2.1 S.1.toNat ≤ 4
theorem wfS_of {M : xM} (hw : wS M) : wfS (SX M) := by
  have hn := hw.1.1
  refine ⟨hn, fun t h1 h2 => ⟨⟨(hw.2.2.2 t h1 h2).1, (hw.1.2.1 t h1 (by have : t < M 1 2 := h2; omega)).2⟩, (hw.2.2.2 t h1 h2).2⟩, fun t i h1 h2 h3 h4 => ?_, hw.2.1.1, hw.2.2.1⟩
  have h2 : t < M 1 2 := h2
  have h4 : i < M 3 t := h4
  have := hw.1.2.1 t h1 (by omega)
  exact hw.1.2.2 (t * 6 + i) (by omega) (by omega)
theorem mS_c {S : dS} : ((mS S : Nat) : Int) = sS S.2.2.1 S.2.1 S.1.toNat := Int.toNat_of_nonneg (sS_0 _ _ _)
theorem mS_4 {S : dS} (h : wfS S) : mS S ≤ 4 := by
  have := h.2.2.2.2
  have := mS_c (S := S)
  omega
theorem Pl_sil {S : dS} {A off : Int → Int} {t i : Int} (h : S.2.2.1 (t * 6 + i) = -1) : Pl S A off t i = A (off t + cS S.2.2.1 (t * 6) i.toNat) := by unfold Pl; rw [if_pos h]
theorem Pl_nm {S : dS} {A off : Int → Int} {t i : Int} (h : S.2.2.1 (t * 6 + i) ≠ -1) : Pl S A off t i = S.2.2.2 (S.2.2.1 (t * 6 + i)) := by unfold Pl; rw [if_neg h]
theorem sil_m {S : dS} {t i : Int} (ht : 0 ≤ t ∧ t < S.1) (hi : 0 ≤ i ∧ i < S.2.1 t) (h : S.2.2.1 (t * 6 + i) = -1) : 0 ≤ offS S t + cS S.2.2.1 (t * 6) i.toNat ∧ offS S t + cS S.2.2.1 (t * 6) i.toNat < mS S := by
  rw [mS_c]
  exact sil_lt ht hi h
theorem Pl_congr {S : dS} {A B : Int → Int} (h : ∀ s, 0 ≤ s → s < (mS S : Int) → A s = B s) {t i : Int} (ht : 0 ≤ t ∧ t < S.1) (hi : 0 ≤ i ∧ i < S.2.1 t) : Pl S A (offS S) t i = Pl S B (offS S) t i := by
  by_cases hs : S.2.2.1 (t * 6 + i) = -1
  · rw [Pl_sil hs, Pl_sil hs]
    have := sil_m ht hi hs
    exact h _ this.1 this.2
  · rw [Pl_nm hs, Pl_nm hs]
theorem FT_map {S : dS} {q : Int → Prop} {pl pl' : Int → Int → Int} (f : Int → Int) (h : ∀ t i, 0 ≤ t → t < S.1 → q t → 0 ≤ i → i < S.2.1 t → pl' t i = f (pl t i)) (hF : FT S q pl') : FT S q pl := by
  refine ⟨fun t h1 h2 h3 i j a b c e => ?_, fun t h1 h2 h3 k hk hw => ?_⟩
  · refine hF.1 t h1 h2 h3 i j a b c ?_
    rw [h t i h1 h2 h3 a (by omega), h t j h1 h2 h3 (by omega) c, e]
  · refine hF.2 t h1 h2 h3 k hk ?_
    rw [h t 0 h1 h2 h3 (by omega) (by omega), h t _ h1 h2 h3 (by omega) (by omega)]
    refine wk_map (fun x y hxy => ?_) k _ _ hw
    obtain ⟨u, hu, qu, i, b1, b2, b3⟩ := hxy
    refine ⟨u, hu, qu, i, b1, b2, ?_⟩
    rw [h u i hu.1 hu.2 qu b1 (by omega), h u (i + 1) hu.1 hu.2 qu (by omega) b2]
    rcases b3 with ⟨c1, c2⟩ | ⟨c1, c2⟩
    · exact Or.inl ⟨by rw [c1], by rw [c2]⟩
    · exact Or.inr ⟨by rw [c1], by rw [c2]⟩
/-- looser assignments FIT where tighter ones do -/
theorem FT_loose {S : dS} (hw : wfS S) {q : Int → Prop} {A B off off' : Int → Int} (h : ∀ t i, 0 ≤ t → t < S.1 → q t → 0 ≤ i → i < S.2.1 t → S.2.2.1 (t * 6 + i) = -1 → (Pl S A off t i < 6 → Pl S B off' t i = Pl S A off t i) ∧ ∀ u j, 0 ≤ u → u < S.1 → q u → 0 ≤ j → j < S.2.1 u → S.2.2.1 (u * 6 + j) = -1 → Pl S A off t i = Pl S A off u j → Pl S B off' t i = Pl S B off' u j) (hF : FT S q (Pl S B off')) : FT S q (Pl S A off) := by
  let P : Int → Int → Prop := fun x y => ∃ t i : Int, 0 ≤ t ∧ t < S.1 ∧ q t ∧ 0 ≤ i ∧ i < S.2.1 t ∧ S.2.2.1 (t * 6 + i) = -1 ∧ Pl S A off t i = x ∧ Pl S B off' t i = y
  refine FT_map (fun x => if x < 6 then x else @dite _ (∃ y, P x y) (Classical.propDecidable _) (fun h => h.choose) (fun _ => x)) (fun t i h1 h2 h3 h4 h5 => ?_) hF
  by_cases hs : S.2.2.1 (t * 6 + i) = -1
  · by_cases h6 : Pl S A off t i < 6
    · rw [if_pos h6]
      exact (h t i h1 h2 h3 h4 h5 hs).1 h6
    · rw [if_neg h6]
      have hex : ∃ y, P (Pl S A off t i) y := ⟨_, t, i, h1, h2, h3, h4, h5, hs, rfl, rfl⟩
      rw [dif_pos hex]
      obtain ⟨u, j, a1, a2, a3, a4, a5, a6, a7, a8⟩ := hex.choose_spec
      rw [← a8]
      exact (h t i h1 h2 h3 h4 h5 hs).2 u j a1 a2 a3 a4 a5 a6 a7.symm
  · have hh := hw.2.2.1 t i h1 h2 h4 h5
    have hb := hw.2.2.2.1 (S.2.2.1 (t * 6 + i)) (by omega) (by omega)
    rw [Pl_nm hs, Pl_nm hs, if_pos (by omega)]
theorem cS_ex {f : Int → Int} {b : Int} : ∀ (k : Nat) (s : Int), 0 ≤ s → s < cS f b k → ∃ i : Nat, i < k ∧ f (b + (i : Int)) = -1 ∧ cS f b i = s := by
  intro k
  induction k with
  | zero => intro s h1 h2; simp [cS] at h2; omega
  | succ k ih =>
    intro s h1 h2
    by_cases h : s < cS f b k
    · obtain ⟨i, a, b, c⟩ := ih s h1 h
      exact ⟨i, by omega, b, c⟩
    · simp only [cS] at h2
      split at h2
      · rename_i hs
        exact ⟨k, by omega, hs, by omega⟩
      · omega
theorem sS_ex {f g : Int → Int} : ∀ (k : Nat) (s : Int), 0 ≤ s → s < sS f g k → ∃ t i : Nat, t < k ∧ i < (g t).toNat ∧ f ((t : Int) * 6 + (i : Int)) = -1 ∧ sS f g t + cS f ((t : Int) * 6) i = s := by
  intro k
  induction k with
  | zero => intro s h1 h2; simp [sS] at h2; omega
  | succ k ih =>
    intro s h1 h2
    by_cases h : s < sS f g k
    · obtain ⟨t, i, a, b, c⟩ := ih s h1 h
      exact ⟨t, i, by omega, b, c⟩
    · simp only [sS] at h2
      obtain ⟨i, a, b, c⟩ := cS_ex (f := f) (b := (k : Int) * 6) (g k).toNat (s - sS f g k) (by omega) (by omega)
      exact ⟨k, i, by omega, a, b, by omega⟩
/-- two NAME boxes that a SILENT HOP can't have -/
theorem forb {S : dS} (hw : wfS S) : ∀ s, s < mS S → ∃ x y : Nat, x < 6 ∧ y < 6 ∧ x ≠ y ∧ ∀ A : List Int, A.length = mS S → Fit S A → A[s]? ≠ some (x : Int) ∧ A[s]? ≠ some (y : Int) := by
  intro s hs
  obtain ⟨t, i, h1, h2, h3, h4⟩ := sS_ex (f := S.2.2.1) (g := S.2.1) S.1.toNat s (by omega) (by rw [← mS_c]; omega)
  have ht : 0 ≤ (t : Int) ∧ (t : Int) < S.1 := ⟨by omega, by omega⟩
  obtain ⟨l1, l2, l3⟩ := hw.2.1 t ht.1 ht.2
  have hi : 0 ≤ (i : Int) ∧ (i : Int) < S.2.1 t := ⟨by omega, by omega⟩
  have a1 := hw.2.2.1 t 0 ht.1 ht.2 (by omega) (by omega)
  rw [Int.add_zero] at a1
  have a2 := hw.2.2.1 t (S.2.1 t - 1) ht.1 ht.2 (by omega) (by omega)
  have b1 := hw.2.2.2.1 (S.2.2.1 (t * 6)) (by omega) (by omega)
  have b2 := hw.2.2.2.1 (S.2.2.1 (t * 6 + (S.2.1 t - 1))) (by omega) (by omega)
  have e0 : ∀ A, plL S A t 0 = S.2.2.2 (S.2.2.1 (t * 6)) := fun A => by
    have := Pl_nm (S := S) (A := lkA A) (off := offS S) (t := t) (i := 0) (by rw [Int.add_zero]; exact l2)
    rw [Int.add_zero] at this
    exact this
  have e1 : ∀ A, plL S A t (S.2.1 t - 1) = S.2.2.2 (S.2.2.1 (t * 6 + (S.2.1 t - 1))) := fun A => Pl_nm l3
  have es : ∀ A, plL S A t i = lkA A s := fun A => by
    have := Pl_sil (S := S) (A := lkA A) (off := offS S) (t := t) (i := i) h3
    rw [show offS S t + cS S.2.2.1 ((t : Int) * 6) ((i : Int)).toNat = s by unfold offS; simp only [Int.toNat_natCast]; exact h4] at this
    exact this
  have i0 : (i : Int) ≠ 0 := fun z => l2 (by rw [z, Int.add_zero] at h3; exact h3)
  have i1 : (i : Int) ≠ S.2.1 t - 1 := fun z => l3 (by rw [z] at h3; exact h3)
  by_cases hxy : S.2.2.2 (S.2.2.1 (t * 6)) = S.2.2.2 (S.2.2.1 (t * 6 + (S.2.1 t - 1)))
  · refine ⟨0, 1, by omega, by omega, by omega, fun A _ hF => ?_⟩
    exact (hF.1 t ht.1 ht.2 trivial 0 (S.2.1 t - 1) (by omega) (by omega) (by omega) (by rw [e0, e1]; exact hxy)).elim
  · refine ⟨(S.2.2.2 (S.2.2.1 (t * 6))).toNat, (S.2.2.2 (S.2.2.1 (t * 6 + (S.2.1 t - 1)))).toNat, by omega, by omega, by omega, fun A hA hF => ⟨fun e => ?_, fun e => ?_⟩⟩
    · have q : lkA A s = S.2.2.2 (S.2.2.1 (t * 6)) := by
        unfold lkA
        rw [Int.toNat_natCast, List.getD_eq_getElem?_getD, e, Option.getD_some, Int.toNat_of_nonneg b1.1]
      exact hF.1 t ht.1 ht.2 trivial 0 i (by omega) (by omega) (by omega) (by rw [e0, es, q])
    · have q : lkA A s = S.2.2.2 (S.2.2.1 (t * 6 + (S.2.1 t - 1))) := by
        unfold lkA
        rw [Int.toNat_natCast, List.getD_eq_getElem?_getD, e, Option.getD_some, Int.toNat_of_nonneg b2.1]
      exact hF.1 t ht.1 ht.2 trivial i (S.2.1 t - 1) (by omega) (by omega) (by omega) (by rw [e1, es, q])
theorem tb_all {n t : Int} (hn : 0 ≤ n) (ht : 0 ≤ t) : tb (((2 ^ n.toNat : Nat) : Int) - 1) t ↔ t < n := by
  have hp := Nat.two_pow_pos n.toNat
  unfold tb
  rw [show (((2 ^ n.toNat : Nat) : Int) - 1).toNat = 2 ^ n.toNat - 1 by omega, Nat.testBit_two_pow_sub_one, decide_eq_true_eq]
  omega
theorem all_b {n : Int} (hn : 0 ≤ n ∧ n ≤ 6) : 0 ≤ ((2 ^ n.toNat : Nat) : Int) - 1 ∧ ((2 ^ n.toNat : Nat) : Int) - 1 < 64 := by
  have hp := Nat.two_pow_pos n.toNat
  have h2 : 2 ^ n.toNat ≤ 2 ^ 6 := Nat.pow_le_pow_right (by omega) (by omega)
  omega
def f_X1_takeUp (x : Int) (M : xM) (Post : xR) : Prop := wS M ∧ (0 ≤ x ∧ x < 65536) ∧ (∀ s, 0 ≤ s → s < 4 → bxc x s < 10) ∧ FT (SX M) all0 (Pl (SX M) (bxc x) (offS (SX M))) ∧ ∀ M' : xM, (∀ c, c ≠ 8 → c ≠ 9 → M' c = M c) → (∀ s, 0 ≤ s → s < 4 → M' 8 s = bxc x s) → JN M' (Adj (SX M) all0 (Pl (SX M) (bxc x) (offS (SX M)))) → Post 0 M'
theorem bxc_0 {x s : Int} : 0 ≤ bxc x s := by unfold bxc; exact Int.emod_nonneg _ (by decide)
abbrev sp_X1_takeUp : xT := spV1 7 f_X1_takeUp
set_option maxRecDepth 100000 in
set_option maxHeartbeats 4000000 in
theorem b_X1_takeUp (as : List xV) (M : xM) (Post : xR) (h : sp_X1_takeUp as M Post) : as.length ≤ 3 ∧ ∃ (Inv : xG) (μ : Nat → xL → List xV → xM → Nat) (f0 f1 : Nat), xw LX fldX1 (calX1_takeUp sp_X5_boxIn sp_X2_all sp_X1_fits) [] 0 Post iX1_takeUp cutX1_takeUp Inv f0 0 (xlv as 3) [] M ∧ ∀ pc lv st M', Inv pc lv st M' → xw LX fldX1 (calX1_takeUp sp_X5_boxIn sp_X2_all sp_X1_fits) [] 0 Post iX1_takeUp cutX1_takeUp (fun pc2 lv2 st2 M2 => Inv pc2 lv2 st2 M2 ∧ μ pc2 lv2 st2 M2 < μ pc lv st M') f1 pc lv st M' := by
  obtain ⟨v1, rfl, h⟩ := h
  refine ⟨by simp, (fun pc lv st N => ∃ (i : Int), pc = 2 ∧ lv = [some (.inr 7), some (.inl v1), some (.inl i)] ∧ st = [] ∧ (0 ≤ i ∧ i ≤ 4) ∧ (∀ c, c ≠ 8 → N c = M c) ∧ ∀ s, 0 ≤ s → s < i → N 8 s = bxc v1 s), (fun pc lv st N => match lv with | [_, _, some (.inl i)] => (10 - i).toNat | _ => 0), 400, 400, Eq.mpr (vcX1_takeUp_0 ..) ?_, ?_⟩
  · exact ⟨0, rfl, rfl, rfl, by omega, fun _ _ => rfl, fun s _ _ => by omega⟩
  · obtain ⟨hw, hx, hb, hF, hp⟩ := h
    rintro pc lv st N ⟨i, rfl, rfl, rfl, h1, h2, h3⟩
    have e1 : N 1 = M 1 := h2 1 (by decide)
    have e2 : N 2 = M 2 := h2 2 (by decide)
    have e3 : N 3 = M 3 := h2 3 (by decide)
    have e5 : N 5 = M 5 := h2 5 (by decide)
    have e6 : N 6 = M 6 := h2 6 (by decide)
    have hwN : wS N := by rw [wS_eq e1 e2 e3 e5 e6]; exact hw
    have eS : SX N = SX M := SX_eq e1 e2 e3 e5
    refine Eq.mpr (vcX1_takeUp_2 ..) ?_
    refine ⟨⟨by omega, by omega⟩, ⟨by omega, by omega⟩, fun q => ⟨rfl, ⟨by rw [e1]; exact hw.1.1.1, by rw [e1]; exact hw.1.1.2⟩, _, rfl, hwN, ?_, ?_, fun r M2 g1 g2 g3 => ?_⟩, fun q => ⟨_, _, rfl, hx, ⟨by omega, by omega⟩, ⟨by omega, by omega⟩, ⟨i + 1, rfl, rfl, rfl, by omega, fun c hc => by rw [xup_ne hc]; exact h2 c hc, fun s a1 a2 => ?_⟩, by (change Int.toNat _ < Int.toNat _); omega⟩⟩
    · intro s a1 a2
      rw [h3 s a1 (by omega)]
      exact ⟨bxc_0, hb s a1 a2⟩
    · rw [e1]; exact all_b hw.1.1
    · have hq : ∀ t, 0 ≤ t → t < (SX M).1 → (tb (((2 ^ (N 1 2).toNat : Nat) : Int) - 1) t ↔ all0 t) := fun t a1 a2 => by
        rw [e1, tb_all hw.1.1.1 a1]
        exact ⟨fun _ => trivial, fun _ => a2⟩
      have hpl : ∀ t i, 0 ≤ t → t < (SX M).1 → 0 ≤ i → i < (SX M).2.1 t → plX N t i = Pl (SX M) (bxc v1) (offS (SX M)) t i := fun t j a1 a2 a3 a4 => by
        have : plX N t j = Pl (SX M) (N 8) (offS (SX M)) t j := by
          show Pl (SX N) (N 8) (offS (SX N)) t j = _
          rw [eS]
        rw [this]
        refine Pl_congr (fun s b1 b2 => h3 s b1 ?_) ⟨a1, a2⟩ ⟨a3, a4⟩
        have := mS_4 (wfS_of hw)
        omega
      rw [eS] at g3
      have hFN : FT (SX M) (tb (((2 ^ (N 1 2).toNat : Nat) : Int) - 1)) (plX N) := (FT_iff rfl (fun _ _ _ => rfl) hq hpl).mpr hF
      rcases g3 with ⟨-, -, g3⟩ | ⟨-, g3⟩
      · refine hp M2 (fun c q1 q2 => by rw [g1 c q2]; exact h2 c q1) (fun s a1 a2 => by rw [g1 8 (by decide)]; exact h3 s a1 (by omega)) ⟨g3.1, fun x y a1 a2 a3 a4 => ?_⟩
        rw [g3.2 x y a1 a2 a3 a4]
        exact Adj_iff rfl (fun _ _ _ => rfl) hq hpl x y
      · exact (g3 hFN).elim
    · rw [xup_at]
      by_cases hs : s = i
      · rw [if_pos hs, hs]
      · rw [if_neg hs]; exact h3 s a1 (by omega)
theorem k_X1_takeUp {l : Launch} {D : va_G} {T : Nat → ClassId} {ad : Nat → Nat} (hO : xOk ad LX) : xMet l D T ad LX yX1_takeUp cX1_takeUp 3 none true 4 sp_X1_takeUp :=
  xmet (rt := 0) (fld := fldX1) (cals := (calX1_takeUp sp_X5_boxIn sp_X2_all sp_X1_fits)) (cst := []) (I := iX1_takeUp) (cut := cutX1_takeUp) hO (by decide +kernel) ⟨by decide, by decide, by decide⟩ oX1_takeUp foX1 (fun _ h => absurd h List.not_mem_nil) (List.forall_mem_cons.mpr ⟨⟨yX5_boxIn, cX5_boxIn, 2, (some .int), 0, 2, by decide, yoX5_boxIn, k_X5_boxIn hO, loX1_36, Or.inl ⟨rfl, rfl⟩⟩, List.forall_mem_cons.mpr ⟨⟨yX2_all, cX2_all, 1, (some .int), 0, 0, by decide, yoX2_all, k_X2_all hO, loX1_39, Or.inr ⟨rfl, rfl, 1, 2, [some 2, some 3, none], TX2, 3, rfl, rfl, spV0_r⟩⟩, List.forall_mem_cons.mpr ⟨⟨yX1_fits, cX1_fits, 4, (some .boolean), 3, 1, by decide, yoX1_fits, k_X1_fits hO, loX1_45, Or.inr ⟨rfl, rfl, 7, 1, [some 1, some 4, some 8, some 9], TX1, 4, rfl, rfl, spV1_r⟩⟩, fun _ h => absurd h List.not_mem_nil⟩⟩⟩) b_X1_takeUp
def f_X0_someFits (s : Int) (M : xM) (Post : xR) : Prop := wS M ∧ (0 ≤ s ∧ s < 64) ∧ ∀ (r : Int) (M' : xM), (∀ c, c ≠ 8 → c ≠ 9 → M' c = M c) → (∀ j, 0 ≤ j → j < 4 → M' 8 j = 6 + j) → (r = 1 ∧ FT (SX M) (tb s) (plX M') ∧ JN M' (Adj (SX M) (tb s) (plX M')) ∨ r = 0 ∧ ¬ FT (SX M) (tb s) (plX M')) → Post r M'
abbrev sp_X0_someFits : xT := spV1 10 f_X0_someFits
set_option maxRecDepth 100000 in
set_option maxHeartbeats 4000000 in
theorem b_X0_someFits (as : List xV) (M : xM) (Post : xR) (h : sp_X0_someFits as M Post) : as.length ≤ 2 ∧ xw LX fldX0 (calX0_someFits sp_X1_loosen sp_X1_fits) [] 2 Post iX0_someFits cutX0_someFits (fun _ _ _ _ => False) 400 0 (xlv as 2) [] M := by
  obtain ⟨v1, rfl, h⟩ := h
  refine ⟨by simp, ?_⟩
  refine Eq.mpr (vcX0_someFits_0 ..) ?_
  obtain ⟨hw, hs, hp⟩ := h
  refine ⟨_, _, rfl, ⟨by omega, by omega⟩, fun N g1 g2 g3 => ?_⟩
  have e1 : N 1 = M 1 := g1 1 (by decide)
  have e2 : N 2 = M 2 := g1 2 (by decide)
  have e3 : N 3 = M 3 := g1 3 (by decide)
  have e5 : N 5 = M 5 := g1 5 (by decide)
  have e6 : N 6 = M 6 := g1 6 (by decide)
  have hwN : wS N := by rw [wS_eq e1 e2 e3 e5 e6]; exact hw
  have eS : SX N = SX M := SX_eq e1 e2 e3 e5
  refine ⟨_, rfl, hwN, fun j a1 a2 => by rw [g3 j a1 a2]; omega, hs, fun r M2 k1 k2 k3 => ?_⟩
  have ePl : plX M2 = plX N := plX_eq (k1 1 (by decide)) (k1 2 (by decide)) (k1 3 (by decide)) (k1 5 (by decide)) (k1 8 (by decide))
  rw [eS, ← ePl] at k3
  refine ⟨by omega, hp r M2 (fun c q1 q2 => by rw [k1 c q2]; exact g1 c q1) (fun j a1 a2 => by rw [k1 8 (by decide), g3 j a1 a2]; omega) k3⟩
theorem k_X0_someFits {l : Launch} {D : va_G} {T : Nat → ClassId} {ad : Nat → Nat} (hO : xOk ad LX) : xMet l D T ad LX yX0_someFits cX0_someFits 2 (some .boolean) false 4 sp_X0_someFits :=
  xmet0 (rt := 2) (fld := fldX0) (cals := (calX0_someFits sp_X1_loosen sp_X1_fits)) (cst := []) (I := iX0_someFits) (cut := cutX0_someFits) hO (by decide +kernel) ⟨by decide, by decide, by decide⟩ oX0_someFits foX0 (fun _ h => absurd h List.not_mem_nil) (List.forall_mem_cons.mpr ⟨⟨yX1_loosen, cX1_loosen, 4, none, 1, 2, by decide, yoX1_loosen, k_X1_loosen hO, loX0_72, Or.inr ⟨rfl, rfl, 7, 1, [some 1, some 4, some 8, some 9], TX1, 4, rfl, rfl, spV2_r⟩⟩, List.forall_mem_cons.mpr ⟨⟨yX1_fits, cX1_fits, 4, (some .boolean), 3, 1, by decide, yoX1_fits, k_X1_fits hO, loX0_78, Or.inr ⟨rfl, rfl, 7, 1, [some 1, some 4, some 8, some 9], TX1, 4, rfl, rfl, spV1_r⟩⟩, fun _ h => absurd h List.not_mem_nil⟩⟩) b_X0_someFits

