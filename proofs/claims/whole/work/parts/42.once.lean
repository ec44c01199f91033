/-! the reference: hasOnce -/
def onM (M : xM) (t : Int) : Prop := ∀ i j, 0 ≤ i → i < j → j < M 1 t → M 7 (t * 6 + i) ≠ M 7 (t * 6 + j)
def f_X6_hasOnce (t : Int) (M : xM) (Post : xR) : Prop := wM M ∧ (0 ≤ t ∧ t < 6) ∧ (∀ i, 0 ≤ i → i < M 1 t → 0 ≤ M 7 (t * 6 + i) ∧ M 7 (t * 6 + i) < 10) ∧ ∀ r, (r = 1 ∧ onM M t ∨ r = 0 ∧ ¬ onM M t) → Post r M
abbrev sp_X6_hasOnce : xT := spV1 0 f_X6_hasOnce
set_option maxRecDepth 100000 in
set_option maxHeartbeats 4000000 in
theorem b_X6_hasOnce (as : List xV) (M : xM) (Post : xR) (h : sp_X6_hasOnce as M Post) : as.length ≤ 5 ∧ ∃ (Inv : xG) (μ : Nat → xL → List xV → xM → Nat) (f0 f1 : Nat), xw LM fldX6 calX6_hasOnce [] 2 Post iX6_hasOnce cutX6_hasOnce Inv f0 0 (xlv as 5) [] M ∧ ∀ pc lv st M', Inv pc lv st M' → xw LM fldX6 calX6_hasOnce [] 2 Post iX6_hasOnce cutX6_hasOnce (fun pc2 lv2 st2 M2 => Inv pc2 lv2 st2 M2 ∧ μ pc2 lv2 st2 M2 < μ pc lv st M') f1 pc lv st M' := by
  obtain ⟨v1, rfl, h⟩ := h
  refine ⟨by simp, (fun pc lv st N => ∃ (x i : Int) (o4 : Option xV), pc = 4 ∧ lv = [some (.inr 0), some (.inl v1), some (.inl x), some (.inl i), o4] ∧ st = [] ∧ M = N ∧ (0 ≤ i ∧ i ≤ M 1 v1) ∧ (0 ≤ x ∧ x < 1024) ∧ (∀ y, 0 ≤ y → y < 10 → (tb x y ↔ ∃ j, 0 ≤ j ∧ j < i ∧ M 7 (v1 * 6 + j) = y)) ∧ ∀ j k, 0 ≤ j → j < k → k < i → M 7 (v1 * 6 + j) ≠ M 7 (v1 * 6 + k)), (fun pc lv st N => match lv with | [_, _, _, some (.inl i), _] => (10 - i).toNat | _ => 0), 400, 400, Eq.mpr (vcX6_hasOnce_0 ..) ?_, ?_⟩
  · obtain ⟨hw, ht, hb, hp⟩ := h
    refine ⟨0, 0, none, rfl, rfl, rfl, rfl, ⟨by omega, (hw.2.1 v1 ht.1 ht.2).1⟩, by omega, fun y _ _ => ⟨fun q => (tb_0 y q).elim, ?_⟩, fun j k _ _ _ => by omega⟩
    rintro ⟨j, a, b, -⟩
    omega
  · obtain ⟨hw, ht, hb, hp⟩ := h
    rintro pc lv st N ⟨x, i, o4, rfl, rfl, rfl, rfl, h1, h2, h3, h4⟩
    refine Eq.mpr (vcX6_hasOnce_4 ..) ?_
    have hl := hw.2.1 v1 ht.1 ht.2
    refine ⟨ht, ⟨by omega, by omega⟩, ⟨by omega, by omega⟩, fun q => ⟨by omega, hp 1 (Or.inl ⟨rfl, fun j k a b c => h4 j k a b (by omega)⟩)⟩, fun q => ?_⟩
    rw [show 6 * v1 + i = v1 * 6 + i by omega]
    have hz := hb i h1.1 q
    have hbit := bs_bit (x := x) (i := M 7 (v1 * 6 + i)) ⟨by omega, by omega⟩ ⟨by omega, by omega⟩
    have ho := or1 (x := x) (h := M 7 (v1 * 6 + i)) 10 (by omega) ⟨h2.1, by rw [h1024]; omega⟩ ⟨by omega, by omega⟩
    rw [h1024] at ho
    generalize (xi (xi x >>> (xi (M 7 (v1 * 6 + i)) &&& 31)).toInt &&& xi 1).toInt = z at hbit ⊢
    refine ⟨⟨by omega, by omega⟩, ⟨by omega, by omega⟩, ⟨by omega, by omega⟩, fun q1 => ⟨⟨_, i + 1, _, rfl, rfl, rfl, rfl, by omega, ho.1, fun y a b => ?_, fun j k a b c => ?_⟩, by (change Int.toNat _ < Int.toNat _); omega⟩, fun q1 => ⟨by omega, hp 0 (Or.inr ⟨rfl, fun hd => ?_⟩)⟩⟩
    · rw [ho.2 y a, h3 y a b]
      constructor
      · rintro (⟨j, c, d, e⟩ | e)
        · exact ⟨j, c, by omega, e⟩
        · exact ⟨i, h1.1, by omega, e.symm⟩
      · rintro ⟨j, c, d, e⟩
        by_cases hj : j = i
        · subst hj; exact Or.inr e.symm
        · exact Or.inl ⟨j, c, by omega, e⟩
    · by_cases hk : k = i
      · subst hk
        intro e
        have : ¬ tb x (M 7 (v1 * 6 + k)) := hbit.elim (fun y => (q1 y.1).elim) (fun y => y.2)
        exact this ((h3 _ hz.1 hz.2).mpr ⟨j, a, b, e⟩)
      · exact h4 j k a b (by omega)
    · have : tb x (M 7 (v1 * 6 + i)) := hbit.elim (fun y => y.2) (fun y => by omega)
      obtain ⟨j, a, b, e⟩ := (h3 _ hz.1 hz.2).mp this
      exact hd j i a b q e
theorem k_X6_hasOnce {l : Launch} {D : va_G} {T : Nat → ClassId} {ad : Nat → Nat} (hO : xOk ad LM) : xMet l D T ad LM yX6_hasOnce cX6_hasOnce 5 (some .boolean) false 0 sp_X6_hasOnce :=
  xmet (rt := 2) (fld := fldX6) (cals := calX6_hasOnce) (cst := []) (I := iX6_hasOnce) (cut := cutX6_hasOnce) hO (by decide +kernel) ⟨by decide, by decide, by decide⟩ oX6_hasOnce foX6 (fun _ h => absurd h List.not_mem_nil) (fun _ h => absurd h List.not_mem_nil) b_X6_hasOnce

