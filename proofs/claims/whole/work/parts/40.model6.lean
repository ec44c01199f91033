/-! the reference: ones, lineMany -/
def f_X6_ones (s : Int) (M : xM) (Post : xR) : Prop := (0 ≤ s ∧ s < 64) ∧ Post (pop s) M
abbrev sp_X6_ones : xT := spS1 f_X6_ones
set_option maxRecDepth 100000 in
set_option maxHeartbeats 4000000 in
theorem b_X6_ones (as : List xV) (M : xM) (Post : xR) (h : sp_X6_ones as M Post) : as.length ≤ 3 ∧ ∃ (Inv : xG) (μ : Nat → xL → List xV → xM → Nat) (f0 f1 : Nat), xw LM fldX6 calX6_ones [] 1 Post iX6_ones cutX6_ones Inv f0 0 (xlv as 3) [] M ∧ ∀ pc lv st M', Inv pc lv st M' → xw LM fldX6 calX6_ones [] 1 Post iX6_ones cutX6_ones (fun pc2 lv2 st2 M2 => Inv pc2 lv2 st2 M2 ∧ μ pc2 lv2 st2 M2 < μ pc lv st M') f1 pc lv st M' := by
  obtain ⟨v0, rfl, h⟩ := h
  refine ⟨by simp, (fun pc lv st N => ∃ (t : Nat), pc = 4 ∧ lv = [some (.inl v0), some (.inl ((sm (fun i => bb (tb v0 (i : Int))) t : Nat) : Int)), some (.inl (t : Int))] ∧ st = [] ∧ M = N ∧ t ≤ 6), (fun pc lv st N => match lv with | [_, _, some (.inl t)] => (10 - t).toNat | _ => 0), 400, 400, Eq.mpr (vcX6_ones_0 ..) ?_, ?_⟩
  · exact ⟨0, rfl, rfl, rfl, rfl, by omega⟩
  · obtain ⟨hs, hp⟩ := h
    rintro pc lv st N ⟨t, rfl, rfl, rfl, rfl, h1⟩
    refine Eq.mpr (vcX6_ones_4 ..) ?_
    refine ⟨⟨by omega, by omega⟩, ⟨by omega, by omega⟩, fun q => ?_, fun q => ⟨⟨t + 1, rfl, ?_, rfl, rfl, by omega⟩, by (change Int.toNat _ < Int.toNat _); omega⟩⟩
    · rw [pop_6 hs (P := tb v0) (fun _ _ _ => Iff.rfl)] at hp
      rw [show t = 6 by omega]
      exact hp
    · have hb := bs_bit (x := v0) (i := (t : Int)) ⟨by omega, by omega⟩ ⟨by omega, by omega⟩
      rcases hb with ⟨e, z⟩ | ⟨e, z⟩
      · rw [e]
        simp only [sm, bb1 z]
        rfl
      · rw [e]
        simp only [sm, bb0 z, Nat.add_zero, Int.add_zero]
        rfl
theorem k_X6_ones {l : Launch} {D : va_G} {T : Nat → ClassId} {ad : Nat → Nat} (hO : xOk ad LM) : xMet l D T ad LM yX6_ones cX6_ones 3 (some .int) false 0 sp_X6_ones :=
  xmet (rt := 1) (fld := fldX6) (cals := calX6_ones) (cst := []) (I := iX6_ones) (cut := cutX6_ones) hO (by decide +kernel) ⟨by decide, by decide, by decide⟩ oX6_ones foX6 (fun _ h => absurd h List.not_mem_nil) (fun _ h => absurd h List.not_mem_nil) b_X6_ones
def f_X6_lineMany (M : xM) (Post : xR) : Prop := ∃ R : Int → Int → Prop, (∀ a b, 0 ≤ a → a < 10 → 0 ≤ b → b < 10 → (M 8 (10 * a + b) = 0 ∨ M 8 (10 * a + b) = 1) ∧ (M 8 (10 * a + b) ≠ 0 ↔ R a b)) ∧ Post ((nLn R 10 : Nat) : Int) M
abbrev sp_X6_lineMany : xT := spV0 0 f_X6_lineMany
set_option maxRecDepth 100000 in
set_option maxHeartbeats 4000000 in
theorem b_X6_lineMany (as : List xV) (M : xM) (Post : xR) (h : sp_X6_lineMany as M Post) : as.length ≤ 4 ∧ ∃ (Inv : xG) (μ : Nat → xL → List xV → xM → Nat) (f0 f1 : Nat), xw LM fldX6 calX6_lineMany [] 1 Post iX6_lineMany cutX6_lineMany Inv f0 0 (xlv as 4) [] M ∧ ∀ pc lv st M', Inv pc lv st M' → xw LM fldX6 calX6_lineMany [] 1 Post iX6_lineMany cutX6_lineMany (fun pc2 lv2 st2 M2 => Inv pc2 lv2 st2 M2 ∧ μ pc2 lv2 st2 M2 < μ pc lv st M') f1 pc lv st M' := by
  obtain ⟨rfl, h⟩ := h
  refine ⟨by simp, (fun pc lv st N => (∃ (R : Int → Int → Prop) (a : Nat) (o3 : Option xV), pc = 4 ∧ lv = [some (.inr 0), some (.inl ((nLn R a : Nat) : Int)), some (.inl (a : Int)), o3] ∧ st = [] ∧ M = N ∧ a ≤ 10 ∧ (∀ a b, 0 ≤ a → a < 10 → 0 ≤ b → b < 10 → (M 8 (10 * a + b) = 0 ∨ M 8 (10 * a + b) = 1) ∧ (M 8 (10 * a + b) ≠ 0 ↔ R a b)) ∧ Post ((nLn R 10 : Nat) : Int) M) ∨ (∃ (R : Int → Int → Prop) (a b : Nat), pc = 12 ∧ lv = [some (.inr 0), some (.inl ((nLn R a + sm (fun j => bb (R (a : Int) (j : Int))) b : Nat) : Int)), some (.inl (a : Int)), some (.inl (b : Int))] ∧ st = [] ∧ M = N ∧ a < 10 ∧ b ≤ a ∧ (∀ a b, 0 ≤ a → a < 10 → 0 ≤ b → b < 10 → (M 8 (10 * a + b) = 0 ∨ M 8 (10 * a + b) = 1) ∧ (M 8 (10 * a + b) ≠ 0 ↔ R a b)) ∧ Post ((nLn R 10 : Nat) : Int) M)), (fun pc lv st N => match pc, lv with | 4, [_, _, some (.inl a), _] => ((11 - a) * 100).toNat | 12, [_, _, some (.inl a), some (.inl b)] => ((10 - a) * 100 + 50 - b).toNat | _, _ => 0), 400, 400, Eq.mpr (vcX6_lineMany_0 ..) ?_, ?_⟩
  · obtain ⟨R, hR, hp⟩ := h
    exact Or.inl ⟨R, 0, none, rfl, rfl, rfl, rfl, by omega, hR, hp⟩
  · rintro pc lv st N (⟨R, a, o3, rfl, rfl, rfl, rfl, h1, hR, hp⟩ | ⟨R, a, b, rfl, rfl, rfl, rfl, h1, h2, hR, hp⟩)
    · refine Eq.mpr (vcX6_lineMany_4 ..) ?_
      refine ⟨⟨by omega, by omega⟩, ⟨by omega, by omega⟩, fun q => ?_, fun q => ⟨Or.inr ⟨R, a, 0, rfl, rfl, rfl, rfl, by omega, by omega, hR, hp⟩, by (change Int.toNat _ < Int.toNat _); omega⟩⟩
      rw [show a = 10 by omega]
      exact hp
    · refine Eq.mpr (vcX6_lineMany_12 ..) ?_
      refine ⟨⟨by omega, by omega⟩, ⟨by omega, by omega⟩, fun q => ⟨Or.inl ⟨R, a + 1, some (.inl (b : Int)), rfl, ?_, rfl, rfl, by omega, hR, hp⟩, by (change Int.toNat _ < Int.toNat _); omega⟩, fun q => ?_⟩
      · rw [show b = a by omega]
        rfl
      · have hr := hR a b (by omega) (by omega) (by omega) (by omega)
        refine ⟨⟨by omega, by omega⟩, ⟨by omega, by omega⟩, fun q1 => ⟨Or.inr ⟨R, a, b + 1, rfl, ?_, rfl, rfl, h1, by omega, hR, hp⟩, by (change Int.toNat _ < Int.toNat _); omega⟩, fun q1 => ⟨Or.inr ⟨R, a, b + 1, rfl, ?_, rfl, rfl, h1, by omega, hR, hp⟩, by (change Int.toNat _ < Int.toNat _); omega⟩⟩
        · have : ¬ R a b := fun z => hr.2.mpr z q1
          simp only [sm, bb0 this, Nat.add_zero, Int.add_zero]
          rfl
        · have : R a b := hr.2.mp q1
          simp only [sm, bb1 this]
          rfl
theorem k_X6_lineMany {l : Launch} {D : va_G} {T : Nat → ClassId} {ad : Nat → Nat} (hO : xOk ad LM) : xMet l D T ad LM yX6_lineMany cX6_lineMany 4 (some .int) false 0 sp_X6_lineMany :=
  xmet (rt := 1) (fld := fldX6) (cals := calX6_lineMany) (cst := []) (I := iX6_lineMany) (cut := cutX6_lineMany) hO (by decide +kernel) ⟨by decide, by decide, by decide⟩ oX6_lineMany foX6 (fun _ h => absurd h List.not_mem_nil) (fun _ h => absurd h List.not_mem_nil) b_X6_lineMany

