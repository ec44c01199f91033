/-! the reference: layPlaces -/
noncomputable def bsM (M : xM) (s : Int) : Nat → Int
  | 0 => 0
  | k + 1 => bsM M s k + (bb (tb s (k : Int)) : Nat) * cS (M 2) ((k : Int) * 6) (M 1 k).toNat
theorem bsM_step {M : xM} {s : Int} (k : Nat) : (tb s (k : Int) → bsM M s (k + 1) = bsM M s k + cS (M 2) ((k : Int) * 6) (M 1 k).toNat) ∧ (¬ tb s (k : Int) → bsM M s (k + 1) = bsM M s k) := by
  refine ⟨fun z => ?_, fun z => ?_⟩
  · simp only [bsM, bb1 z]; omega
  · simp only [bsM, bb0 z]; omega
theorem bsM_mono {M : xM} {s : Int} {j k : Nat} (h : j ≤ k) : 0 ≤ bsM M s j ∧ bsM M s j ≤ bsM M s k := by
  have up : ∀ n, bsM M s n ≤ bsM M s (n + 1) := fun n => by
    have := cS_b (M 2) ((n : Int) * 6) (M 1 n).toNat
    by_cases z : tb s (n : Int)
    · rw [(bsM_step n).1 z]; omega
    · rw [(bsM_step n).2 z]; omega
  have nn : ∀ n, 0 ≤ bsM M s n := by
    intro n
    induction n with
    | zero => exact Int.le_refl _
    | succ n ih => have := up n; omega
  refine ⟨nn j, ?_⟩
  induction k with
  | zero => rw [show j = 0 by omega]; omega
  | succ k ih =>
    by_cases hj : j = k + 1
    · rw [hj]; omega
    · have := ih (by omega)
      have := up k
      omega
noncomputable def ofM (M : xM) (s t : Int) : Int := bsM M s t.toNat
def f_X6_layPlaces (s : Int) (M : xM) (Post : xR) : Prop := wM M ∧ (0 ≤ s ∧ s < 64) ∧ bsM M s (M 0 0).toNat ≤ 4 ∧ ∀ M' : xM, (∀ c, c ≠ 7 → M' c = M c) → (∀ t i, 0 ≤ t → t < M 0 0 → tb s t → 0 ≤ i → i < M 1 t → M' 7 (t * 6 + i) = Pl (SM M) (M 6) (ofM M s) t i) → Post 0 M'
abbrev sp_X6_layPlaces : xT := spV1 0 f_X6_layPlaces
set_option maxRecDepth 100000 in
set_option maxHeartbeats 4000000 in
theorem b_X6_layPlaces (as : List xV) (M : xM) (Post : xR) (h : sp_X6_layPlaces as M Post) : as.length ≤ 6 ∧ ∃ (Inv : xG) (μ : Nat → xL → List xV → xM → Nat) (f0 f1 : Nat), xw LM fldX6 calX6_layPlaces [] 0 Post iX6_layPlaces cutX6_layPlaces Inv f0 0 (xlv as 6) [] M ∧ ∀ pc lv st M', Inv pc lv st M' → xw LM fldX6 calX6_layPlaces [] 0 Post iX6_layPlaces cutX6_layPlaces (fun pc2 lv2 st2 M2 => Inv pc2 lv2 st2 M2 ∧ μ pc2 lv2 st2 M2 < μ pc lv st M') f1 pc lv st M' := by
  obtain ⟨v1, rfl, h⟩ := h
  refine ⟨by simp, (fun pc lv st N => (∃ (t : Nat) (o4 o5 : Option xV), pc = 4 ∧ lv = [some (.inr 0), some (.inl v1), some (.inl (bsM M v1 t)), some (.inl (t : Int)), o4, o5] ∧ st = [] ∧ (t : Int) ≤ M 0 0 ∧ (∀ c, c ≠ 7 → N c = M c) ∧ ∀ u i, 0 ≤ u → u < (t : Int) → tb v1 u → 0 ≤ i → i < M 1 u → N 7 (u * 6 + i) = Pl (SM M) (M 6) (ofM M v1) u i) ∨ (∃ (t i : Nat) (o5 : Option xV), pc = 15 ∧ lv = [some (.inr 0), some (.inl v1), some (.inl (bsM M v1 t + cS (M 2) ((t : Int) * 6) i)), some (.inl (t : Int)), some (.inl (i : Int)), o5] ∧ st = [] ∧ (t : Int) < M 0 0 ∧ (i : Int) ≤ M 1 t ∧ (i = 0 ∨ tb v1 t) ∧ (∀ c, c ≠ 7 → N c = M c) ∧ (∀ u j, 0 ≤ u → u < (t : Int) → tb v1 u → 0 ≤ j → j < M 1 u → N 7 (u * 6 + j) = Pl (SM M) (M 6) (ofM M v1) u j) ∧ ∀ j, 0 ≤ j → j < (i : Int) → N 7 ((t : Int) * 6 + j) = Pl (SM M) (M 6) (ofM M v1) t j)), (fun pc lv st N => match pc, lv with | 4, [_, _, _, some (.inl t), _, _] => ((7 - t) * 100).toNat | 15, [_, _, _, some (.inl t), some (.inl i), _] => ((6 - t) * 100 + 50 - i).toNat | _, _ => 0), 400, 400, Eq.mpr (vcX6_layPlaces_0 ..) ?_, ?_⟩
  · obtain ⟨hw, hs, h4, hp⟩ := h
    exact Or.inl ⟨0, none, none, rfl, rfl, rfl, hw.1.1, fun _ _ => rfl, fun u i _ _ => by omega⟩
  · obtain ⟨hw, hs, h4, hp⟩ := h
    have hn := hw.1
    rintro pc lv st N (⟨t, o4, o5, rfl, rfl, rfl, a1, a2, a3⟩ | ⟨t, i, o5, rfl, rfl, rfl, a1, a2, a3, a4, a5, a6⟩)
    · refine Eq.mpr (vcX6_layPlaces_4 ..) ?_
      rw [a2 0 (by decide)]
      refine ⟨⟨by omega, by omega⟩, ⟨by omega, by omega⟩, fun q => hp N a2 (fun u i z1 z2 => a3 u i z1 (by omega)), fun q => ⟨Or.inr ⟨t, 0, o5, rfl, ?_, rfl, q, (hw.2.1 t (by omega) (by omega)).1, Or.inl rfl, a2, a3, fun j _ _ => by omega⟩, by (change Int.toNat _ < Int.toNat _); omega⟩⟩
      show _ = ([some (.inr 0), some (.inl v1), some (.inl (bsM M v1 t + 0)), some (.inl (t : Int)), some (.inl 0), o5] : xL)
      rw [Int.add_zero]
    · refine Eq.mpr (vcX6_layPlaces_15 ..) ?_
      have hl := hw.2.1 t (by omega) (by omega)
      have hbit := bs_bit (x := v1) (i := (t : Int)) ⟨by omega, by omega⟩ ⟨by omega, by omega⟩
      generalize (xi (xi v1 >>> (xi (t : Int) &&& 31)).toInt &&& xi 1).toInt = z at hbit ⊢
      rw [a4 1 (by decide), a4 2 (by decide), a4 4 (by decide), a4 6 (by decide), show 6 * (t : Int) + (i : Int) = (t : Int) * 6 + (i : Int) by omega]
      have nx4 : ((i : Int) = M 1 t ∨ ¬ tb v1 t ∧ i = 0) → ∃ (t' : Nat) (o4' o5' : Option xV), (4 : Nat) = 4 ∧ ([some (.inr 0), some (.inl v1), some (.inl (bsM M v1 t + cS (M 2) ((t : Int) * 6) i)), some (.inl ((t : Int) + 1)), some (.inl (i : Int)), o5] : xL) = [some (.inr 0), some (.inl v1), some (.inl (bsM M v1 t')), some (.inl (t' : Int)), o4', o5'] ∧ ([] : List xV) = [] ∧ (t' : Int) ≤ M 0 0 ∧ (∀ c, c ≠ 7 → N c = M c) ∧ ∀ u i, 0 ≤ u → u < (t' : Int) → tb v1 u → 0 ≤ i → i < M 1 u → N 7 (u * 6 + i) = Pl (SM M) (M 6) (ofM M v1) u i := by
        intro hc
        refine ⟨t + 1, some (.inl (i : Int)), o5, rfl, ?_, rfl, by omega, a4, fun u j z1 z2 z3 z4 z5 => ?_⟩
        · have : bsM M v1 t + cS (M 2) ((t : Int) * 6) i = bsM M v1 (t + 1) := by
            by_cases zt : tb v1 t
            · rw [(bsM_step t).1 zt]
              rcases hc with y | y
              · rw [show (M 1 t).toNat = i by omega]
              · exact (y.1 zt).elim
            · have hi0 : i = 0 := by
                rcases a3 with y | y
                · exact y
                · exact (zt y).elim
              rw [(bsM_step t).2 zt, hi0]
              show _ + 0 = _
              omega
          rw [this]
          rfl
        · by_cases hu : u = t
          · subst hu
            rcases hc with y | y
            · exact a6 j z4 (by omega)
            · exact (y.1 z3).elim
          · exact a5 u j z1 (by omega) z3 z4 z5
      refine ⟨⟨by omega, by omega⟩, ⟨by omega, by omega⟩, ⟨by omega, by omega⟩, fun q => ⟨Or.inl (nx4 (Or.inl (by omega))), by (change Int.toNat _ < Int.toNat _); omega⟩, fun q => ⟨⟨by omega, by omega⟩, ⟨by omega, by omega⟩, fun q1 => ?_, fun q1 => ?_⟩⟩
      · have nt : ¬ tb v1 t := hbit.elim (fun y => (q1 y.1).elim) (fun y => y.2)
        exact ⟨Or.inl (nx4 (Or.inr ⟨nt, a3.elim id (fun y => (nt y).elim)⟩)), by (change Int.toNat _ < Int.toNat _); omega⟩
      · have htb : tb v1 t := hbit.elim (fun y => y.2) (fun y => by omega)
        have hh := hw.2.2.1 ((t : Int) * 6 + i) (by omega) (by omega)
        have nx : ∀ (v w : Int) (o : Option xV), v = bsM M v1 t + cS (M 2) ((t : Int) * 6) (i + 1) → w = Pl (SM M) (M 6) (ofM M v1) t i → ∃ (t' i' : Nat) (o5' : Option xV), (15 : Nat) = 15 ∧ ([some (.inr 0), some (.inl v1), some (.inl v), some (.inl (t : Int)), some (.inl ((i : Int) + 1)), o] : xL) = [some (.inr 0), some (.inl v1), some (.inl (bsM M v1 t' + cS (M 2) ((t' : Int) * 6) i')), some (.inl (t' : Int)), some (.inl (i' : Int)), o5'] ∧ ([] : List xV) = [] ∧ (t' : Int) < M 0 0 ∧ (i' : Int) ≤ M 1 t' ∧ (i' = 0 ∨ tb v1 t') ∧ (∀ c, c ≠ 7 → (xup N 7 ((t : Int) * 6 + i) w) c = M c) ∧ (∀ u j, 0 ≤ u → u < (t' : Int) → tb v1 u → 0 ≤ j → j < M 1 u → (xup N 7 ((t : Int) * 6 + i) w) 7 (u * 6 + j) = Pl (SM M) (M 6) (ofM M v1) u j) ∧ ∀ j, 0 ≤ j → j < (i' : Int) → (xup N 7 ((t : Int) * 6 + i) w) 7 ((t' : Int) * 6 + j) = Pl (SM M) (M 6) (ofM M v1) t' j := by
          intro v w o hv hw'
          refine ⟨t, i + 1, o, rfl, by rw [hv]; rfl, rfl, a1, by omega, Or.inr htb, fun c hc => by rw [xup_ne hc]; exact a4 c hc, fun u j z1 z2 z3 z4 z5 => ?_, fun j z1 z2 => ?_⟩
          · have := hw.2.1 u z1 (by omega)
            rw [xup_at, if_neg (by omega)]; exact a5 u j z1 z2 z3 z4 z5
          · rw [xup_at]
            by_cases hj : j = i
            · rw [if_pos (by omega), hj]; exact hw'
            · rw [if_neg (by omega)]; exact a6 j z1 (by omega)
        refine ⟨⟨by omega, by omega⟩, ⟨by omega, by omega⟩, ⟨by omega, by omega⟩, fun q2 => ⟨⟨by omega, by omega⟩, ⟨by omega, by omega⟩, ⟨by omega, by omega⟩, ⟨by omega, by omega⟩, fun _ => ⟨Or.inr (nx _ _ _ (by simp only [cS, if_neg q2]; omega) (Pl_nm (S := SM M) (by exact q2)).symm), by (change Int.toNat _ < Int.toNat _); omega⟩, fun y => (q2 y).elim⟩, fun q2 => ⟨?_, ⟨by omega, by omega⟩, ⟨by omega, by omega⟩, ⟨by omega, by omega⟩, fun y => (y q2).elim, fun _ => ⟨Or.inr (nx _ _ _ (by simp only [cS, if_pos q2]; omega) ?_), by (change Int.toNat _ < Int.toNat _); omega⟩⟩⟩
        · have m1 := bsM_mono (M := M) (s := v1) (j := t) (k := (M 0 0).toNat) (by omega)
          have m2 := bsM_mono (M := M) (s := v1) (j := t + 1) (k := (M 0 0).toNat) (by omega)
          rw [(bsM_step t).1 htb] at m2
          have c0 := cS_b (M 2) ((t : Int) * 6) i
          have c1 : cS (M 2) ((t : Int) * 6) (i + 1) ≤ cS (M 2) ((t : Int) * 6) (M 1 t).toNat := cS_mono _ _ (by omega)
          simp only [cS, if_pos q2] at c1
          omega
        · have := Pl_sil (S := SM M) (A := M 6) (off := ofM M v1) (t := t) (i := i) q2
          rw [this]
          rfl
theorem k_X6_layPlaces {l : Launch} {D : va_G} {T : Nat → ClassId} {ad : Nat → Nat} (hO : xOk ad LM) : xMet l D T ad LM yX6_layPlaces cX6_layPlaces 6 none true 0 sp_X6_layPlaces :=
  xmet (rt := 0) (fld := fldX6) (cals := calX6_layPlaces) (cst := []) (I := iX6_layPlaces) (cut := cutX6_layPlaces) hO (by decide +kernel) ⟨by decide, by decide, by decide⟩ oX6_layPlaces foX6 (fun _ h => absurd h List.not_mem_nil) (fun _ h => absurd h List.not_mem_nil) b_X6_layPlaces

