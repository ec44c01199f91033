/-! Survey: addWays, make -/
def f_X3_addWays (x : Int) (M : xM) (Post : xR) : Prop := ∃ R, JN M R ∧ in10 R ∧ wT M ∧ (0 ≤ x ∧ x < 64) ∧ ∀ M' : xM, (∀ c, c ≠ 15 → M' c = M c) → (∀ a b d, 0 ≤ a → a < b → b < 6 → -1 ≤ d → d ≤ 9 → tb x a → tb x b → M' 15 ((a * 6 + b) * 11 + d + 1) = M 15 ((a * 6 + b) * 11 + d + 1) + (bb (isD R (M 5 a) (M 5 b) d) : Nat)) → (∀ j, M 15 j ≤ M' 15 j ∧ M' 15 j ≤ M 15 j + 1) → Post 0 M'
abbrev sp_X3_addWays : xT := spV1 12 f_X3_addWays
set_option maxRecDepth 100000 in
set_option maxHeartbeats 4000000 in
theorem b_X3_addWays (as : List xV) (M : xM) (Post : xR) (h : sp_X3_addWays as M Post) : as.length ≤ 4 ∧ ∃ (Inv : xG) (μ : Nat → xL → List xV → xM → Nat) (f0 f1 : Nat), xw LX fldX3 (calX3_addWays sp_X5_hasBit sp_X4_box sp_X1_way sp_X3_addToHeap) [] 0 Post iX3_addWays cutX3_addWays Inv f0 0 (xlv as 4) [] M ∧ ∀ pc lv st M', Inv pc lv st M' → xw LX fldX3 (calX3_addWays sp_X5_hasBit sp_X4_box sp_X1_way sp_X3_addToHeap) [] 0 Post iX3_addWays cutX3_addWays (fun pc2 lv2 st2 M2 => Inv pc2 lv2 st2 M2 ∧ μ pc2 lv2 st2 M2 < μ pc lv st M') f1 pc lv st M' := by
  obtain ⟨v1, rfl, h⟩ := h
  refine ⟨by simp, (fun pc lv st N => (∃ (R : Int → Int → Prop) (a : Int) (o3 : Option xV), pc = 2 ∧ lv = [some (.inr 12), some (.inl v1), some (.inl a), o3] ∧ st = [] ∧ JN M R ∧ in10 R ∧ (∀ M' : xM, (∀ c, c ≠ 15 → M' c = M c) → (∀ a b d, 0 ≤ a → a < b → b < 6 → -1 ≤ d → d ≤ 9 → tb v1 a → tb v1 b → M' 15 ((a * 6 + b) * 11 + d + 1) = M 15 ((a * 6 + b) * 11 + d + 1) + (bb (isD R (M 5 a) (M 5 b) d) : Nat)) → (∀ j, M 15 j ≤ M' 15 j ∧ M' 15 j ≤ M 15 j + 1) → Post 0 M') ∧ (0 ≤ a ∧ a ≤ 6) ∧ (∀ c, c ≠ 15 → N c = M c) ∧ (∀ u w d, 0 ≤ u → u < w → w < 6 → -1 ≤ d → d ≤ 9 → u < a → tb v1 u → tb v1 w → N 15 ((u * 6 + w) * 11 + d + 1) = M 15 ((u * 6 + w) * 11 + d + 1) + (bb (isD R (M 5 u) (M 5 w) d) : Nat)) ∧ (∀ u w d, 0 ≤ u → u < w → w < 6 → -1 ≤ d → d ≤ 9 → a ≤ u → N 15 ((u * 6 + w) * 11 + d + 1) = M 15 ((u * 6 + w) * 11 + d + 1)) ∧ ∀ j, M 15 j ≤ N 15 j ∧ N 15 j ≤ M 15 j + 1) ∨ (∃ (R : Int → Int → Prop) (a b : Int), pc = 12 ∧ lv = [some (.inr 12), some (.inl v1), some (.inl a), some (.inl b)] ∧ st = [] ∧ JN M R ∧ in10 R ∧ (∀ M' : xM, (∀ c, c ≠ 15 → M' c = M c) → (∀ a b d, 0 ≤ a → a < b → b < 6 → -1 ≤ d → d ≤ 9 → tb v1 a → tb v1 b → M' 15 ((a * 6 + b) * 11 + d + 1) = M 15 ((a * 6 + b) * 11 + d + 1) + (bb (isD R (M 5 a) (M 5 b) d) : Nat)) → (∀ j, M 15 j ≤ M' 15 j ∧ M' 15 j ≤ M 15 j + 1) → Post 0 M') ∧ (0 ≤ a ∧ a < 6) ∧ (a < b ∧ b ≤ 6) ∧ (∀ c, c ≠ 15 → N c = M c) ∧ (∀ u w d, 0 ≤ u → u < w → w < 6 → -1 ≤ d → d ≤ 9 → (u < a ∨ u = a ∧ w < b) → tb v1 u → tb v1 w → N 15 ((u * 6 + w) * 11 + d + 1) = M 15 ((u * 6 + w) * 11 + d + 1) + (bb (isD R (M 5 u) (M 5 w) d) : Nat)) ∧ (∀ u w d, 0 ≤ u → u < w → w < 6 → -1 ≤ d → d ≤ 9 → (a < u ∨ u = a ∧ b ≤ w) → N 15 ((u * 6 + w) * 11 + d + 1) = M 15 ((u * 6 + w) * 11 + d + 1)) ∧ ∀ j, M 15 j ≤ N 15 j ∧ N 15 j ≤ M 15 j + 1)), (fun pc lv st N => match pc, lv with | 2, [_, _, some (.inl a), _] => ((7 - a) * 100).toNat | 12, [_, _, some (.inl a), some (.inl b)] => ((6 - a) * 100 + 50 - b).toNat | _, _ => 0), 400, 400, Eq.mpr (vcX3_addWays_0 ..) ?_, ?_⟩
  · obtain ⟨R, hJ, hR, hT, hx, hp⟩ := h
    exact Or.inl ⟨R, 0, none, rfl, rfl, rfl, hJ, hR, hp, by omega, fun _ _ => rfl, fun u w d _ _ _ _ _ _ => by omega, fun _ _ _ _ _ _ _ _ _ => rfl, fun j => by omega⟩
  · obtain ⟨-, -, -, hT, hx, -⟩ := h
    rintro pc lv st N (⟨R, a, o3, rfl, rfl, rfl, hJ, hR, hp, h1, h2, h3, h4, h5⟩ | ⟨R, a, b, rfl, rfl, rfl, hJ, hR, hp, h1, h2, h3, h4, h5, h6⟩)
    · refine Eq.mpr (vcX3_addWays_2 ..) ?_
      refine ⟨⟨by omega, by omega⟩, ⟨by omega, by omega⟩, fun q => hp N h2 (fun u w d a1 a2 a3 a4 a5 => h3 u w d a1 a2 a3 a4 a5 (by omega)) h5, fun q => ⟨Or.inr ⟨R, a, a + 1, rfl, rfl, rfl, hJ, hR, hp, by omega, by omega, h2, fun u w d a1 a2 a3 a4 a5 a6 => h3 u w d a1 a2 a3 a4 a5 (by omega), fun u w d a1 a2 a3 a4 a5 a6 => h4 u w d a1 a2 a3 a4 a5 (by omega), h5⟩, by (change Int.toNat _ < Int.toNat _); omega⟩⟩
    · refine Eq.mpr (vcX3_addWays_12 ..) ?_
      have e5 : N 5 = M 5 := h3 5 (by decide)
      have e9 : N 9 = M 9 := h3 9 (by decide)
      have hJN : JN N R := by unfold JN wJ; rw [e9]; exact hJ
      have skip : (¬ tb v1 a ∨ ¬ tb v1 b) → ∀ u w d, 0 ≤ u → u < w → w < 6 → -1 ≤ d → d ≤ 9 → (u < a ∨ u = a ∧ w < b + 1) → tb v1 u → tb v1 w → N 15 ((u * 6 + w) * 11 + d + 1) = M 15 ((u * 6 + w) * 11 + d + 1) + (bb (isD R (M 5 u) (M 5 w) d) : Nat) := by
        intro hn u w d a1 a2 a3 a4 a5 a6 t1 t2
        refine h4 u w d a1 a2 a3 a4 a5 ?_ t1 t2
        apply Classical.byContradiction
        intro hz
        have hu : u = a := by omega
        have hwb : w = b := by omega
        subst hu; subst hwb
        rcases hn with z | z
        · exact z t1
        · exact z t2
      refine ⟨⟨by omega, by omega⟩, ⟨by omega, by omega⟩, fun q => ⟨Or.inl ⟨R, a + 1, _, rfl, rfl, rfl, hJ, hR, hp, by omega, h3, fun u w d a1 a2 a3 a4 a5 a6 => h4 u w d a1 a2 a3 a4 a5 (by omega), fun u w d a1 a2 a3 a4 a5 a6 => h5 u w d a1 a2 a3 a4 a5 (by omega), h6⟩, by (change Int.toNat _ < Int.toNat _); omega⟩, fun q => ⟨_, _, rfl, ⟨by omega, by omega⟩, ⟨by omega, by omega⟩, fun r1 hr1 => ⟨⟨by omega, by omega⟩, fun q1 => ⟨Or.inr ⟨R, a, b + 1, rfl, rfl, rfl, hJ, hR, hp, h1, by omega, h3, skip (Or.inl (hr1.elim (fun z => by omega) (fun z => z.2))), fun u w d a1 a2 a3 a4 a5 a6 => h5 u w d a1 a2 a3 a4 a5 (by omega), h6⟩, by (change Int.toNat _ < Int.toNat _); omega⟩, fun q1 => ⟨_, _, rfl, ⟨by omega, by omega⟩, ⟨by omega, by omega⟩, fun r2 hr2 => ⟨⟨by omega, by omega⟩, fun q2 => ⟨Or.inr ⟨R, a, b + 1, rfl, rfl, rfl, hJ, hR, hp, h1, by omega, h3, skip (Or.inr (hr2.elim (fun z => by omega) (fun z => z.2))), fun u w d a1 a2 a3 a4 a5 a6 => h5 u w d a1 a2 a3 a4 a5 (by omega), h6⟩, by (change Int.toNat _ < Int.toNat _); omega⟩, fun q2 => ⟨_, rfl, ⟨by omega, by omega⟩, _, rfl, ⟨by omega, by omega⟩, _, _, rfl, R, hJN, hR, ?_, ?_, fun d hd => ?_⟩⟩⟩⟩⟩⟩
      · rw [e5]; have := hT.1 a h1.1 h1.2; omega
      · rw [e5]; have := hT.1 b (by omega) q; omega
      · rw [e5] at hd
        have hdb : -1 ≤ d ∧ d ≤ 9 := by
          rcases hd with ⟨k, rfl, hk, _⟩ | ⟨rfl, _⟩ <;> omega
        refine ⟨_, _, _, rfl, h1, ⟨by omega, by omega⟩, hdb, ⟨Or.inr ⟨R, a, b + 1, rfl, rfl, rfl, hJ, hR, hp, h1, by omega, fun c hc => by rw [xup_ne hc]; exact h3 c hc, fun u w e a1 a2 a3 a4 a5 a6 t1 t2 => ?_, fun u w e a1 a2 a3 a4 a5 a6 => ?_, fun j => ?_⟩, by (change Int.toNat _ < Int.toNat _); omega⟩⟩
        · rw [xup_at]
          by_cases hub : u = a ∧ w = b
          · obtain ⟨rfl, rfl⟩ := hub
            by_cases hed : e = d
            · subst hed
              rw [if_pos rfl, bb1 hd, h5 u w e a1 a2 a3 a4 a5 (by omega)]
              rfl
            · rw [if_neg (by omega), bb0 (fun z => hed (isD_uniq z hd)), h5 u w e a1 a2 a3 a4 a5 (by omega)]
              exact (Int.add_zero _).symm
          · rw [if_neg (by omega)]
            exact h4 u w e a1 a2 a3 a4 a5 (by omega) t1 t2
        · rw [xup_at, if_neg (by omega)]
          exact h5 u w e a1 a2 a3 a4 a5 (by omega)
        · rw [xup_at]
          by_cases hj : j = (a * 6 + b) * 11 + d + 1
          · rw [if_pos hj, hj, h5 a b d h1.1 (by omega) q hdb.1 hdb.2 (by omega)]
            omega
          · rw [if_neg hj]; exact h6 j
theorem k_X3_addWays {l : Launch} {D : va_G} {T : Nat → ClassId} {ad : Nat → Nat} (hO : xOk ad LX) : xMet l D T ad LX yX3_addWays cX3_addWays 4 none true 2 sp_X3_addWays :=
  xmet (rt := 0) (fld := fldX3) (cals := (calX3_addWays sp_X5_hasBit sp_X4_box sp_X1_way sp_X3_addToHeap)) (cst := []) (I := iX3_addWays) (cut := cutX3_addWays) hO (by decide +kernel) ⟨by decide, by decide, by decide⟩ oX3_addWays foX3 (fun _ h => absurd h List.not_mem_nil) (List.forall_mem_cons.mpr ⟨⟨yX5_hasBit, cX5_hasBit, 2, (some .boolean), 0, 2, by decide, yoX5_hasBit, k_X5_hasBit hO, loX3_62, Or.inl ⟨rfl, rfl⟩⟩, List.forall_mem_cons.mpr ⟨⟨yX4_box, cX4_box, 2, (some .int), 0, 1, by decide, yoX4_box, k_X4_box hO, loX3_99, Or.inr ⟨rfl, rfl, 4, 4, [some 5, some 6, none], TX4, 3, rfl, rfl, spV1_r⟩⟩, List.forall_mem_cons.mpr ⟨⟨yX1_way, cX1_way, 7, (some .int), 1, 2, by decide, yoX1_way, k_X1_way hO, loX3_54, Or.inr ⟨rfl, rfl, 7, 1, [some 1, some 4, some 8, some 9], TX1, 4, rfl, rfl, spV2_r⟩⟩, List.forall_mem_cons.mpr ⟨⟨yX3_addToHeap, cX3_addToHeap, 5, none, 0, 3, by decide, yoX3_addToHeap, k_X3_addToHeap hO, loX3_104, Or.inr ⟨rfl, rfl, 12, 3, [some 1, some 4, some 7, some 10, some 13, some 14, some 15, none, none, none], TX3, 10, rfl, rfl, spV3_r⟩⟩, fun _ h => absurd h List.not_mem_nil⟩⟩⟩⟩) b_X3_addWays
/-- how many LEAST NETS have this distance -/
noncomputable def hpc (S : dS) (a b d : Int) : Int := ((cP (fun A => isD (Adj S all0 (plL S A)) (S.2.2.2 a) (S.2.2.2 b) d) (LNs S).2.2 : Nat) : Int)
noncomputable def gB (S : dS) (a b : Int) : Int := mxI (fun j => hpc S a b (j - 1)) 11
noncomputable def NXT (S : dS) : bSt := allB (nmS S) (gB S) 6
def svO (M : xM) (S : dS) : Prop := wV M ∧ (∀ x y, 0 ≤ x → x < 10 → 0 ≤ y → y < 10 → ((tb (M 13 x) y ↔ ∃ A ∈ (LNs S).2.2, Adj S all0 (plL S A) x y) ∧ (tb (M 14 x) y ↔ ∀ A ∈ (LNs S).2.2, Adj S all0 (plL S A) x y))) ∧ cbO M (NXT S)
theorem LN_kept (S : dS) : ∀ A ∈ (LNs S).2.2, A ∈ enm (thB S) (mS S) 0 ∧ Fit S A := by
  intro A hA
  have hk := fold_kept (Fit := Fit S) (nl := nlL S) (enm (thB S) (mS S) 0) init0 [] ⟨List.Sublist.refl _, fun B hB => by cases hB⟩
  rw [List.nil_append] at hk
  exact ⟨hk.1.subset hA, (hk.2 A hA).1⟩
theorem LN_369 {S : dS} (hw : wfS S) : (LNs S).2.2.length ≤ 369 := kept_le (mS_4 hw) (forb hw) (rest := []) (by rw [List.append_nil])
theorem take_mem {α : Type} {l : List α} {k : Nat} {A B : α} (hA : l[k]? = some A) : B ∈ l.take (k + 1) ↔ B ∈ l.take k ∨ B = A := by
  have hk := (List.getElem?_eq_some_iff.mp hA)
  rw [List.take_succ, hA]
  simp
theorem cP_take {P : List Int → Prop} {l : List (List Int)} {k : Nat} {A : List Int} (hA : l[k]? = some A) : cP P (l.take (k + 1)) = cP P (l.take k) + bb (P A) := by
  rw [List.take_succ, hA, cP_app]
  rfl
theorem cP_le (P : List Int → Prop) (l : List (List Int)) : cP P l ≤ l.length := by
  induction l with
  | nil => exact Nat.le_refl _
  | cons A l ih =>
    show bb (P A) + cP P l ≤ l.length + 1
    have := bb_le (P A)
    omega
theorem tb_1023 {y : Int} (h0 : 0 ≤ y) (h : y < 10) : tb 1023 y := by
  have := (tb_all (n := 10) (t := y) (by omega) h0).mpr h
  exact this

