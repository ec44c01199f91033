/-! the reference: keep -/
def f_X6_keep (M : xM) (Post : xR) : Prop := wM M ∧ (0 ≤ M 0 13 ∧ M 0 13 < 5000) ∧ (0 ≤ M 0 12 ∧ M 0 12 ≤ 4) ∧ (∀ a b, 0 ≤ a → a < 10 → 0 ≤ b → b < 10 → (M 8 (10 * a + b) = 0 ∨ M 8 (10 * a + b) = 1) ∧ 0 ≤ M 9 (10 * a + b) ∧ M 9 (10 * a + b) ≤ 100) ∧ ∀ M' : xM, (∀ c, c ≠ 0 → c ≠ 10 → c ≠ 11 → c ≠ 12 → M' c = M c) → (∀ k, k ≠ 13 → M' 0 k = M 0 k) → M' 0 13 = M 0 13 + 1 → (∀ q, q < 4 * M 0 13 → M' 10 q = M 10 q) → (∀ i, 0 ≤ i → i < M 0 12 → M' 10 (4 * M 0 13 + i) = M 6 i) → (∀ q, q < 36 * M 0 13 → M' 11 q = M 11 q ∧ M' 12 q = M 12 q) → (∀ a b, 0 ≤ a → a < 6 → 0 ≤ b → b < 6 → M' 11 (36 * M 0 13 + 6 * a + b) = (if M 9 (10 * M 4 a + M 4 b) < 100 then M 9 (10 * M 4 a + M 4 b) else -1) ∧ M' 12 (36 * M 0 13 + 6 * a + b) = M 8 (10 * M 4 a + M 4 b)) → Post 0 M'
abbrev sp_X6_keep : xT := spV0 0 f_X6_keep
set_option maxRecDepth 100000 in
set_option maxHeartbeats 4000000 in
theorem b_X6_keep (as : List xV) (M : xM) (Post : xR) (h : sp_X6_keep as M Post) : as.length ≤ 3 ∧ ∃ (Inv : xG) (μ : Nat → xL → List xV → xM → Nat) (f0 f1 : Nat), xw LM fldX6 calX6_keep [] 0 Post iX6_keep cutX6_keep Inv f0 0 (xlv as 3) [] M ∧ ∀ pc lv st M', Inv pc lv st M' → xw LM fldX6 calX6_keep [] 0 Post iX6_keep cutX6_keep (fun pc2 lv2 st2 M2 => Inv pc2 lv2 st2 M2 ∧ μ pc2 lv2 st2 M2 < μ pc lv st M') f1 pc lv st M' := by
  obtain ⟨rfl, h⟩ := h
  refine ⟨by simp, (fun pc lv st N => (∃ (i : Int) (o2 : Option xV), pc = 2 ∧ lv = [some (.inr 0), some (.inl i), o2] ∧ st = [] ∧ (0 ≤ i ∧ i ≤ 4) ∧ (∀ c, c ≠ 10 → N c = M c) ∧ (∀ q, q < 4 * M 0 13 → N 10 q = M 10 q) ∧ ∀ j, 0 ≤ j → j < i → j < M 0 12 → N 10 (4 * M 0 13 + j) = M 6 j) ∨ (∃ (k : Int) (o2 : Option xV), pc = 46 ∧ lv = [some (.inr 0), some (.inl k), o2] ∧ st = [] ∧ (0 ≤ k ∧ k ≤ 36) ∧ (∀ c, c ≠ 10 → c ≠ 11 → c ≠ 12 → N c = M c) ∧ (∀ q, q < 4 * M 0 13 → N 10 q = M 10 q) ∧ (∀ j, 0 ≤ j → j < M 0 12 → N 10 (4 * M 0 13 + j) = M 6 j) ∧ (∀ q, q < 36 * M 0 13 → N 11 q = M 11 q ∧ N 12 q = M 12 q) ∧ ∀ a b, 0 ≤ a → a < 6 → 0 ≤ b → b < 6 → 6 * a + b < k → N 11 (36 * M 0 13 + 6 * a + b) = (if M 9 (10 * M 4 a + M 4 b) < 100 then M 9 (10 * M 4 a + M 4 b) else -1) ∧ N 12 (36 * M 0 13 + 6 * a + b) = M 8 (10 * M 4 a + M 4 b))), (fun pc lv st N => match pc, lv with | 2, [_, some (.inl i), _] => (100 - i).toNat | 46, [_, some (.inl k), _] => (50 - k).toNat | _, _ => 0), 400, 400, Eq.mpr (vcX6_keep_0 ..) ?_, ?_⟩
  · exact Or.inl ⟨0, none, rfl, rfl, rfl, by omega, fun _ _ => rfl, fun _ _ => rfl, fun j _ _ => by omega⟩
  · obtain ⟨hw, hn, hm, hb, hp⟩ := h
    rintro pc lv st N (⟨i, o2, rfl, rfl, rfl, a1, a2, a3, a4⟩ | ⟨k, o2, rfl, rfl, rfl, a1, a2, a3, a4, a5, a6⟩)
    · refine Eq.mpr (vcX6_keep_2 ..) ?_
      rw [a2 0 (by decide), a2 6 (by decide)]
      refine ⟨⟨by omega, by omega⟩, ⟨by omega, by omega⟩, fun q => ⟨Or.inr ⟨0, o2, rfl, rfl, rfl, by omega, fun c h10 _ _ => a2 c h10, a3, fun j j0 j1 => a4 j j0 (by omega) j1, fun q _ => ⟨by rw [a2 11 (by decide)], by rw [a2 12 (by decide)]⟩, fun a b _ _ _ _ _ => by omega⟩, by (change Int.toNat _ < Int.toNat _); omega⟩, fun q => ?_⟩
      have nx : ∀ v : Int, (i < M 0 12 → v = M 6 i) → ∃ (i' : Int) (o2' : Option xV), (2 : Nat) = 2 ∧ ([some (.inr 0), some (.inl (i + 1)), o2] : xL) = [some (.inr 0), some (.inl i'), o2'] ∧ ([] : List xV) = [] ∧ (0 ≤ i' ∧ i' ≤ 4) ∧ (∀ c, c ≠ 10 → (xup N 10 (4 * M 0 13 + i) v) c = M c) ∧ (∀ q, q < 4 * M 0 13 → (xup N 10 (4 * M 0 13 + i) v) 10 q = M 10 q) ∧ ∀ j, 0 ≤ j → j < i' → j < M 0 12 → (xup N 10 (4 * M 0 13 + i) v) 10 (4 * M 0 13 + j) = M 6 j := by
        intro v hv
        refine ⟨i + 1, o2, rfl, rfl, rfl, by omega, fun c hc => by rw [xup_ne hc]; exact a2 c hc, fun u hu => by rw [xup_at, if_neg (by omega)]; exact a3 u hu, fun j j0 j1 j2 => ?_⟩
        rw [xup_at]
        by_cases hj : j = i
        · rw [if_pos (by omega), hv (by omega), hj]
        · rw [if_neg (by omega)]
          exact a4 j j0 (by omega) j2
      refine ⟨⟨by omega, by omega⟩, ⟨by omega, by omega⟩, fun q1 => ⟨⟨by omega, by omega⟩, Or.inl (nx _ (fun z => by omega)), by (change Int.toNat _ < Int.toNat _); omega⟩, fun q1 => ⟨⟨by omega, by omega⟩, ⟨by omega, by omega⟩, Or.inl (nx _ (fun _ => rfl)), by (change Int.toNat _ < Int.toNat _); omega⟩⟩
    · refine Eq.mpr (vcX6_keep_46 ..) ?_
      have e0 : N 0 = M 0 := a2 0 (by decide) (by decide) (by decide)
      have e4 : N 4 = M 4 := a2 4 (by decide) (by decide) (by decide)
      have e8 : N 8 = M 8 := a2 8 (by decide) (by decide) (by decide)
      have e9 : N 9 = M 9 := a2 9 (by decide) (by decide) (by decide)
      have x0 : ∀ q v, (xup N 11 q v) 0 = M 0 := fun q v => by rw [xup_ne (by decide)]; exact e0
      have x8 : ∀ q v, (xup N 11 q v) 8 = M 8 := fun q v => by rw [xup_ne (by decide)]; exact e8
      rw [e0, e4, e9, x0, x8, x0, x8]
      refine ⟨⟨by omega, by omega⟩, ⟨by omega, by omega⟩, fun q => ?_, fun q => ?_⟩
      · refine hp _ (fun c c0 c1 c2 c3 => by rw [xup_ne c0]; exact a2 c c1 c2 c3) (fun k hk => by rw [xup_at, if_neg hk, e0]) (by rw [xup_at, if_pos rfl]) (fun u hu => by rw [xup_ne (by decide)]; exact a3 u hu) (fun i i0 i1 => by rw [xup_ne (by decide)]; exact a4 i i0 i1) (fun u hu => by rw [xup_ne (by decide), xup_ne (by decide)]; exact a5 u hu) (fun a b b0 b1 b2 b3 => by rw [xup_ne (by decide), xup_ne (by decide)]; exact a6 a b b0 b1 b2 b3 (by omega))
      · have ha : 0 ≤ k / 6 ∧ k / 6 < 6 := by omega
        have hb' : 0 ≤ k % 6 ∧ k % 6 < 6 := by omega
        have hab : 6 * (k / 6) + k % 6 = k := by omega
        generalize k / 6 = a at ha hab ⊢
        generalize k % 6 = b at hb' hab ⊢
        have ba := hw.2.2.2.2.2 a ha.1 ha.2
        have bb' := hw.2.2.2.2.2 b hb'.1 hb'.2
        have hv := hb (M 4 a) (M 4 b) (by omega) (by omega) (by omega) (by omega)
        have nx : ∀ v : Int, v = (if M 9 (10 * M 4 a + M 4 b) < 100 then M 9 (10 * M 4 a + M 4 b) else -1) → ∃ (k' : Int) (o2' : Option xV), (46 : Nat) = 46 ∧ ([some (.inr 0), some (.inl (k + 1)), some (.inl (10 * M 4 a + M 4 b))] : xL) = [some (.inr 0), some (.inl k'), o2'] ∧ ([] : List xV) = [] ∧ (0 ≤ k' ∧ k' ≤ 36) ∧ (∀ c, c ≠ 10 → c ≠ 11 → c ≠ 12 → (xup (xup N 11 (36 * M 0 13 + k) v) 12 (36 * M 0 13 + k) (M 8 (10 * M 4 a + M 4 b))) c = M c) ∧ (∀ q, q < 4 * M 0 13 → (xup (xup N 11 (36 * M 0 13 + k) v) 12 (36 * M 0 13 + k) (M 8 (10 * M 4 a + M 4 b))) 10 q = M 10 q) ∧ (∀ j, 0 ≤ j → j < M 0 12 → (xup (xup N 11 (36 * M 0 13 + k) v) 12 (36 * M 0 13 + k) (M 8 (10 * M 4 a + M 4 b))) 10 (4 * M 0 13 + j) = M 6 j) ∧ (∀ q, q < 36 * M 0 13 → (xup (xup N 11 (36 * M 0 13 + k) v) 12 (36 * M 0 13 + k) (M 8 (10 * M 4 a + M 4 b))) 11 q = M 11 q ∧ (xup (xup N 11 (36 * M 0 13 + k) v) 12 (36 * M 0 13 + k) (M 8 (10 * M 4 a + M 4 b))) 12 q = M 12 q) ∧ ∀ x y, 0 ≤ x → x < 6 → 0 ≤ y → y < 6 → 6 * x + y < k' → (xup (xup N 11 (36 * M 0 13 + k) v) 12 (36 * M 0 13 + k) (M 8 (10 * M 4 a + M 4 b))) 11 (36 * M 0 13 + 6 * x + y) = (if M 9 (10 * M 4 x + M 4 y) < 100 then M 9 (10 * M 4 x + M 4 y) else -1) ∧ (xup (xup N 11 (36 * M 0 13 + k) v) 12 (36 * M 0 13 + k) (M 8 (10 * M 4 a + M 4 b))) 12 (36 * M 0 13 + 6 * x + y) = M 8 (10 * M 4 x + M 4 y) := by
          intro v hv
          refine ⟨k + 1, _, rfl, rfl, rfl, by omega, fun c c1 c2 c3 => by rw [xup_ne c3, xup_ne c2]; exact a2 c c1 c2 c3, fun u hu => by rw [xup_ne (by decide), xup_ne (by decide)]; exact a3 u hu, fun j j0 j1 => by rw [xup_ne (by decide), xup_ne (by decide)]; exact a4 j j0 j1, fun u hu => ?_, fun x y x0 x1 y0 y1 hxy => ?_⟩
          · have := a5 u hu
            rw [xup_ne (c' := 11) (by decide), xup_at, if_neg (by omega), xup_at, if_neg (by omega), xup_ne (by decide)]
            exact this
          · rw [xup_ne (c' := 11) (by decide), xup_at, xup_at, xup_ne (c' := 12) (by decide)]
            by_cases hq : 6 * x + y = k
            · have hx : x = a := by omega
              have hy : y = b := by omega
              subst hx
              subst hy
              refine ⟨?_, ?_⟩
              · rw [if_pos (by omega)]; exact hv
              · rw [if_pos (by omega)]
            · have := a6 x y x0 x1 y0 y1 (by omega)
              refine ⟨?_, ?_⟩
              · rw [if_neg (by omega)]; exact this.1
              · rw [if_neg (by omega)]; exact this.2
        refine ⟨by omega, by omega, by omega, by omega, by omega, ⟨by omega, by omega⟩, ⟨by omega, by omega⟩, fun q1 => ⟨by omega, by omega, by omega, hv.1, Or.inr (nx _ (by rw [if_neg (by omega)])), by (change Int.toNat _ < Int.toNat _); omega⟩, fun q1 => ⟨by omega, by omega, by omega, by omega, hv.1, Or.inr (nx _ (by rw [if_pos q1])), by (change Int.toNat _ < Int.toNat _); omega⟩⟩
theorem k_X6_keep {l : Launch} {D : va_G} {T : Nat → ClassId} {ad : Nat → Nat} (hO : xOk ad LM) : xMet l D T ad LM yX6_keep cX6_keep 3 none true 0 sp_X6_keep :=
  xmet (rt := 0) (fld := fldX6) (cals := calX6_keep) (cst := []) (I := iX6_keep) (cut := cutX6_keep) hO (by decide +kernel) ⟨by decide, by decide, by decide⟩ oX6_keep foX6 (fun _ h => absurd h List.not_mem_nil) (fun _ h => absurd h List.not_mem_nil) b_X6_keep

