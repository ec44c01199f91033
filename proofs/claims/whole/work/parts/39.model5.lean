/-! the reference: tell -/
def ap01 (M : xM) : Prop := ∀ k, 0 ≤ k → k < 36 → M 5 k = 0 ∨ M 5 k = 1
def apM (M : xM) (a b : Int) : Prop := ∃ x y : Int, 0 ≤ x ∧ x < 6 ∧ 0 ≤ y ∧ y < 6 ∧ M 4 x = M 4 a ∧ M 4 y = M 4 b ∧ M 5 (6 * x + y) ≠ 0
def f_X6_tell (a b one : Int) (M : xM) (Post : xR) : Prop := rg a ∧ rg b ∧ rg one ∧ wM M ∧ ap01 M ∧ (¬ okT a b → Post (-2) M) ∧ (okT a b → one ≠ 0 → M 4 a = M 4 b → Post (-3) M) ∧ (okT a b → one ≠ 0 → M 4 a ≠ M 4 b → apM M a b → Post (-4) M) ∧ (okT a b → one = 0 → M 5 (6 * a + b) ≠ 0 → Post (-3) M) ∧ (okT a b → one = 0 → M 5 (6 * a + b) = 0 → M 4 a = M 4 b → Post (-4) M) ∧ (okT a b → one ≠ 0 → M 4 a ≠ M 4 b → ¬ apM M a b → ∀ M' : xM, (∀ k, k ≠ 7 → M' 0 k = M 0 k) → M' 0 7 = M 0 7 + 1 → (∀ n, 0 ≤ n → n < 6 → M' 4 n = if M 4 n = M 4 a ∨ M 4 n = M 4 b then min (M 4 a) (M 4 b) else M 4 n) → (∀ c, c ≠ 0 → c ≠ 4 → M' c = M c) → Post 1 M') ∧ (okT a b → one = 0 → M 5 (6 * a + b) = 0 → M 4 a ≠ M 4 b → Post 1 (xup (xup (xup M 0 7 (M 0 7 + 1)) 5 (6 * a + b) 1) 5 (6 * b + a) 1))
abbrev sp_X6_tell : xT := spV3 0 f_X6_tell
set_option maxRecDepth 100000 in
set_option maxHeartbeats 4000000 in
theorem b_X6_tell (as : List xV) (M : xM) (Post : xR) (h : sp_X6_tell as M Post) : as.length ≤ 8 ∧ ∃ (Inv : xG) (μ : Nat → xL → List xV → xM → Nat) (f0 f1 : Nat), xw LM fldX6 (calX6_tell sp_X6_isName) [] 1 Post iX6_tell cutX6_tell Inv f0 0 (xlv as 8) [] M ∧ ∀ pc lv st M', Inv pc lv st M' → xw LM fldX6 (calX6_tell sp_X6_isName) [] 1 Post iX6_tell cutX6_tell (fun pc2 lv2 st2 M2 => Inv pc2 lv2 st2 M2 ∧ μ pc2 lv2 st2 M2 < μ pc lv st M') f1 pc lv st M' := by
  obtain ⟨v1, v2, v3, rfl, h⟩ := h
  refine ⟨by simp, (fun pc lv st N => (∃ (w x : Int) (o6 o7 : Option xV), pc = 90 ∧ lv = [some (.inr 0), some (.inl v1), some (.inl v2), some (.inl v3), some (.inl w), some (.inl x), o6, o7] ∧ st = [] ∧ M = N ∧ okT v1 v2 ∧ (0 ≤ x ∧ x ≤ 6) ∧ (w = 0 ∨ w = 1) ∧ (v3 = 0 → M 5 (6 * v1 + v2) = 0 ∧ (w = 1 ↔ M 4 v1 = M 4 v2)) ∧ (v3 ≠ 0 → M 4 v1 ≠ M 4 v2 ∧ (w = 1 ↔ ∃ c d : Int, 0 ≤ c ∧ c < x ∧ 0 ≤ d ∧ d < 6 ∧ M 4 c = M 4 v1 ∧ M 4 d = M 4 v2 ∧ M 5 (6 * c + d) ≠ 0))) ∨ (∃ (w x y : Int) (o7 : Option xV), pc = 104 ∧ lv = [some (.inr 0), some (.inl v1), some (.inl v2), some (.inl v3), some (.inl w), some (.inl x), some (.inl y), o7] ∧ st = [] ∧ M = N ∧ okT v1 v2 ∧ (0 ≤ x ∧ x < 6) ∧ (0 ≤ y ∧ y ≤ 6) ∧ (w = 0 ∨ w = 1) ∧ v3 ≠ 0 ∧ M 4 v1 ≠ M 4 v2 ∧ (w = 1 ↔ (∃ c d : Int, 0 ≤ c ∧ c < x ∧ 0 ≤ d ∧ d < 6 ∧ M 4 c = M 4 v1 ∧ M 4 d = M 4 v2 ∧ M 5 (6 * c + d) ≠ 0) ∨ ∃ d : Int, 0 ≤ d ∧ d < y ∧ M 4 x = M 4 v1 ∧ M 4 d = M 4 v2 ∧ M 5 (6 * x + d) ≠ 0)) ∨ (∃ (w n : Int), pc = 224 ∧ lv = [some (.inr 0), some (.inl v1), some (.inl v2), some (.inl v3), some (.inl w), some (.inl (M 4 v1)), some (.inl (M 4 v2)), some (.inl n)] ∧ st = [] ∧ okT v1 v2 ∧ v3 ≠ 0 ∧ M 4 v1 ≠ M 4 v2 ∧ ¬ apM M v1 v2 ∧ (0 ≤ n ∧ n ≤ 6) ∧ (∀ k, k ≠ 7 → N 0 k = M 0 k) ∧ N 0 7 = M 0 7 + 1 ∧ (∀ k, 0 ≤ k → k < n → N 4 k = if M 4 k = M 4 v1 ∨ M 4 k = M 4 v2 then min (M 4 v1) (M 4 v2) else M 4 k) ∧ (∀ k, n ≤ k → k < 6 → N 4 k = M 4 k) ∧ ∀ c, c ≠ 0 → c ≠ 4 → N c = M c)), (fun pc lv st N => match pc, lv with | 90, [_, _, _, _, _, some (.inl x), _, _] => ((17 - x) * 100).toNat | 104, [_, _, _, _, _, some (.inl x), some (.inl y), _] => ((16 - x) * 100 + 50 - y).toNat | 224, [_, _, _, _, _, _, _, some (.inl n)] => (100 - n).toNat | _, _ => 0), 400, 400, Eq.mpr (vcX6_tell_0 ..) ?_, ?_⟩
  · obtain ⟨h1, h2, h3, hw, h01, p1, p2, p3, p4, p5, p6, p7⟩ := h
    refine ⟨_, rfl, h1, fun r1 hr1 => ⟨⟨by omega, by omega⟩, fun q1 => p1 (fun z => by have := z.1; omega), fun q1 => ⟨_, rfl, h2, fun r2 hr2 => ⟨⟨by omega, by omega⟩, fun q2 => p1 (fun z => by have := z.2.1; omega), fun q2 => ⟨h1, h2, fun q3 => ?_, fun q3 => p1 (fun z => z.2.2 q3)⟩⟩⟩⟩⟩
    have ha : 0 ≤ v1 ∧ v1 < 6 := by omega
    have hb : 0 ≤ v2 ∧ v2 < 6 := by omega
    have hok : okT v1 v2 := ⟨ha, hb, q3⟩
    have ba := hw.2.2.2.2.2 v1 ha.1 ha.2
    have bb' := hw.2.2.2.2.2 v2 hb.1 hb.2
    have b5 := h01 (6 * v1 + v2) (by omega) (by omega)
    refine ⟨h3, fun q4 => ⟨⟨by omega, by omega⟩, ⟨by omega, by omega⟩, fun q5 => ⟨h3, fun z => (z q4).elim, fun _ => ⟨ha, hb, ⟨by omega, by omega⟩, ⟨by omega, by omega⟩, fun q6 => Or.inl ⟨0, 0, none, none, rfl, rfl, rfl, rfl, hok, by omega, Or.inl rfl, fun _ => ⟨q5, ⟨fun z => by omega, fun z => (q6 z).elim⟩⟩, fun z => (z q4).elim⟩, fun q6 => Or.inl ⟨1, 0, none, none, rfl, rfl, rfl, rfl, hok, by omega, Or.inr rfl, fun _ => ⟨q5, ⟨fun _ => q6, fun _ => rfl⟩⟩, fun z => (z q4).elim⟩⟩⟩, fun q5 => p4 hok q4 q5⟩, fun q4 => ⟨ha, hb, ⟨by omega, by omega⟩, ⟨by omega, by omega⟩, fun q5 => ⟨h3, fun _ => Or.inl ⟨0, 0, none, none, rfl, rfl, rfl, rfl, hok, by omega, Or.inl rfl, fun z => (q4 z).elim, fun _ => ⟨q5, ⟨fun z => by omega, ?_⟩⟩⟩, fun z => (q4 z).elim⟩, fun q5 => p2 hok q4 q5⟩⟩
    rintro ⟨c, d, z1, z2, -⟩
    omega
  · obtain ⟨h1, h2, h3, hw, h01, p1, p2, p3, p4, p5, p6, p7⟩ := h
    rintro pc lv st N (⟨w, x, o6, o7, rfl, rfl, rfl, rfl, hok, a1, a2, a3, a4⟩ | ⟨w, x, y, o7, rfl, rfl, rfl, rfl, hok, a1, ay, a2, a3, a4, a5⟩ | ⟨w, n, rfl, rfl, rfl, hok, a1, a2, a3, a4, a5, a6, a7, a8, a9⟩)
    all_goals
      obtain ⟨ha, hb, hab⟩ := id hok
      have ba := hw.2.2.2.2.2 v1 ha.1 ha.2
      have bb' := hw.2.2.2.2.2 v2 hb.1 hb.2
    · refine Eq.mpr (vcX6_tell_90 ..) ?_
      have e41 : (xup M 0 7 (M 0 7 + 1)) 4 = M 4 := xup_ne (by decide)
      have fin0 : v3 = 0 → w = 0 → Post 1 (xup (xup (xup M 0 7 (M 0 7 + 1)) 5 (6 * v1 + v2) 1) 5 (6 * v2 + v1) 1) := fun z1 z2 => p7 hok z1 (a3 z1).1 (fun y => by have := (a3 z1).2.mpr y; omega)
      refine ⟨⟨by omega, by omega⟩, ⟨by omega, by omega⟩, fun q => ⟨⟨by omega, by omega⟩, fun q1 => ⟨h3, fun q2 => ⟨⟨by omega, by omega⟩, by omega, ⟨by omega, by omega⟩, by omega, fin0 q2 q1⟩, fun q2 => ⟨ha, hb, ?_⟩⟩, fun q1 => ?_⟩, fun q => ⟨h3, fun q1 => ⟨⟨by omega, by omega⟩, fun q2 => ⟨h3, fun _ => ⟨⟨by omega, by omega⟩, by omega, ⟨by omega, by omega⟩, by omega, fin0 q1 q2⟩, fun z => (z q1).elim⟩, fun q2 => p5 hok q1 (a3 q1).1 ((a3 q1).2.mp (by omega))⟩, fun q1 => ⟨Or.inr (Or.inl ⟨w, x, 0, _, rfl, rfl, rfl, rfl, hok, by omega, by omega, a2, q1, (a4 q1).1, ?_⟩), by (change Int.toNat _ < Int.toNat _); omega⟩⟩⟩
      · rw [e41]
        refine ⟨Or.inr (Or.inr ⟨w, 0, rfl, rfl, rfl, hok, q2, (a4 q2).1, ?_, by omega, fun k hk => by rw [xup_at, if_neg hk], by rw [xup_at, if_pos rfl], fun k _ _ => by omega, fun k _ _ => by rw [e41], fun c c0 _ => xup_ne c0⟩), by (change Int.toNat _ < Int.toNat _); omega⟩
        rintro ⟨c, d, z1, z2, z3, z4, z5⟩
        have := (a4 q2).2.mpr ⟨c, d, z1, by omega, z3, z4, z5⟩
        omega
      · by_cases hv : v3 = 0
        · exact p5 hok hv (a3 hv).1 ((a3 hv).2.mp (by omega))
        · obtain ⟨c, d, z1, z2, z3, z4, z5⟩ := (a4 hv).2.mp (by omega)
          exact p3 hok hv (a4 hv).1 ⟨c, d, z1, by omega, z3, z4, z5⟩
      · rw [(a4 q1).2]
        refine ⟨Or.inl, ?_⟩
        rintro (z | ⟨d, z1, z2, -⟩)
        · exact z
        · omega
    · refine Eq.mpr (vcX6_tell_104 ..) ?_
      have nx : ∀ w' : Int, y < 6 → (w' = 0 ∨ w' = 1) → (w' = 1 ↔ w = 1 ∨ M 4 x = M 4 v1 ∧ M 4 y = M 4 v2 ∧ M 5 (6 * x + y) ≠ 0) → (w' = 1 ↔ (∃ c d : Int, 0 ≤ c ∧ c < x ∧ 0 ≤ d ∧ d < 6 ∧ M 4 c = M 4 v1 ∧ M 4 d = M 4 v2 ∧ M 5 (6 * c + d) ≠ 0) ∨ ∃ d : Int, 0 ≤ d ∧ d < y + 1 ∧ M 4 x = M 4 v1 ∧ M 4 d = M 4 v2 ∧ M 5 (6 * x + d) ≠ 0) := by
        intro w' _ _ he
        rw [he, a5]
        constructor
        · rintro ((z | ⟨d, z1, z2, z3⟩) | z)
          · exact Or.inl z
          · exact Or.inr ⟨d, z1, by omega, z3⟩
          · exact Or.inr ⟨y, ay.1, by omega, z⟩
        · rintro (z | ⟨d, z1, z2, z3⟩)
          · exact Or.inl (Or.inl z)
          · by_cases hd : d = y
            · subst hd; exact Or.inr z3
            · exact Or.inl (Or.inr ⟨d, z1, by omega, z3⟩)
      refine ⟨⟨by omega, by omega⟩, ⟨by omega, by omega⟩, fun q => ⟨Or.inl ⟨w, x + 1, _, _, rfl, rfl, rfl, rfl, hok, by omega, a2, fun z => (a3 z).elim, fun _ => ⟨a4, ?_⟩⟩, by (change Int.toNat _ < Int.toNat _); omega⟩, fun q => ?_⟩
      · rw [a5]
        constructor
        · rintro (⟨c, d, z1, z2, z3⟩ | ⟨d, z1, z2, z3⟩)
          · exact ⟨c, d, z1, by omega, z3⟩
          · exact ⟨x, d, a1.1, by omega, z1, by omega, z3⟩
        · rintro ⟨c, d, z1, z2, z3, z4, z5⟩
          by_cases hc : c = x
          · subst hc; exact Or.inr ⟨d, z3, by omega, z5⟩
          · exact Or.inl ⟨c, d, z1, by omega, z3, z4, z5⟩
      · have bx := hw.2.2.2.2.2 x a1.1 a1.2
        have by' := hw.2.2.2.2.2 y ay.1 q
        have b5 := h01 (6 * x + y) (by omega) (by omega)
        have go : ∀ w' : Int, (w' = 0 ∨ w' = 1) → (w' = 1 ↔ w = 1 ∨ M 4 x = M 4 v1 ∧ M 4 y = M 4 v2 ∧ M 5 (6 * x + y) ≠ 0) → (∃ (w'' x'' y'' : Int) (o'' : Option xV), (104 : Nat) = 104 ∧ ([some (.inr 0), some (.inl v1), some (.inl v2), some (.inl v3), some (.inl w'), some (.inl x), some (.inl (y + 1)), o7] : xL) = [some (.inr 0), some (.inl v1), some (.inl v2), some (.inl v3), some (.inl w''), some (.inl x''), some (.inl y''), o''] ∧ ([] : List xV) = [] ∧ M = M ∧ okT v1 v2 ∧ (0 ≤ x'' ∧ x'' < 6) ∧ (0 ≤ y'' ∧ y'' ≤ 6) ∧ (w'' = 0 ∨ w'' = 1) ∧ v3 ≠ 0 ∧ M 4 v1 ≠ M 4 v2 ∧ (w'' = 1 ↔ (∃ c d : Int, 0 ≤ c ∧ c < x'' ∧ 0 ≤ d ∧ d < 6 ∧ M 4 c = M 4 v1 ∧ M 4 d = M 4 v2 ∧ M 5 (6 * c + d) ≠ 0) ∨ ∃ d : Int, 0 ≤ d ∧ d < y'' ∧ M 4 x'' = M 4 v1 ∧ M 4 d = M 4 v2 ∧ M 5 (6 * x'' + d) ≠ 0)) := fun w' z1 z2 => ⟨w', x, y + 1, o7, rfl, rfl, rfl, rfl, hok, a1, by omega, z1, a3, a4, nx w' q z1 z2⟩
        refine ⟨⟨by omega, by omega⟩, fun q1 => ⟨Or.inr (Or.inl (go 1 (Or.inr rfl) ⟨fun _ => Or.inl (by omega), fun _ => rfl⟩)), by (change Int.toNat _ < Int.toNat _); omega⟩, fun q1 => ⟨⟨by omega, by omega⟩, ha, ⟨by omega, by omega⟩, ⟨by omega, by omega⟩, fun q2 => ⟨Or.inr (Or.inl (go 0 (Or.inl rfl) ⟨fun z => by omega, fun z => z.elim (fun z => by omega) (fun z => (q2 z.1).elim)⟩)), by (change Int.toNat _ < Int.toNat _); omega⟩, fun q2 => ⟨⟨by omega, by omega⟩, hb, ⟨by omega, by omega⟩, ⟨by omega, by omega⟩, fun q3 => ⟨Or.inr (Or.inl (go 0 (Or.inl rfl) ⟨fun z => by omega, fun z => z.elim (fun z => by omega) (fun z => (q3 z.2.1).elim)⟩)), by (change Int.toNat _ < Int.toNat _); omega⟩, fun q3 => ⟨⟨by omega, by omega⟩, ⟨by omega, by omega⟩, fun q4 => ⟨Or.inr (Or.inl (go 0 (Or.inl rfl) ⟨fun z => by omega, fun z => z.elim (fun z => by omega) (fun z => (z.2.2 q4).elim)⟩)), by (change Int.toNat _ < Int.toNat _); omega⟩, fun q4 => ⟨Or.inr (Or.inl (go 1 (Or.inr rfl) ⟨fun _ => Or.inr ⟨q2, q3, q4⟩, fun _ => rfl⟩)), by (change Int.toNat _ < Int.toNat _); omega⟩⟩⟩⟩⟩
    · refine Eq.mpr (vcX6_tell_224 ..) ?_
      refine ⟨⟨by omega, by omega⟩, ⟨by omega, by omega⟩, fun q => p6 hok a1 a2 a3 N a5 a6 (fun k z1 z2 => a7 k z1 (by omega)) a9, fun q => ?_⟩
      have en := a8 n (by omega) q
      have bn := hw.2.2.2.2.2 n a4.1 q
      rw [en]
      have go : ∀ v : Int, v = (if M 4 n = M 4 v1 ∨ M 4 n = M 4 v2 then min (M 4 v1) (M 4 v2) else M 4 n) → (∃ (w'' n'' : Int), (224 : Nat) = 224 ∧ ([some (.inr 0), some (.inl v1), some (.inl v2), some (.inl v3), some (.inl w), some (.inl (M 4 v1)), some (.inl (M 4 v2)), some (.inl (n + 1))] : xL) = [some (.inr 0), some (.inl v1), some (.inl v2), some (.inl v3), some (.inl w''), some (.inl (M 4 v1)), some (.inl (M 4 v2)), some (.inl n'')] ∧ ([] : List xV) = [] ∧ okT v1 v2 ∧ v3 ≠ 0 ∧ M 4 v1 ≠ M 4 v2 ∧ ¬ apM M v1 v2 ∧ (0 ≤ n'' ∧ n'' ≤ 6) ∧ (∀ k, k ≠ 7 → (xup N 4 n v) 0 k = M 0 k) ∧ (xup N 4 n v) 0 7 = M 0 7 + 1 ∧ (∀ k, 0 ≤ k → k < n'' → (xup N 4 n v) 4 k = if M 4 k = M 4 v1 ∨ M 4 k = M 4 v2 then min (M 4 v1) (M 4 v2) else M 4 k) ∧ (∀ k, n'' ≤ k → k < 6 → (xup N 4 n v) 4 k = M 4 k) ∧ ∀ c, c ≠ 0 → c ≠ 4 → (xup N 4 n v) c = M c) := by
        intro v hv
        refine ⟨w, n + 1, rfl, rfl, rfl, hok, a1, a2, a3, by omega, fun k hk => by rw [xup_ne (by decide)]; exact a5 k hk, by rw [xup_ne (by decide)]; exact a6, fun k z1 z2 => ?_, fun k z1 z2 => by rw [xup_at, if_neg (by omega)]; exact a8 k (by omega) z2, fun c c0 c4 => by rw [xup_ne c4]; exact a9 c c0 c4⟩
        rw [xup_at]
        by_cases hk : k = n
        · subst hk; rw [if_pos rfl]; exact hv
        · rw [if_neg hk]; exact a7 k z1 (by omega)
      refine ⟨⟨by omega, by omega⟩, ⟨by omega, by omega⟩, ⟨by omega, by omega⟩, fun q1 => ⟨⟨by omega, by omega⟩, ⟨by omega, by omega⟩, fun q2 => ⟨⟨by omega, by omega⟩, Or.inr (Or.inr (go _ (by rw [if_pos (Or.inl q1)]; omega))), by (change Int.toNat _ < Int.toNat _); omega⟩, fun q2 => ⟨⟨by omega, by omega⟩, Or.inr (Or.inr (go _ (by rw [if_pos (Or.inl q1)]; omega))), by (change Int.toNat _ < Int.toNat _); omega⟩⟩, fun q1 => ⟨⟨by omega, by omega⟩, ⟨by omega, by omega⟩, ⟨by omega, by omega⟩, fun q2 => ⟨⟨by omega, by omega⟩, ⟨by omega, by omega⟩, Or.inr (Or.inr (go _ (by rw [if_neg (by omega)]))), by (change Int.toNat _ < Int.toNat _); omega⟩, fun q2 => ⟨⟨by omega, by omega⟩, ⟨by omega, by omega⟩, fun q3 => ⟨⟨by omega, by omega⟩, Or.inr (Or.inr (go _ (by rw [if_pos (Or.inr q2)]; omega))), by (change Int.toNat _ < Int.toNat _); omega⟩, fun q3 => ⟨⟨by omega, by omega⟩, Or.inr (Or.inr (go _ (by rw [if_pos (Or.inr q2)]; omega))), by (change Int.toNat _ < Int.toNat _); omega⟩⟩⟩⟩
theorem k_X6_tell {l : Launch} {D : va_G} {T : Nat → ClassId} {ad : Nat → Nat} (hO : xOk ad LM) : xMet l D T ad LM yX6_tell cX6_tell 8 (some .int) false 2 sp_X6_tell :=
  xmet (rt := 1) (fld := fldX6) (cals := (calX6_tell sp_X6_isName)) (cst := []) (I := iX6_tell) (cut := cutX6_tell) hO (by decide +kernel) ⟨by decide, by decide, by decide⟩ oX6_tell foX6 (fun _ h => absurd h List.not_mem_nil) (List.forall_mem_cons.mpr ⟨⟨yX6_isName, cX6_isName, 1, (some .boolean), 1, 1, by decide, yoX6_isName, k_X6_isName hO, loX6_67, Or.inl ⟨rfl, rfl⟩⟩, fun _ h => absurd h List.not_mem_nil⟩) b_X6_tell

