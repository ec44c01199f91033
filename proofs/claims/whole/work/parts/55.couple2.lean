/-! coupling: hop, drop, trace, forget, tell, untell -/
theorem CP.sil {M N : xM} (h : CP M N) : sS (M 2) (M 3) (M 1 2).toNat = sS (N 2) (N 1) (N 0 0).toNat := by
  have hw := wfS_of h.1.1
  have := h.2.2.2.1.sS_e hw.len0 (SX M).1.toNat (by have := hw.1; omega)
  have e : M 1 2 = N 0 0 := h.2.2.2.1.1
  rw [← e]
  exact this
theorem CP.han {M N : xM} (h : CP M N) : cS (M 2) 36 (M 3 6).toNat = cS (N 3) 0 (N 0 3).toNat := by
  rw [← h.2.2.2.2.1]
  refine cS_congr (fun i a b => ?_)
  rw [Int.zero_add]
  exact h.2.2.2.2.2.1 i a (by omega)
theorem CP.tw {M N : xM} (h : CP M N) (n : Int) : twX M n ↔ twM N n := by
  unfold twX twM
  rw [← h.2.2.2.2.1]
  constructor
  · rintro ⟨i, a, b, c⟩
    exact ⟨i, a, b, by rw [← h.2.2.2.2.2.1 i a b]; exact c⟩
  · rintro ⟨i, a, b, c⟩
    exact ⟨i, a, b, by rw [h.2.2.2.2.2.1 i a b]; exact c⟩
theorem cp_hop {M N : xM} (h : CP M N) {n : Int} (hr : rg n) : f_X5_hop n M (fun r M' => f_X6_hop n N (fun r' N' => r' = r ∧ CP M' N')) := by
  have hs := h.sil
  have hc := h.han
  have ht := h.tw n
  obtain ⟨h1, h2, h3, h4, h5, h6, h7, h8⟩ := id h
  have hd : sS (N 2) (N 1) (N 0 0).toNat + cS (N 3) 0 (N 0 3).toNat ≤ 4 := by
    have := h1.2.1
    unfold hdX at this
    omega
  refine ⟨hr, h1, fun a => ?_, fun a b c => ?_, fun a b c d => ?_, fun a b c d e M' hI he hf g1 g2 g3 => ?_⟩
  · exact ⟨hr, h2, hd, fun _ => ⟨rfl, h⟩, fun a' b' _ => by omega, fun a' b' _ _ => by omega, fun a' b' _ _ _ => by omega⟩
  · have c' := ht.mp c
    exact ⟨hr, h2, hd, fun z => by omega, fun _ _ _ => ⟨rfl, h⟩, fun _ _ z _ => z.elim (fun z => by omega) (fun z => (z c').elim), fun _ _ z _ _ => z.elim (fun z => by omega) (fun z => (z c').elim)⟩
  · refine ⟨hr, h2, hd, fun z => by omega, fun z1 z2 z3 => ?_, fun _ _ _ _ => ⟨rfl, h⟩, fun _ _ _ z1 z2 => ?_⟩
    · rcases c with c | c
      · omega
      · exact (c (ht.mpr z3)).elim
    · rcases d with d | ⟨d1, d2⟩
      · omega
      · have := z2 d1; omega
  · refine ⟨hr, h2, hd, fun z => by omega, fun z1 z2 z3 => ?_, fun _ _ _ z => ?_, fun _ _ _ _ _ => ⟨by omega, ?_⟩⟩
    · rcases c with c | c
      · omega
      · exact (c (ht.mpr z3)).elim
    · rcases z with z | ⟨z1, z2⟩
      · omega
      · have := e z1; omega
    · have x0 : ∀ k, k ≠ 3 → (xup (xup N 3 (N 0 3) n) 0 3 (N 0 3 + 1)) 0 k = N 0 k := fun k hk => by rw [xup_at, if_neg hk, xup_ne (by decide)]
      have x03 : (xup (xup N 3 (N 0 3) n) 0 3 (N 0 3 + 1)) 0 3 = N 0 3 + 1 := by rw [xup_at, if_pos rfl]
      have xc : ∀ c, c ≠ 0 → c ≠ 3 → (xup (xup N 3 (N 0 3) n) 0 3 (N 0 3 + 1)) c = N c := fun c c0 c3 => by rw [xup_ne c0, xup_ne c3]
      have x3 : ∀ i, (xup (xup N 3 (N 0 3) n) 0 3 (N 0 3 + 1)) 3 i = if i = N 0 3 then n else N 3 i := fun i => by rw [xup_ne (by decide), xup_at]
      obtain ⟨w1, w2, w3, w4, w5, w6⟩ := h2
      have eS : SM (xup (xup N 3 (N 0 3) n) 0 3 (N 0 3 + 1)) = SM N := by simp only [SM, x0 0 (by decide), xc 1 (by decide) (by decide), xc 2 (by decide) (by decide), xc 4 (by decide) (by decide)]
      refine ⟨hI, ⟨by rw [x0 0 (by decide)]; exact w1, by rw [xc 1 (by decide) (by decide)]; exact w2, by rw [xc 2 (by decide) (by decide)]; exact w3, by rw [x03]; omega, fun i a b => ?_, by rw [xc 4 (by decide) (by decide)]; exact w6⟩, by unfold ap01; rw [xc 5 (by decide) (by decide)]; exact h3, by rw [eS]; exact he.symm.trans h4, by rw [g1, x03]; omega, fun i i0 i1 => ?_, by rw [hf 6 (by decide) (by decide), xc 5 (by decide) (by decide)]; exact h7, by rw [hf 4 (by decide) (by decide), x0 7 (by decide)]; exact h8⟩
      · rw [x3]
        split
        · omega
        · exact w5 i a b
      · rw [x3]
        by_cases hi : i = N 0 3
        · rw [if_pos hi, hi, ← h5, g2]
        · rw [if_neg hi, g3 i i0 (by omega)]
          exact h6 i i0 (by omega)
theorem cp_drop {M N : xM} (h : CP M N) : f_X5_drop M (fun r M' => f_X6_drop N (fun r' N' => r' = r ∧ CP M' N')) := by
  obtain ⟨h1, h2, h3, h4, h5, h6, h7, h8⟩ := id h
  refine ⟨h1, fun M' hI he hf g => ⟨by omega, ?_⟩⟩
  have x0 : ∀ k, k ≠ 3 → (xup N 0 3 0) 0 k = N 0 k := fun k hk => by rw [xup_at, if_neg hk]
  have x03 : (xup N 0 3 0) 0 3 = 0 := by rw [xup_at, if_pos rfl]
  have xc : ∀ c, c ≠ 0 → (xup N 0 3 0) c = N c := fun c c0 => xup_ne c0
  obtain ⟨w1, w2, w3, w4, w5, w6⟩ := h2
  have eS : SM (xup N 0 3 0) = SM N := by simp only [SM, x0 0 (by decide), xc 1 (by decide), xc 2 (by decide), xc 4 (by decide)]
  exact ⟨hI, ⟨by rw [x0 0 (by decide)]; exact w1, by rw [xc 1 (by decide)]; exact w2, by rw [xc 2 (by decide)]; exact w3, by rw [x03]; omega, by rw [xc 3 (by decide)]; exact w5, by rw [xc 4 (by decide)]; exact w6⟩, by unfold ap01; rw [xc 5 (by decide)]; exact h3, by rw [eS]; exact he.symm.trans h4, by rw [g, x03], fun i i0 i1 => by omega, by rw [hf 6 (by decide), xc 5 (by decide)]; exact h7, by rw [hf 4 (by decide), x0 7 (by decide)]; exact h8⟩
theorem cp_trace {M N : xM} (h : CP M N) : f_X5_trace M (fun r M' => f_X6_trace N (fun r' N' => r' = r ∧ CP M' N')) := by
  obtain ⟨h1, h2, h3, h4, h5, h6, h7, h8⟩ := id h
  obtain ⟨w1, w2, w3, w4, w5, w6⟩ := id h2
  obtain ⟨q1, q2, q3, q4⟩ := id h4
  have e0 : M 1 2 = N 0 0 := q1
  have hok : okH M ↔ 2 ≤ N 0 3 ∧ N 3 0 ≠ -1 ∧ N 3 (N 0 3 - 1) ≠ -1 := by
    unfold okH
    rw [h5]
    constructor
    · rintro ⟨a, b, c⟩
      have z0 := h6 0 (by omega) (by omega)
      have z1 := h6 (N 0 3 - 1) (by omega) (by omega)
      rw [Int.add_zero] at z0
      rw [← z0, ← z1]
      exact ⟨a, b, c⟩
    · rintro ⟨a, b, c⟩
      have z0 := h6 0 (by omega) (by omega)
      have z1 := h6 (N 0 3 - 1) (by omega) (by omega)
      rw [Int.add_zero] at z0
      rw [z0, z1]
      exact ⟨a, b, c⟩
  refine ⟨h1, fun a => ?_, fun a b => ?_, fun a b M' hI g1 g2 g3 g4 g5 => ?_⟩
  · exact ⟨h2, fun _ => ⟨rfl, h⟩, fun z => by omega, fun z => by omega⟩
  · exact ⟨h2, fun z => by omega, fun _ _ => ⟨rfl, h⟩, fun _ z => (b (hok.mpr z)).elim⟩
  · refine ⟨h2, fun z => by omega, fun _ z => (z (hok.mp b)).elim, fun _ z N' k1 k2 k3 k4 k5 k6 k7 k8 k9 => ⟨by omega, ?_⟩⟩
    refine ⟨hI, ⟨by omega, fun t a b => ?_, k8, by omega, by rw [k9 3 (by decide) (by decide) (by decide)]; exact w5, by rw [k9 4 (by decide) (by decide) (by decide)]; exact w6⟩, by unfold ap01; rw [k9 5 (by decide) (by decide) (by decide)]; exact h3, ⟨?_, fun t t0 t1 => ?_, fun t i t0 t1 i0 i1 => ?_, fun n n0 n1 => ?_⟩, by omega, fun i i0 i1 => by omega, by rw [g5 6 (by decide) (by decide) (by decide) (by decide) (by decide), k9 5 (by decide) (by decide) (by decide)]; exact h7, by rw [g5 4 (by decide) (by decide) (by decide) (by decide) (by decide), k3]; exact h8⟩
    · by_cases ht : t = N 0 0
      · rw [ht, k4]; exact w4
      · rw [k5 t ht]; exact w2 t a b
    · show M' 1 2 = N' 0 0
      omega
    · show M' 3 t = N' 1 t
      have t1 : t < M' 1 2 := t1
      by_cases ht : t = N 0 0
      · rw [ht, k4, ← e0, g3.1]; exact h5
      · rw [k5 t ht, (g4 t t0 (by omega)).1]
        exact q2 t t0 (by show t < M 1 2; omega)
    · show M' 2 (t * 6 + i) = N' 2 (t * 6 + i)
      have t1 : t < M' 1 2 := t1
      have i1 : i < M' 3 t := i1
      by_cases ht : t = N 0 0
      · have hl : M' 3 t = M 3 6 := by rw [ht, ← e0]; exact g3.1
        have := g3.2 i i0 (by omega)
        rw [ht, k6 i i0 (by omega), ← h6 i i0 (by omega), ← e0, this]
        congr 1
      · have hl := (g4 t t0 (by omega)).1
        have hw := (h1.1.1.2.1 t t0 (by omega))
        rw [(g4 t t0 (by omega)).2 i i0 (by omega), k7 _ (by omega)]
        exact q3 t i t0 (by show t < M 1 2; omega) i0 (by show i < M 3 t; omega)
    · show M' 5 n = N' 4 n
      rw [g5 5 (by decide) (by decide) (by decide) (by decide) (by decide), k9 4 (by decide) (by decide) (by decide)]
      exact q4 n n0 n1
theorem cp_forget {M N : xM} (h : CP M N) {t0 : Int} (hr : rg t0) : f_X5_forget t0 M (fun r M' => f_X6_forget t0 N (fun r' N' => r' = r ∧ CP M' N')) := by
  obtain ⟨h1, h2, h3, h4, h5, h6, h7, h8⟩ := id h
  obtain ⟨w1, w2, w3, w4, w5, w6⟩ := id h2
  obtain ⟨q1, q2, q3, q4⟩ := id h4
  have e0 : M 1 2 = N 0 0 := q1
  refine ⟨hr, h1, fun a => ?_, fun a b M' hI g1 g2 g3 g4 g5 => ?_⟩
  · exact ⟨hr, h2, fun _ => ⟨rfl, h⟩, fun z1 z2 => by omega⟩
  · refine ⟨hr, h2, fun z => by omega, fun _ _ N' k1 k2 k3 k4 k5 k6 k7 k8 k9 => ⟨by omega, ?_⟩⟩
    refine ⟨hI, ⟨by omega, fun t a b => ?_, fun p a b => ?_, by rw [k2 3 (by decide)]; exact w4, by rw [k9 3 (by decide) (by decide) (by decide)]; exact w5, by rw [k9 4 (by decide) (by decide) (by decide)]; exact w6⟩, by unfold ap01; rw [k9 5 (by decide) (by decide) (by decide)]; exact h3, ⟨?_, fun t t0' t1 => ?_, fun t i t0' t1 i0 i1 => ?_, fun n n0 n1 => ?_⟩, by rw [g2.1, k2 3 (by decide)]; exact h5, fun i i0 i1 => ?_, by rw [g5 6 (by decide) (by decide) (by decide) (by decide) (by decide), k9 5 (by decide) (by decide) (by decide)]; exact h7, by rw [g5 4 (by decide) (by decide) (by decide) (by decide) (by decide), k2 7 (by decide)]; exact h8⟩
    · by_cases z1 : t < t0
      · rw [k3 t z1]; exact w2 t a b
      · by_cases z2 : t < N 0 0 - 1
        · rw [k4 t (by omega) z2]; exact w2 (t + 1) (by omega) (by omega)
        · rw [k5 t (by omega)]; exact w2 t a b
    · by_cases z1 : p < t0 * 6
      · rw [k6 p z1]; exact w3 p a b
      · by_cases z2 : p < (N 0 0 - 1) * 6
        · have := k7 (p / 6) (p % 6) (by omega) (by omega) (by omega) (by omega)
          rw [show p / 6 * 6 + p % 6 = p by omega] at this
          rw [this]
          exact w3 _ (by omega) (by omega)
        · rw [k8 p (by omega)]; exact w3 p a b
    · show M' 1 2 = N' 0 0
      omega
    · show M' 3 t = N' 1 t
      have t1 : t < M' 1 2 := t1
      by_cases z1 : t < t0
      · rw [k3 t z1, (g3 t t0' z1).1]
        exact q2 t t0' (by show t < M 1 2; omega)
      · rw [k4 t (by omega) (by omega), (g4 t (by omega) (by omega)).1]
        exact q2 (t + 1) (by omega) (by show t + 1 < M 1 2; omega)
    · show M' 2 (t * 6 + i) = N' 2 (t * 6 + i)
      have t1 : t < M' 1 2 := t1
      have i1 : i < M' 3 t := i1
      by_cases z1 : t < t0
      · have hl := (g3 t t0' z1).1
        have hw := (h1.1.1.2.1 t t0' (by omega))
        rw [k6 _ (by omega), (g3 t t0' z1).2 i i0 (by omega)]
        exact q3 t i t0' (by show t < M 1 2; omega) i0 (by show i < M 3 t; omega)
      · have hl := (g4 t (by omega) (by omega)).1
        have hw := (h1.1.1.2.1 (t + 1) (by omega) (by omega))
        rw [k7 t i (by omega) (by omega) i0 (by omega), (g4 t (by omega) (by omega)).2 i i0 (by omega)]
        exact q3 (t + 1) i (by omega) (by show t + 1 < M 1 2; omega) i0 (by show i < M 3 (t + 1); omega)
    · show M' 5 n = N' 4 n
      rw [g5 5 (by decide) (by decide) (by decide) (by decide) (by decide), k9 4 (by decide) (by decide) (by decide)]
      exact q4 n n0 n1
    · have hl := g2.1
      have := g2.2 i i0 (by omega)
      rw [k9 3 (by decide) (by decide) (by decide), ← h6 i i0 (by omega)]
      exact this
theorem cp_untell {M N : xM} (h : CP M N) : f_X5_untell M (fun r M' => f_X6_untell N (fun r' N' => r' = r ∧ CP M' N')) := by
  obtain ⟨h1, h2, h3, h4, h5, h6, h7, h8⟩ := id h
  obtain ⟨w1, w2, w3, w4, w5, w6⟩ := id h2
  obtain ⟨q1, q2, q3, q4⟩ := id h4
  refine ⟨h1, fun M' hI g1 g2 g3 g4 N' k1 k2 k3 k4 k5 => ⟨by omega, ?_⟩⟩
  have m1 := g1 1 (by decide) (by decide) (by decide) (by decide) (by decide)
  have m2 := g1 2 (by decide) (by decide) (by decide) (by decide) (by decide)
  have m3 := g1 3 (by decide) (by decide) (by decide) (by decide) (by decide)
  have n1 := k5 1 (by decide) (by decide) (by decide)
  have n2 := k5 2 (by decide) (by decide) (by decide)
  have n3 := k5 3 (by decide) (by decide) (by decide)
  refine ⟨hI, ⟨by rw [k1 0 (by decide)]; exact w1, by rw [n1]; exact w2, by rw [n2]; exact w3, by rw [k1 3 (by decide)]; exact w4, by rw [n3]; exact w5, fun n a b => by rw [k3 n a b]; omega⟩, fun k a b => Or.inl (k4 k a b), ⟨?_, ?_, ?_, fun n a b => ?_⟩, by rw [m3, k1 3 (by decide)]; exact h5, by rw [m3, m2, n3]; exact h6, fun a b a0 a1 b0 b1 => ?_, by omega⟩
  · show M' 1 2 = N' 0 0
    rw [m1, k1 0 (by decide)]; exact q1
  · show ∀ t, 0 ≤ t → t < M' 1 2 → M' 3 t = N' 1 t
    rw [m1, m3, n1]; exact q2
  · show ∀ t i, 0 ≤ t → t < M' 1 2 → 0 ≤ i → i < M' 3 t → M' 2 (t * 6 + i) = N' 2 (t * 6 + i)
    rw [m1, m2, m3, n2]; exact q3
  · show M' 5 n = N' 4 n
    rw [g2 n a b, k3 n a b]
  · rw [g3 a a0 a1, k4 _ (by omega) (by omega)]
    exact ⟨fun z => (tb_0 b z).elim, fun z => (z rfl).elim⟩
theorem CP.ap {M N : xM} (h : CP M N) {a b : Int} (ha : 0 ≤ a ∧ a < 6) (hb : 0 ≤ b ∧ b < 6) : apB M a b ↔ apM N a b := by
  obtain ⟨h1, h2, h3, h4, h5, h6, h7, h8⟩ := h
  have q4 : ∀ n, 0 ≤ n → n < 6 → M 5 n = N 4 n := h4.2.2.2
  constructor
  · rintro ⟨c, d, z1, z2, z3, z4, z5, z6, z7⟩
    rw [q4 a ha.1 ha.2, q4 c z1 z2] at z5
    rw [q4 b hb.1 hb.2, q4 d z3 z4] at z6
    exact ⟨c, d, z1, z2, z3, z4, z5.symm, z6.symm, (h7 c d z1 z2 z3 z4).mp z7⟩
  · rintro ⟨c, d, z1, z2, z3, z4, z5, z6, z7⟩
    rw [← q4 a ha.1 ha.2, ← q4 c z1 z2] at z5
    rw [← q4 b hb.1 hb.2, ← q4 d z3 z4] at z6
    exact ⟨c, d, z1, z2, z3, z4, z5.symm, z6.symm, (h7 c d z1 z2 z3 z4).mpr z7⟩
theorem cp_tell {M N : xM} (h : CP M N) {a b one : Int} (ra : rg a) (rb : rg b) (ro : rg one) : f_X5_tell a b one M (fun r M' => f_X6_tell a b one N (fun r' N' => r' = r ∧ CP M' N')) := by
  obtain ⟨h1, h2, h3, h4, h5, h6, h7, h8⟩ := id h
  obtain ⟨w1, w2, w3, w4, w5, w6⟩ := id h2
  obtain ⟨q1, q2, q3, q4⟩ := id h4
  have q4 : ∀ n, 0 ≤ n → n < 6 → M 5 n = N 4 n := q4
  have hb1 : okT a b → M 5 a = N 4 a ∧ M 5 b = N 4 b := fun z => ⟨q4 a z.1.1 z.1.2, q4 b z.2.1.1 z.2.1.2⟩
  have hap : okT a b → (apB M a b ↔ apM N a b) := fun z => h.ap z.1 z.2.1
  have htb : okT a b → (tb (M 6 a) b ↔ N 5 (6 * a + b) ≠ 0) := fun z => h7 a b z.1.1 z.1.2 z.2.1.1 z.2.1.2
  refine ⟨ra, rb, ro, h1, fun z => ?_, fun z o e => ?_, fun z o e p => ?_, fun z o t => ?_, fun z o t e => ?_, fun z o e p M' hI g1 g2 g3 => ?_, fun z o t e M' hI g1 g2 g3 => ?_⟩
  · exact ⟨ra, rb, ro, h2, h3, fun _ => ⟨rfl, h⟩, fun y => (z y).elim, fun y => (z y).elim, fun y => (z y).elim, fun y => (z y).elim, fun y => (z y).elim, fun y => (z y).elim⟩
  · rw [(hb1 z).1, (hb1 z).2] at e
    exact ⟨ra, rb, ro, h2, h3, fun y => (y z).elim, fun _ _ _ => ⟨rfl, h⟩, fun _ _ y => (y e).elim, fun _ y => (o y).elim, fun _ y => (o y).elim, fun _ _ y => (y e).elim, fun _ y => (o y).elim⟩
  · rw [(hb1 z).1, (hb1 z).2] at e
    have p := (hap z).mp p
    exact ⟨ra, rb, ro, h2, h3, fun y => (y z).elim, fun _ _ y => (e y).elim, fun _ _ _ _ => ⟨rfl, h⟩, fun _ y => (o y).elim, fun _ y => (o y).elim, fun _ _ _ y => (y p).elim, fun _ y => (o y).elim⟩
  · have t := (htb z).mp t
    exact ⟨ra, rb, ro, h2, h3, fun y => (y z).elim, fun _ y => (y o).elim, fun _ y => (y o).elim, fun _ _ _ => ⟨rfl, h⟩, fun _ _ y => (t y).elim, fun _ y => (y o).elim, fun _ _ y => (t y).elim⟩
  · rw [(hb1 z).1, (hb1 z).2] at e
    have t : ¬ N 5 (6 * a + b) ≠ 0 := fun y => t ((htb z).mpr y)
    exact ⟨ra, rb, ro, h2, h3, fun y => (y z).elim, fun _ y => (y o).elim, fun _ y => (y o).elim, fun _ _ y => (t y).elim, fun _ _ _ _ => ⟨rfl, h⟩, fun _ y => (y o).elim, fun _ _ _ y => (y e).elim⟩
  · have eN := e
    rw [(hb1 z).1, (hb1 z).2] at eN
    have p' : ¬ apM N a b := fun y => p ((hap z).mpr y)
    refine ⟨ra, rb, ro, h2, h3, fun y => (y z).elim, fun _ _ y => (eN y).elim, fun _ _ _ y => (p' y).elim, fun _ y => (o y).elim, fun _ y => (o y).elim, fun _ _ _ _ N' k1 k2 k3 k4 => ⟨rfl, ?_⟩, fun _ y => (o y).elim⟩
    have m1 := g1 1 (by decide) (by decide) (by decide) (by decide)
    have m2 := g1 2 (by decide) (by decide) (by decide) (by decide)
    have m3 := g1 3 (by decide) (by decide) (by decide) (by decide)
    have m6 := g1 6 (by decide) (by decide) (by decide) (by decide)
    have n1 := k4 1 (by decide) (by decide)
    have n2 := k4 2 (by decide) (by decide)
    have n3 := k4 3 (by decide) (by decide)
    have n5 := k4 5 (by decide) (by decide)
    have ba := w6 a z.1.1 z.1.2
    have bb' := w6 b z.2.1.1 z.2.1.2
    have boxes : ∀ n, 0 ≤ n → n < 6 → M' 5 n = N' 4 n := fun n a0 a1 => by
      rw [g3 n a0 a1, k3 n a0 a1, q4 n a0 a1, (hb1 z).1, (hb1 z).2]
    refine ⟨hI, ⟨by rw [k1 0 (by decide)]; exact w1, by rw [n1]; exact w2, by rw [n2]; exact w3, by rw [k1 3 (by decide)]; exact w4, by rw [n3]; exact w5, fun n a0 a1 => ?_⟩, by unfold ap01; rw [n5]; exact h3, ⟨?_, ?_, ?_, boxes⟩, by rw [m3, k1 3 (by decide)]; exact h5, by rw [m3, m2, n3]; exact h6, by rw [m6, n5]; exact h7, by omega⟩
    · rw [← boxes n a0 a1]
      exact hI.1.2.1.1 n a0 a1
    · show M' 1 2 = N' 0 0
      rw [m1, k1 0 (by decide)]; exact q1
    · show ∀ t, 0 ≤ t → t < M' 1 2 → M' 3 t = N' 1 t
      rw [m1, m3, n1]; exact q2
    · show ∀ t i, 0 ≤ t → t < M' 1 2 → 0 ≤ i → i < M' 3 t → M' 2 (t * 6 + i) = N' 2 (t * 6 + i)
      rw [m1, m2, m3, n2]; exact q3
  · have eN := e
    rw [(hb1 z).1, (hb1 z).2] at eN
    have t0 : N 5 (6 * a + b) = 0 := Classical.byContradiction (fun y => t ((htb z).mpr y))
    refine ⟨ra, rb, ro, h2, h3, fun y => (y z).elim, fun _ y => (y o).elim, fun _ y => (y o).elim, fun _ _ y => (y t0).elim, fun _ _ _ y => (eN y).elim, fun _ y => (y o).elim, fun _ _ _ _ => ⟨rfl, ?_⟩⟩
    have m1 := g1 1 (by decide) (by decide) (by decide) (by decide)
    have m2 := g1 2 (by decide) (by decide) (by decide) (by decide)
    have m3 := g1 3 (by decide) (by decide) (by decide) (by decide)
    have m5 := g1 5 (by decide) (by decide) (by decide) (by decide)
    obtain ⟨za, zb, zab⟩ := id z
    generalize hN : xup (xup (xup N 0 7 (N 0 7 + 1)) 5 (6 * a + b) 1) 5 (6 * b + a) 1 = N'
    have x0 : ∀ k, k ≠ 7 → N' 0 k = N 0 k := fun k hk => by rw [← hN, xup_ne (by decide), xup_ne (by decide), xup_at, if_neg hk]
    have x07 : N' 0 7 = N 0 7 + 1 := by rw [← hN, xup_ne (by decide), xup_ne (by decide), xup_at, if_pos rfl]
    have xc : ∀ c, c ≠ 0 → c ≠ 5 → N' c = N c := fun c c0 c5 => by rw [← hN, xup_ne c5, xup_ne c5, xup_ne c0]
    have x5 : ∀ k, N' 5 k = if k = 6 * b + a then 1 else if k = 6 * a + b then 1 else N 5 k := fun k => by rw [← hN, xup_at, xup_at, xup_ne (by decide)]
    have eS : SM N' = SM N := by simp only [SM, x0 0 (by decide), xc 1 (by decide) (by decide), xc 2 (by decide) (by decide), xc 4 (by decide) (by decide)]
    have eX : SX M' = SX M := SX_eq m1 m2 m3 m5
    refine ⟨hI, ⟨by rw [x0 0 (by decide)]; exact w1, by rw [xc 1 (by decide) (by decide)]; exact w2, by rw [xc 2 (by decide) (by decide)]; exact w3, by rw [x0 3 (by decide)]; exact w4, by rw [xc 3 (by decide) (by decide)]; exact w5, by rw [xc 4 (by decide) (by decide)]; exact w6⟩, fun k k0 k1 => ?_, by rw [eS, eX]; exact h4, by rw [m3, x0 3 (by decide)]; exact h5, by rw [m3, m2, xc 3 (by decide) (by decide)]; exact h6, fun n d n0 n1 d0 d1 => ?_, by omega⟩
    · rw [x5]
      split
      · exact Or.inr rfl
      · split
        · exact Or.inr rfl
        · exact h3 k k0 k1
    · rw [g3 n d n0 n1 d0 d1, x5, h7 n d n0 n1 d0 d1]
      by_cases y1 : n = b ∧ d = a
      · rw [if_pos (by omega)]
        exact ⟨fun _ => by omega, fun _ => Or.inr (Or.inr y1)⟩
      · rw [if_neg (by omega)]
        by_cases y2 : n = a ∧ d = b
        · rw [if_pos (by omega)]
          exact ⟨fun _ => by omega, fun _ => Or.inr (Or.inl y2)⟩
        · rw [if_neg (by omega)]
          exact ⟨fun y => y.elim id (fun y => y.elim (fun y => (y2 y).elim) (fun y => (y1 y).elim)), Or.inl⟩

