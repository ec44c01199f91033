/-! data that agree where it matters; drop, hop -/
def eqS (S S' : dS) : Prop := S.1 = S'.1 ∧ (∀ t, 0 ≤ t → t < S.1 → S.2.1 t = S'.2.1 t) ∧ (∀ t i, 0 ≤ t → t < S.1 → 0 ≤ i → i < S.2.1 t → S.2.2.1 (t * 6 + i) = S'.2.2.1 (t * 6 + i)) ∧ ∀ n, 0 ≤ n → n < 6 → S.2.2.2 n = S'.2.2.2 n
theorem eqS.cS_e {S S' : dS} (h : eqS S S') {t : Int} (ht : 0 ≤ t ∧ t < S.1) {k : Nat} (hk : (k : Int) ≤ S.2.1 t) : cS S.2.2.1 (t * 6) k = cS S'.2.2.1 (t * 6) k := cS_congr (fun i h1 h2 => h.2.2.1 t i ht.1 ht.2 h1 (by omega))
theorem eqS.sS_e {S S' : dS} (h : eqS S S') (hl : ∀ t, 0 ≤ t → t < S.1 → 0 ≤ S.2.1 t) : ∀ k : Nat, (k : Int) ≤ S.1 → sS S.2.2.1 S.2.1 k = sS S'.2.2.1 S'.2.1 k := by
  intro k
  induction k with
  | zero => intro _; rfl
  | succ k ih =>
    intro hk
    have h0 := hl k (by omega) (by omega)
    simp only [sS]
    rw [ih (by omega), ← h.2.1 k (by omega) (by omega), h.cS_e ⟨by omega, by omega⟩ (by omega)]
theorem wfS.len0 {S : dS} (h : wfS S) : ∀ t, 0 ≤ t → t < S.1 → 0 ≤ S.2.1 t := fun t h1 h2 => by have := (h.2.1 t h1 h2).1; omega
theorem eqS.mS_e {S S' : dS} (h : eqS S S') (hw : wfS S) : mS S = mS S' := by
  unfold mS
  rw [← h.1, h.sS_e hw.len0 _ (by have := hw.1; omega)]
theorem eqS.Pl_e {S S' : dS} (h : eqS S S') (hw : wfS S) (A : Int → Int) {t i : Int} (ht : 0 ≤ t ∧ t < S.1) (hi : 0 ≤ i ∧ i < S.2.1 t) : Pl S A (offS S) t i = Pl S' A (offS S') t i := by
  have e := h.2.2.1 t i ht.1 ht.2 hi.1 hi.2
  have hh := hw.2.2.1 t i ht.1 ht.2 hi.1 hi.2
  unfold Pl offS
  rw [← e, ← h.sS_e hw.len0 t.toNat (by omega), h.cS_e ht (by omega)]
  by_cases hs : S.2.2.1 (t * 6 + i) = -1
  · rw [if_pos hs, if_pos hs]
  · rw [if_neg hs, if_neg hs, h.2.2.2 _ (by omega) (by omega)]
theorem eqS.Fit_e {S S' : dS} (h : eqS S S') (hw : wfS S) : Fit S = Fit S' := by
  funext A
  apply propext
  exact FT_iff h.1 h.2.1 (fun _ _ _ => Iff.rfl) (fun t i a b c d => h.Pl_e hw _ ⟨a, b⟩ ⟨c, d⟩)
theorem eqS.Adj_e {S S' : dS} (h : eqS S S') (hw : wfS S) (A : List Int) : Adj S all0 (plL S A) = Adj S' all0 (plL S' A) := by
  funext x y
  apply propext
  exact Adj_iff h.1 h.2.1 (fun _ _ _ => Iff.rfl) (fun t i a b c d => h.Pl_e hw _ ⟨a, b⟩ ⟨c, d⟩) x y
theorem eqS.nl_e {S S' : dS} (h : eqS S S') (hw : wfS S) : nlL S = nlL S' := by
  funext A
  unfold nlL
  rw [h.Adj_e hw]
theorem eqS.nm_e {S S' : dS} (h : eqS S S') : nmS S = nmS S' := by
  funext n
  apply propext
  constructor
  · rintro ⟨t, i, a1, a2, a3, a4, a5⟩
    exact ⟨t, i, a1, by rw [← h.1]; exact a2, a3, by rw [← h.2.1 t a1 a2]; exact a4, by rw [← h.2.2.1 t i a1 a2 a3 a4]; exact a5⟩
  · rintro ⟨t, i, a1, a2, a3, a4, a5⟩
    rw [← h.1] at a2
    rw [← h.2.1 t a1 a2] at a4
    exact ⟨t, i, a1, a2, a3, a4, by rw [h.2.2.1 t i a1 a2 a3 a4]; exact a5⟩
theorem eqS.th_e {S S' : dS} (h : eqS S S') : thB S = thB S' := by
  funext b
  apply propext
  unfold thB
  rw [h.nm_e]
  constructor
  · rintro ⟨n, a1, a2, a3, a4⟩
    exact ⟨n, a1, a2, by rw [← h.2.2.2 n a1 a2]; exact a3, a4⟩
  · rintro ⟨n, a1, a2, a3, a4⟩
    exact ⟨n, a1, a2, by rw [h.2.2.2 n a1 a2]; exact a3, a4⟩
theorem eqS.LN_e {S S' : dS} (h : eqS S S') (hw : wfS S) : LNs S = LNs S' := by
  unfold LNs
  rw [h.th_e, h.mS_e hw, h.Fit_e hw, h.nl_e hw]
theorem eqS.NXT_e {S S' : dS} (h : eqS S S') (hw : wfS S) : NXT S = NXT S' := by
  unfold NXT
  rw [h.nm_e]
  refine allB_congr (fun _ _ _ => Iff.rfl) (fun x y h1 h2 h3 _ _ => ?_) 6 (by omega)
  unfold gB
  refine mxI_congr 11 (fun j _ _ => ?_)
  unfold hpc
  rw [← h.LN_e hw, ← h.2.2.2 x (by omega) (by omega), ← h.2.2.2 y (by omega) (by omega)]
  have : ∀ A, Adj S all0 (plL S A) = Adj S' all0 (plL S' A) := h.Adj_e hw
  simp only [this]
theorem eqS.svO_e {S S' : dS} (h : eqS S S') (hw : wfS S) {M : xM} (hs : svO M S) : svO M S' := by
  obtain ⟨a, b, c⟩ := hs
  refine ⟨a, ?_, by rw [← h.NXT_e hw]; exact c⟩
  have : ∀ A, Adj S all0 (plL S A) = Adj S' all0 (plL S' A) := h.Adj_e hw
  simp only [this] at b
  rw [← h.LN_e hw]
  exact b
theorem eqS.nbx_e {S S' : dS} (h : eqS S S') : nbx S = nbx S' := by unfold nbx; rw [h.th_e]
theorem eqS.nnm_e {S S' : dS} (h : eqS S S') : nnm S = nnm S' := by unfold nnm; rw [h.nm_e]
/-- only the row at hand has changed -/
theorem IX_hand {M N : xM} (hI : IX M) (h1 : ∀ c, c ≠ 2 → c ≠ 3 → N c = M c) (h2 : ∀ q, q < 36 → N 2 q = M 2 q) (h3 : ∀ t, t ≠ 6 → N 3 t = M 3 t) (hR : wR N) (hh : cS (N 2) 36 (N 3 6).toNat + sS (M 2) (M 3) (M 1 2).toNat ≤ 4) : IX N ∧ eqS (SX M) (SX N) := by
  have hw := wfS_of hI.1
  have e1 : N 1 = M 1 := h1 1 (by decide) (by decide)
  have hn := hI.1.1.1
  have heq : eqS (SX M) (SX N) := by
    refine ⟨?_, fun t a b => ?_, fun t i a b c d => ?_, fun n _ _ => ?_⟩
    · show M 1 2 = N 1 2; rw [e1]
    · have b : t < M 1 2 := b
      exact (h3 t (by omega)).symm
    · have b : t < M 1 2 := b
      have d : i < M 3 t := d
      have := hI.1.1.2.1 t a (by omega)
      exact (h2 _ (by omega)).symm
    · show M 5 n = N 5 n; rw [h1 5 (by decide) (by decide)]
  have hs : sS (N 2) (N 3) (N 1 2).toNat = sS (M 2) (M 3) (M 1 2).toNat := by
    rw [e1]; exact (heq.sS_e hw.len0 (M 1 2).toNat (by show _ ≤ M 1 2; omega)).symm
  refine ⟨⟨⟨hR, ?_, by rw [hs]; exact hI.1.2.2.1, fun t a b => ?_⟩, ?_, ?_, ?_⟩, heq⟩
  · unfold wT; rw [h1 5 (by decide) (by decide), h1 6 (by decide) (by decide)]; exact hI.1.2.1
  · rw [e1] at b
    have q := hI.1.2.2.2 t a b
    have l := hI.1.1.2.1 t a (by omega)
    rw [h3 t (by omega), h2 _ (by omega), h2 _ (by omega)]
    exact q
  · unfold hdX; rw [hs]; omega
  · unfold cF
    rw [h1 10 (by decide) (by decide), stO_eq (h1 10 (by decide) (by decide)) (h1 11 (by decide) (by decide)), ← heq.LN_e hw]
    rcases hI.2.2.1 with z | ⟨z1, z2⟩
    · exact Or.inl z
    · refine Or.inr ⟨z1, ?_⟩
      unfold stO at z2 ⊢
      rw [← heq.mS_e hw]
      exact z2
  · unfold cV
    rw [h1 10 (by decide) (by decide), h1 12 (by decide) (by decide)]
    rcases hI.2.2.2 with z | ⟨z1, z2, z3⟩
    · exact Or.inl z
    · exact Or.inr ⟨z1, z2, svO_eq (h1 12 (by decide) (by decide)) (h1 13 (by decide) (by decide)) (h1 14 (by decide) (by decide)) (heq.svO_e hw z3)⟩
def f_X5_drop (M : xM) (Post : xR) : Prop := IX M ∧ ∀ M' : xM, IX M' → eqS (SX M) (SX M') → (∀ c, c ≠ 3 → M' c = M c) → M' 3 6 = 0 → Post (M 3 6) M'
abbrev sp_X5_drop : xT := spV0 0 f_X5_drop
set_option maxRecDepth 100000 in
set_option maxHeartbeats 4000000 in
theorem b_X5_drop (as : List xV) (M : xM) (Post : xR) (h : sp_X5_drop as M Post) : as.length ≤ 2 ∧ xw LX fldX5 (calX5_drop sp_X2_length sp_X2_empty) [] 1 Post iX5_drop cutX5_drop (fun _ _ _ _ => False) 400 0 (xlv as 2) [] M := by
  obtain ⟨rfl, h⟩ := h
  refine ⟨by simp, ?_⟩
  refine Eq.mpr (vcX5_drop_0 ..) ?_
  obtain ⟨hI, hp⟩ := h
  have hx := IX_hand (N := xup M 3 6 0) hI (fun c _ q => xup_ne q) (fun q _ => by rw [xup_ne (by decide)]) (fun t ht => by rw [xup_at, if_neg ht]) ⟨by rw [xup_ne (by decide)]; exact hI.1.1.1, fun r a b => by
    rw [xup_at]
    split
    · omega
    · exact hI.1.1.2.1 r a b, fun p a b => by rw [xup_ne (by decide)]; exact hI.1.1.2.2 p a b⟩ (by
    rw [xup_at, if_pos rfl]
    have := hI.1.2.2.1
    show 0 + _ ≤ _
    omega)
  exact ⟨_, rfl, ⟨by omega, by omega⟩, _, rfl, ⟨by omega, by omega⟩, hp _ hx.1 hx.2 (fun c hc => xup_ne hc) (by rw [xup_at, if_pos rfl])⟩
theorem k_X5_drop {l : Launch} {D : va_G} {T : Nat → ClassId} {ad : Nat → Nat} (hO : xOk ad LX) : xMet l D T ad LX yX5_drop cX5_drop 2 (some .int) false 1 sp_X5_drop :=
  xmet0 (rt := 1) (fld := fldX5) (cals := (calX5_drop sp_X2_length sp_X2_empty)) (cst := []) (I := iX5_drop) (cut := cutX5_drop) hO (by decide +kernel) ⟨by decide, by decide, by decide⟩ oX5_drop foX5 (fun _ h => absurd h List.not_mem_nil) (List.forall_mem_cons.mpr ⟨⟨yX2_length, cX2_length, 2, (some .int), 0, 1, by decide, yoX2_length, k_X2_length hO, loX5_54, Or.inr ⟨rfl, rfl, 1, 2, [some 2, some 3, none], TX2, 3, rfl, rfl, spV1_r⟩⟩, List.forall_mem_cons.mpr ⟨⟨yX2_empty, cX2_empty, 2, none, 0, 1, by decide, yoX2_empty, k_X2_empty hO, loX5_69, Or.inr ⟨rfl, rfl, 1, 2, [some 2, some 3, none], TX2, 3, rfl, rfl, spV1_r⟩⟩, fun _ h => absurd h List.not_mem_nil⟩⟩) b_X5_drop
def twX (M : xM) (n : Int) : Prop := ∃ i, 0 ≤ i ∧ i < M 3 6 ∧ M 2 (36 + i) = n
def f_X5_hop (n : Int) (M : xM) (Post : xR) : Prop := rg n ∧ IX M ∧ (¬ (-1 ≤ n ∧ n ≤ 5) → Post (-2) M) ∧ (0 ≤ n → n ≤ 5 → twX M n → Post (-3) M) ∧ (-1 ≤ n → n ≤ 5 → (n = -1 ∨ ¬ twX M n) → (6 ≤ M 3 6 ∨ n = -1 ∧ 4 ≤ sS (M 2) (M 3) (M 1 2).toNat + cS (M 2) 36 (M 3 6).toNat) → Post (-5) M) ∧ (-1 ≤ n → n ≤ 5 → (n = -1 ∨ ¬ twX M n) → M 3 6 < 6 → (n = -1 → sS (M 2) (M 3) (M 1 2).toNat + cS (M 2) 36 (M 3 6).toNat < 4) → ∀ M' : xM, IX M' → eqS (SX M) (SX M') → (∀ c, c ≠ 2 → c ≠ 3 → M' c = M c) → M' 3 6 = M 3 6 + 1 → M' 2 (36 + M 3 6) = n → (∀ i, 0 ≤ i → i < M 3 6 → M' 2 (36 + i) = M 2 (36 + i)) → Post (M 3 6 + 1) M')
abbrev sp_X5_hop : xT := spV1 0 f_X5_hop
set_option maxRecDepth 100000 in
set_option maxHeartbeats 4000000 in
theorem b_X5_hop (as : List xV) (M : xM) (Post : xR) (h : sp_X5_hop as M Post) : as.length ≤ 2 ∧ xw LX fldX5 (calX5_hop sp_X5_isName sp_X2_has sp_X2_length sp_X2_silents sp_X2_silentsIn sp_X2_append) [] 1 Post iX5_hop cutX5_hop (fun _ _ _ _ => False) 400 0 (xlv as 2) [] M := by
  obtain ⟨v1, rfl, h⟩ := h
  refine ⟨by simp, ?_⟩
  refine Eq.mpr (vcX5_hop_0 ..) ?_
  obtain ⟨h1, hI, p1, p2, p3, p4⟩ := h
  have hl := hI.1.1.2.1 6 (by omega) (by omega)
  have hc := cS_b (M 2) 36 (M 3 6).toNat
  have hs := sS_0 (M 2) (M 3) (M 1 2).toNat
  have h4 := hI.2.1
  unfold hdX at h4
  have app : -1 ≤ v1 → v1 ≤ 5 → (v1 = -1 ∨ ¬ twX M v1) → M 3 6 < 6 → (v1 = -1 → sS (M 2) (M 3) (M 1 2).toNat + cS (M 2) 36 (M 3 6).toNat < 4) → sp_X2_append [.inr 1, .inl (6 : Int), .inl v1] M (fun _ M2 => sp_X2_length [.inr 1, .inl (6 : Int)] M2 (fun r3 M3 => Post r3 M3)) := by
    intro a1 a2 a3 a4 a5
    have hx := IX_hand (N := xup (xup M 2 (6 * 6 + M 3 6) v1) 3 6 (M 3 6 + 1)) hI (fun c q q' => by rw [xup_ne q', xup_ne q]) (fun q hq => by rw [xup_ne (by decide), xup_at, if_neg (by omega)]) (fun t ht => by rw [xup_at, if_neg ht, xup_ne (by decide)]) ⟨by rw [xup_ne (by decide), xup_ne (by decide)]; exact hI.1.1.1, fun r b1 b2 => by
      rw [xup_at]
      split
      · omega
      · rw [xup_ne (by decide)]; exact hI.1.1.2.1 r b1 b2, fun p b1 b2 => by
      rw [xup_ne (by decide), xup_at]
      split
      · omega
      · exact hI.1.1.2.2 p b1 b2⟩ (by
      rw [xup_at, if_pos rfl, xup_ne (by decide), show (M 3 6 + 1).toNat = (M 3 6).toNat + 1 by omega]
      have e : cS (xup M 2 (6 * 6 + M 3 6) v1 2) 36 (M 3 6).toNat = cS (M 2) 36 (M 3 6).toNat := cS_congr (fun i b1 b2 => by rw [xup_at, if_neg (by omega)])
      have e2 : xup M 2 (6 * 6 + M 3 6) v1 2 (36 + ((M 3 6).toNat : Int)) = v1 := by rw [xup_at, if_pos (by omega)]
      simp only [cS]
      rw [e, e2]
      split
      · rename_i hz; have := a5 hz; omega
      · omega)
    refine ⟨_, _, rfl, ⟨by omega, by omega⟩, ⟨by omega, by omega⟩, _, rfl, ⟨by omega, by omega⟩, ?_⟩
    have e6 : xup (xup M 2 (6 * 6 + M 3 6) v1) 3 6 (M 3 6 + 1) 3 6 = M 3 6 + 1 := by rw [xup_at, if_pos rfl]
    rw [e6]
    exact p4 a1 a2 a3 a4 a5 _ hx.1 hx.2 (fun c q q' => by rw [xup_ne q', xup_ne q]) e6 (by rw [xup_ne (by decide), xup_at, if_pos (by omega)]) (fun i b1 b2 => by rw [xup_ne (by decide), xup_at, if_neg (by omega)])
  have chN : 0 ≤ v1 → v1 ≤ 5 → ¬ twX M v1 → sp_X2_length [.inr 1, .inl (6 : Int)] M (fun r1 M1 => rg r1 ∧ rg (6 : Int) ∧ (r1 < (6 : Int) → rg v1 ∧ rg (-1 : Int) ∧ (v1 ≠ (-1 : Int) → sp_X2_append [.inr 1, .inl (6 : Int), .inl v1] M1 (fun _ M2 => sp_X2_length [.inr 1, .inl (6 : Int)] M2 (fun r3 M3 => Post r3 M3))) ∧ (v1 = (-1 : Int) → sp_X2_silents [.inr 1] M1 (fun r4 M4 => sp_X2_silentsIn [.inr 1, .inl (6 : Int)] M4 (fun r5 M5 => rg (r4 + r5) ∧ rg (4 : Int) ∧ ((r4 + r5) < (4 : Int) → sp_X2_append [.inr 1, .inl (6 : Int), .inl v1] M5 (fun _ M6 => sp_X2_length [.inr 1, .inl (6 : Int)] M6 (fun r7 M7 => Post r7 M7))) ∧ ((4 : Int) ≤ (r4 + r5) → Post (-5) M5))))) ∧ ((6 : Int) ≤ r1 → Post (-5) M1)) := by
    intro a1 a2 a3
    exact ⟨_, rfl, ⟨by omega, by omega⟩, ⟨by omega, by omega⟩, ⟨by omega, by omega⟩, fun q => ⟨h1, ⟨by omega, by omega⟩, fun _ => app (by omega) a2 (Or.inr a3) q (fun z => by omega), fun z => by omega⟩, fun q => p3 (by omega) a2 (Or.inr a3) (Or.inl q)⟩
  have chS : v1 = -1 → sp_X2_length [.inr 1, .inl (6 : Int)] M (fun r1 M1 => rg r1 ∧ rg (6 : Int) ∧ (r1 < (6 : Int) → rg v1 ∧ rg (-1 : Int) ∧ (v1 ≠ (-1 : Int) → sp_X2_append [.inr 1, .inl (6 : Int), .inl v1] M1 (fun _ M2 => sp_X2_length [.inr 1, .inl (6 : Int)] M2 (fun r3 M3 => Post r3 M3))) ∧ (v1 = (-1 : Int) → sp_X2_silents [.inr 1] M1 (fun r4 M4 => sp_X2_silentsIn [.inr 1, .inl (6 : Int)] M4 (fun r5 M5 => rg (r4 + r5) ∧ rg (4 : Int) ∧ ((r4 + r5) < (4 : Int) → sp_X2_append [.inr 1, .inl (6 : Int), .inl v1] M5 (fun _ M6 => sp_X2_length [.inr 1, .inl (6 : Int)] M6 (fun r7 M7 => Post r7 M7))) ∧ ((4 : Int) ≤ (r4 + r5) → Post (-5) M5))))) ∧ ((6 : Int) ≤ r1 → Post (-5) M1)) := by
    intro a1
    refine ⟨_, rfl, ⟨by omega, by omega⟩, ⟨by omega, by omega⟩, ⟨by omega, by omega⟩, fun q => ⟨h1, ⟨by omega, by omega⟩, fun z => (z a1).elim, fun _ => ⟨rfl, hI.1.1, _, rfl, hI.1.1, ⟨by omega, by omega⟩, ?_⟩⟩, fun q => p3 (by omega) (by omega) (Or.inl a1) (Or.inl q)⟩
    rw [show (6 : Int) * 6 = 36 from rfl]
    exact ⟨⟨by omega, by omega⟩, ⟨by omega, by omega⟩, fun q1 => app (by omega) (by omega) (Or.inl a1) q (fun _ => q1), fun q1 => p3 (by omega) (by omega) (Or.inl a1) (Or.inr ⟨a1, q1⟩)⟩
  have hasN : 0 ≤ v1 → v1 ≤ 5 → sp_X2_has [.inr 1, .inl (6 : Int), .inl v1] M (fun r8 M8 => rg r8 ∧ (r8 = 0 → sp_X2_length [.inr 1, .inl (6 : Int)] M8 (fun r1 M1 => rg r1 ∧ rg (6 : Int) ∧ (r1 < (6 : Int) → rg v1 ∧ rg (-1 : Int) ∧ (v1 ≠ (-1 : Int) → sp_X2_append [.inr 1, .inl (6 : Int), .inl v1] M1 (fun _ M2 => sp_X2_length [.inr 1, .inl (6 : Int)] M2 (fun r3 M3 => Post r3 M3))) ∧ (v1 = (-1 : Int) → sp_X2_silents [.inr 1] M1 (fun r4 M4 => sp_X2_silentsIn [.inr 1, .inl (6 : Int)] M4 (fun r5 M5 => rg (r4 + r5) ∧ rg (4 : Int) ∧ ((r4 + r5) < (4 : Int) → sp_X2_append [.inr 1, .inl (6 : Int), .inl v1] M5 (fun _ M6 => sp_X2_length [.inr 1, .inl (6 : Int)] M6 (fun r7 M7 => Post r7 M7))) ∧ ((4 : Int) ≤ (r4 + r5) → Post (-5) M5))))) ∧ ((6 : Int) ≤ r1 → Post (-5) M1))) ∧ (r8 ≠ 0 → Post (-3) M8)) := by
    intro a1 a2
    refine ⟨_, _, rfl, hI.1.1, ⟨by omega, by omega⟩, h1, fun r hr => ⟨⟨by omega, by omega⟩, fun q => chN a1 a2 (hr.elim (fun z => by omega) (fun z => z.2)), fun q => p2 a1 a2 (hr.elim (fun z => z.2) (fun z => (q z.1).elim))⟩⟩
  refine ⟨h1, ⟨by omega, by omega⟩, fun q => ⟨h1, ⟨by omega, by omega⟩, fun _ => chS q, fun z => (z q).elim⟩, fun q => ⟨_, rfl, h1, fun r hr => ⟨⟨by omega, by omega⟩, fun q1 => ⟨h1, ⟨by omega, by omega⟩, fun z => (q z).elim, fun _ => hasN (by omega) (by omega)⟩, fun q1 => p1 (by omega)⟩⟩⟩
theorem k_X5_hop {l : Launch} {D : va_G} {T : Nat → ClassId} {ad : Nat → Nat} (hO : xOk ad LX) : xMet l D T ad LX yX5_hop cX5_hop 2 (some .int) false 3 sp_X5_hop :=
  xmet0 (rt := 1) (fld := fldX5) (cals := (calX5_hop sp_X5_isName sp_X2_has sp_X2_length sp_X2_silents sp_X2_silentsIn sp_X2_append)) (cst := []) (I := iX5_hop) (cut := cutX5_hop) hO (by decide +kernel) ⟨by decide, by decide, by decide⟩ oX5_hop foX5 (fun _ h => absurd h List.not_mem_nil) (List.forall_mem_cons.mpr ⟨⟨yX5_isName, cX5_isName, 1, (some .boolean), 0, 1, by decide, yoX5_isName, k_X5_isName hO, loX5_46, Or.inl ⟨rfl, rfl⟩⟩, List.forall_mem_cons.mpr ⟨⟨yX2_has, cX2_has, 4, (some .boolean), 1, 2, by decide, yoX2_has, k_X2_has hO, loX5_50, Or.inr ⟨rfl, rfl, 1, 2, [some 2, some 3, none], TX2, 3, rfl, rfl, spV2_r⟩⟩, List.forall_mem_cons.mpr ⟨⟨yX2_length, cX2_length, 2, (some .int), 0, 1, by decide, yoX2_length, k_X2_length hO, loX5_54, Or.inr ⟨rfl, rfl, 1, 2, [some 2, some 3, none], TX2, 3, rfl, rfl, spV1_r⟩⟩, List.forall_mem_cons.mpr ⟨⟨yX2_silents, cX2_silents, 3, (some .int), 2, 0, by decide, yoX2_silents, k_X2_silents hO, loX5_58, Or.inr ⟨rfl, rfl, 1, 2, [some 2, some 3, none], TX2, 3, rfl, rfl, spV0_r⟩⟩, List.forall_mem_cons.mpr ⟨⟨yX2_silentsIn, cX2_silentsIn, 4, (some .int), 1, 1, by decide, yoX2_silentsIn, k_X2_silentsIn hO, loX5_62, Or.inr ⟨rfl, rfl, 1, 2, [some 2, some 3, none], TX2, 3, rfl, rfl, spV1_r⟩⟩, List.forall_mem_cons.mpr ⟨⟨yX2_append, cX2_append, 5, none, 1, 2, by decide, yoX2_append, k_X2_append hO, loX5_65, Or.inr ⟨rfl, rfl, 1, 2, [some 2, some 3, none], TX2, 3, rfl, rfl, spV2_r⟩⟩, fun _ h => absurd h List.not_mem_nil⟩⟩⟩⟩⟩⟩) b_X5_hop

