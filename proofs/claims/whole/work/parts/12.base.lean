/-! specs of methods: their shapes; bits -/
def spV0 (c0 : Nat) (f : xM → xR → Prop) : xT := fun as M Post => as = [.inr c0] ∧ f M Post
def spV1 (c0 : Nat) (f : Int → xM → xR → Prop) : xT := fun as M Post => ∃ a, as = [.inr c0, .inl a] ∧ f a M Post
def spV2 (c0 : Nat) (f : Int → Int → xM → xR → Prop) : xT := fun as M Post => ∃ a b, as = [.inr c0, .inl a, .inl b] ∧ f a b M Post
def spV3 (c0 : Nat) (f : Int → Int → Int → xM → xR → Prop) : xT := fun as M Post => ∃ a b c, as = [.inr c0, .inl a, .inl b, .inl c] ∧ f a b c M Post
def spS1 (f : Int → xM → xR → Prop) : xT := fun as M Post => ∃ a, as = [.inl a] ∧ f a M Post
def spS2 (f : Int → Int → xM → xR → Prop) : xT := fun as M Post => ∃ a b, as = [.inl a, .inl b] ∧ f a b M Post
def spS3 (f : Int → Int → Int → xM → xR → Prop) : xT := fun as M Post => ∃ a b c, as = [.inl a, .inl b, .inl c] ∧ f a b c M Post
theorem spV0_e {c0 : Nat} {f : xM → xR → Prop} {M : xM} {Post : xR} : spV0 c0 f [.inr c0] M Post = f M Post := propext ⟨fun h => h.2, fun h => ⟨rfl, h⟩⟩
theorem spV1_e {c0 : Nat} {f : Int → xM → xR → Prop} {a : Int} {M : xM} {Post : xR} : spV1 c0 f [.inr c0, .inl a] M Post = f a M Post := propext ⟨fun ⟨_, e, h⟩ => by cases e; exact h, fun h => ⟨_, rfl, h⟩⟩
theorem spV2_e {c0 : Nat} {f : Int → Int → xM → xR → Prop} {a b : Int} {M : xM} {Post : xR} : spV2 c0 f [.inr c0, .inl a, .inl b] M Post = f a b M Post := propext ⟨fun ⟨_, _, e, h⟩ => by cases e; exact h, fun h => ⟨_, _, rfl, h⟩⟩
theorem spV3_e {c0 : Nat} {f : Int → Int → Int → xM → xR → Prop} {a b c : Int} {M : xM} {Post : xR} : spV3 c0 f [.inr c0, .inl a, .inl b, .inl c] M Post = f a b c M Post := propext ⟨fun ⟨_, _, _, e, h⟩ => by cases e; exact h, fun h => ⟨_, _, _, rfl, h⟩⟩
theorem spS1_e {f : Int → xM → xR → Prop} {a : Int} {M : xM} {Post : xR} : spS1 f [.inl a] M Post = f a M Post := propext ⟨fun ⟨_, e, h⟩ => by cases e; exact h, fun h => ⟨_, rfl, h⟩⟩
theorem spS2_e {f : Int → Int → xM → xR → Prop} {a b : Int} {M : xM} {Post : xR} : spS2 f [.inl a, .inl b] M Post = f a b M Post := propext ⟨fun ⟨_, _, e, h⟩ => by cases e; exact h, fun h => ⟨_, _, rfl, h⟩⟩
theorem spS3_e {f : Int → Int → Int → xM → xR → Prop} {a b c : Int} {M : xM} {Post : xR} : spS3 f [.inl a, .inl b, .inl c] M Post = f a b c M Post := propext ⟨fun ⟨_, _, _, e, h⟩ => by cases e; exact h, fun h => ⟨_, _, _, rfl, h⟩⟩
theorem spV0_r {c0 : Nat} {f : xM → xR → Prop} : ∀ as M Post, spV0 c0 f as M Post → ∃ as', as = .inr c0 :: as' := fun _ _ _ h => ⟨[], h.1⟩
theorem spV1_r {c0 : Nat} {f : Int → xM → xR → Prop} : ∀ as M Post, spV1 c0 f as M Post → ∃ as', as = .inr c0 :: as' := fun _ _ _ h => by obtain ⟨a, h, -⟩ := h; exact ⟨_, h⟩
theorem spV2_r {c0 : Nat} {f : Int → Int → xM → xR → Prop} : ∀ as M Post, spV2 c0 f as M Post → ∃ as', as = .inr c0 :: as' := fun _ _ _ h => by obtain ⟨a, b, h, -⟩ := h; exact ⟨_, h⟩
theorem spV3_r {c0 : Nat} {f : Int → Int → Int → xM → xR → Prop} : ∀ as M Post, spV3 c0 f as M Post → ∃ as', as = .inr c0 :: as' := fun _ _ _ h => by obtain ⟨a, b, c, h, -⟩ := h; exact ⟨_, h⟩
section XM2
variable {p : Program} {l : Launch} {e : Env} {R : Room} {s : State} {m : MethodId} {args : Array Value} {below : List Frame} {meth : Method} {c : Code}
variable {D : va_G} {T : Nat → ClassId} {ad : Nat → Nat} {L : List xD} {nL : Nat} {cc : ByteArray} {own : String}
/-! Math.max, Math.min: the kit's own rows -/
def f_max (a b : Int) (M : xM) (Post : xR) : Prop := rg a ∧ rg b ∧ Post (max a b) M
def f_min (a b : Int) (M : xM) (Post : xR) : Prop := rg a ∧ rg b ∧ Post (min a b) M
abbrev sp_J9_max_7cf53 : xT := spS2 f_max
abbrev sp_J9_min_7cf53 : xT := spS2 f_min
def xMath (own : String) (q : Nat × Bool × Nat × Bool × xT) : Prop := Cond.initialized "java/lang/Math" ∈ xtb ∧ ((q.2 = (true, 2, false, sp_J9_max_7cf53) ∧ Cond.methodLink own q.1 Lib.Math.max.name ∈ xtb ∧ Cond.static Lib.Math.max.name ∈ xtb ∧ Cond.code Lib.Math.max.name Lib.Math.max.code 2 (some .int) ∈ xtb) ∨ (q.2 = (true, 2, false, sp_J9_min_7cf53) ∧ Cond.methodLink own q.1 Lib.Math.min.name ∈ xtb ∧ Cond.static Lib.Math.min.name ∈ xtb ∧ Cond.code Lib.Math.min.name Lib.Math.min.code 2 (some .int) ∈ xtb))
def xCallee2 (l : Launch) (D : va_G) (T : Nat → ClassId) (ad : Nat → Nat) (L : List xD) (own : String) (h : Nat) (q : Nat × Bool × Nat × Bool × xT) : Prop := xCallee l D T ad L own h q ∨ (1 ≤ h ∧ xMath own q)
theorem xCOk_of2 {Q : State → Prop} {h : Nat} {q : Nat × Bool × Nat × Bool × xT} (hX : xX p s m args c D T cc nL own) (hq : xCallee2 l D T ad L own h q) : xCOk p l e (xrm h) s m args below meth c D T ad L nL Q cc q := by
  rcases hq with hq | ⟨h1, hini, hq⟩
  · exact xCOk_of hX hq
  · obtain ⟨hx, hb, hml, hown, hts, hK, hN⟩ := id hX
    have hlo : ∀ rest : List xV, rest.length ≤ 8 → ((rest.map (xv ad)).map fun v => v.category).sum + 13 ≤ (xrm h).locals := fun rest hr => by
      rw [xsum]
      show rest.length + 13 ≤ 40 * h
      omega
    obtain ⟨idx, q2⟩ := q
    rcases hq with ⟨rfl, w1, w2, w3⟩ | ⟨rfl, w1, w2, w3⟩
    · intro pc lv as rest M Post hdec hlen hrest htr hgo H locs ls hP hS hl
      obtain ⟨a, b, rfl, ha, hb', hpost⟩ := htr
      have hsz : ls.size = nL := hl.2.choose_spec.1.1
      refine va_mmax hx hb (hml.trans hsz.symm) hown (hts _ w1) (hts _ w2) (hts _ hini) (hts _ w3) h1 (hlo rest hrest) (Nat.zero_le _) (Nat.zero_le _) hdec ?_
      have h2 := hgo _ M hpost H locs ls hP hS hl
      have e2 : (if xi a < xi b then xi b else xi a) = xi (max a b) := by
        by_cases hab : a < b
        · rw [if_pos ((xi_lt ha hb').mpr hab), Int.max_eq_right (by omega)]
        · rw [if_neg (fun z => hab ((xi_lt ha hb').mp z)), Int.max_eq_left (by omega)]
      rw [e2]
      exact h2
    · intro pc lv as rest M Post hdec hlen hrest htr hgo H locs ls hP hS hl
      obtain ⟨a, b, rfl, ha, hb', hpost⟩ := htr
      have hsz : ls.size = nL := hl.2.choose_spec.1.1
      refine va_mmin hx hb (hml.trans hsz.symm) hown (hts _ w1) (hts _ w2) (hts _ hini) (hts _ w3) h1 (hlo rest hrest) (Nat.zero_le _) (Nat.zero_le _) hdec ?_
      have h2 := hgo _ M hpost H locs ls hP hS hl
      have e2 : (if xi b < xi a then xi b else xi a) = xi (min a b) := by
        by_cases hab : b < a
        · rw [if_pos ((xi_lt hb' ha).mpr hab), Int.min_eq_right (by omega)]
        · rw [if_neg (fun z => hab ((xi_lt hb' ha).mp z)), Int.min_eq_left (by omega)]
      rw [e2]
      exact h2
set_option maxHeartbeats 4000000 in
/-- A METHOD: its code, its cuts with an invariant and a measure, its callees -/
theorem xmet2 {y : MethodName} {ret : Option FieldType} {h : Nat} {tr : xT} {fld : xFld} {cals : xCal} {cst : xCst} {rt : Nat} {I : Nat → Option (Instr × List Nat)} {cut : Nat → Bool} (hO : xOk ad L)
    (hy : plainName y.cls = true) (hrt : (rt = 0 → ret = none) ∧ (rt = 1 → ret = some .int) ∧ (rt = 2 → ret = some .boolean)) (hI : xIOk cc I) (hF : ∀ q ∈ fld, xFOk y.cls q) (hKc : ∀ q ∈ cst, xKOk y.cls q) (hC : ∀ q ∈ cals, xCallee2 l D T ad L y.cls h q)
    (hb : ∀ (as : List xV) (M : xM) (Post : xR), tr as M Post → as.length ≤ nL ∧ ∃ (Inv : xG) (μ : Nat → xL → List xV → xM → Nat) (f0 f1 : Nat),
      xw L fld cals cst rt Post I cut Inv f0 0 (xlv as nL) [] M ∧ ∀ pc lv st M', Inv pc lv st M' → xw L fld cals cst rt Post I cut (fun pc2 lv2 st2 M2 => Inv pc2 lv2 st2 M2 ∧ μ pc2 lv2 st2 M2 < μ pc lv st M') f1 pc lv st M') :
    xMet l D T ad L y cc nL ret (decide (rt = 0)) h tr := by
  intro as M Post htr
  obtain ⟨hlen, Inv, μ, f0, f1, h0, h1⟩ := hb as M Post htr
  refine Met.ofW (cc := cc) (maxL := nL) (ret := ret) hy rfl ?_
  intro p e s m args below meth c s₁ B hml hv
  obtain ⟨rfl, hP, hK, hN⟩ := hv
  have hts : ∀ w ∈ xtb, w.before (as.map (xv ad)).toArray s = true := fun w hw => atoms_spec (ws := Cond.code y cc nL ret :: xtb) B.pre w (List.mem_cons_of_mem _ hw)
  have hown : s.vm.findClass y.cls = some m.cls := findClass_of_methodNamed B.named
  have hX : xX p s m (as.map (xv ad)).toArray c D T cc nL y.cls := ⟨B.exec, B.bytes, hml, hown, hts, hK, hN⟩
  have hCs : ∀ q ∈ cals, xCOk p l e (xrm h) s m (as.map (xv ad)).toArray below meth c D T ad L nL (MQ below (xQ D T ad L (decide (rt = 0)) Post) (as.map (xv ad)).toArray s 0 0 (xA ad L)) cc q := fun q hq => xCOk_of2 hX (hC q hq)
  have hInv : ∀ (n : Nat) pc lv st M', Inv pc lv st M' → μ pc lv st M' < n → Wx p l e (xrm h) s m (as.map (xv ad)).toArray below meth c D T ad L nL (MQ below (xQ D T ad L (decide (rt = 0)) Post) (as.map (xv ad)).toArray s 0 0 (xA ad L)) pc lv st M' := by
    intro n
    induction n with
    | zero => intro pc lv st M' _ hlt; omega
    | succ n ih =>
      intro pc lv st M' hi hlt
      exact xw_ok hX B.notSynchronized B.returns hrt hO hF hKc hCs hI (fun pc2 lv2 st2 M2 hk => ih pc2 lv2 st2 M2 hk.1 (by have := hk.2; omega)) f1 pc lv st M' (h1 pc lv st M' hi)
  have hW := xw_ok hX B.notSynchronized B.returns hrt hO hF hKc hCs hI (fun pc2 lv2 st2 M2 hk => hInv _ pc2 lv2 st2 M2 hk (Nat.lt_succ_self _)) f0 0 (xlv as nL) [] M h0
  rw [lg_entry_eq]
  exact hW s.heap [] _ hP va_S.rf (xlv_ent hlen)
end XM2
section XM0
variable {l : Launch} {D : va_G} {T : Nat → ClassId} {ad : Nat → Nat} {L : List xD} {nL : Nat} {cc : ByteArray}
/-- a method without a loop -/
theorem xmet0 {y : MethodName} {ret : Option FieldType} {h : Nat} {tr : xT} {fld : xFld} {cals : xCal} {cst : xCst} {rt : Nat} {I : Nat → Option (Instr × List Nat)} {cut : Nat → Bool} (hO : xOk ad L)
    (hy : plainName y.cls = true) (hrt : (rt = 0 → ret = none) ∧ (rt = 1 → ret = some .int) ∧ (rt = 2 → ret = some .boolean)) (hI : xIOk cc I) (hF : ∀ q ∈ fld, xFOk y.cls q) (hKc : ∀ q ∈ cst, xKOk y.cls q) (hC : ∀ q ∈ cals, xCallee l D T ad L y.cls h q)
    (hb : ∀ (as : List xV) (M : xM) (Post : xR), tr as M Post → as.length ≤ nL ∧ xw L fld cals cst rt Post I cut (fun _ _ _ _ => False) 400 0 (xlv as nL) [] M) :
    xMet l D T ad L y cc nL ret (decide (rt = 0)) h tr := xmet hO hy hrt hI hF hKc hC (fun as M Post ht => ⟨(hb as M Post ht).1, fun _ _ _ _ => False, fun _ _ _ _ => 0, 400, 0, (hb as M Post ht).2, fun _ _ _ _ h => h.elim⟩)
end XM0
-- bits
theorem s_l : ∀ n, n < 32 → ((nI n &&& 31).toBitVec.smod 32).toNat = n := by decide +kernel
theorem nx_and (a b : Nat) : nI a &&& nI b = nI (a &&& b) := by
  apply Int32.toBitVec_inj.1
  show BitVec.ofNat 32 a &&& BitVec.ofNat 32 b = BitVec.ofNat 32 (a &&& b)
  apply BitVec.eq_of_getLsbD_eq
  intro i hi
  simp [hi]
theorem nx_or (a b : Nat) : nI a ||| nI b = nI (a ||| b) := by
  apply Int32.toBitVec_inj.1
  show BitVec.ofNat 32 a ||| BitVec.ofNat 32 b = BitVec.ofNat 32 (a ||| b)
  apply BitVec.eq_of_getLsbD_eq
  intro i hi
  simp [hi]
theorem bs_n (n : Nat) (h : n < 2147483648) : (nI n).toInt = (n : Int) := nI_toInt (by omega)
theorem bs_and {a b : Nat} (ha : a < 2147483648) : (xi (a : Int) &&& xi (b : Int)).toInt = ((a &&& b : Nat) : Int) := by
  rw [xi_nI, xi_nI, nx_and, bs_n]
  exact Nat.lt_of_le_of_lt Nat.and_le_left ha
theorem bs_or {a b : Nat} (ha : a < 2147483648) (hb : b < 2147483648) : (xi (a : Int) ||| xi (b : Int)).toInt = ((a ||| b : Nat) : Int) := by
  rw [xi_nI, xi_nI, nx_or, bs_n]
  exact Nat.or_lt_two_pow (n := 31) ha hb
theorem bs_shr {a k : Nat} (ha : a < 2147483648) (hk : k < 32) : (xi (a : Int) >>> (xi (k : Int) &&& 31)).toInt = ((a / 2 ^ k : Nat) : Int) := by
  rw [xi_nI, xi_nI, pk_shrN ha _ k (s_l k hk), bs_n]
  exact Nat.lt_of_le_of_lt (Nat.div_le_self _ _) ha
theorem bs_shl {a k : Nat} (hk : k < 32) (h : a * 2 ^ k < 2147483648) : (xi (a : Int) <<< (xi (k : Int) &&& 31)).toInt = ((a * 2 ^ k : Nat) : Int) := by
  rw [xi_nI, xi_nI, pk_shlN _ k (s_l k hk) (by omega), bs_n _ h]
theorem bs_one {k : Nat} (hk : k < 31) : (xi 1 <<< (xi (k : Int) &&& 31)).toInt = ((2 ^ k : Nat) : Int) := by
  have h2 : 2 ^ k < 2147483648 := Nat.pow_lt_pow_right (a := 2) (m := k) (n := 31) (by omega) hk
  have := bs_shl (a := 1) (k := k) (by omega) (by omega)
  rw [Nat.one_mul] at this
  exact this
/-- the bit i of a number -/
def tb (x : Int) (i : Int) : Prop := x.toNat.testBit i.toNat = true
theorem tb_iff {a k : Nat} : tb (a : Int) (k : Int) ↔ a / 2 ^ k % 2 = 1 := by
  unfold tb
  rw [Int.toNat_natCast, Int.toNat_natCast, Nat.testBit_eq_decide_div_mod_eq, decide_eq_true_eq]
theorem bs_bit {x i : Int} (hx : 0 ≤ x ∧ x < 2147483648) (hi : 0 ≤ i ∧ i < 32) : (xi ((xi x >>> (xi i &&& 31)).toInt) &&& xi 1).toInt = 1 ∧ tb x i ∨ (xi ((xi x >>> (xi i &&& 31)).toInt) &&& xi 1).toInt = 0 ∧ ¬ tb x i := by
  obtain ⟨a, rfl⟩ : ∃ a : Nat, x = a := ⟨x.toNat, by omega⟩
  obtain ⟨k, rfl⟩ : ∃ k : Nat, i = k := ⟨i.toNat, by omega⟩
  have h1 : a / 2 ^ k < 2147483648 := Nat.lt_of_le_of_lt (Nat.div_le_self _ _) (by omega)
  rw [tb_iff, bs_shr (by omega) (by omega), show (1 : Int) = ((1 : Nat) : Int) from rfl, bs_and h1, Nat.and_one_is_mod]
  omega
