/-! loops, calls, contracts of the pure machine -/
section XM
variable {p : Program} {l : Launch} {e : Env} {R : Room} {s : State} {m : MethodId} {args : Array Value} {below : List Frame} {meth : Method} {c : Code}
variable {D : va_G} {T : Nat → ClassId} {ad : Nat → Nat} {L : List xD} {nL : Nat} {cc : ByteArray} {own : String}
/-- the rows of a method's code -/
def xIOk (cc : ByteArray) (I : Nat → Option (Instr × List Nat)) : Prop := ∀ (pc : Nat) (ins : Instr) (tg : List Nat), I pc = some (ins, tg) → ∃ len, decode cc pc = .ok (ins, len) ∧ (xlen ins = 0 ∨ len = xlen ins) ∧ xtg ins tg pc = true
def xIchk (cc : ByteArray) (I : Nat → Option (Instr × List Nat)) (pc : Nat) : Bool := match I pc with
  | none => true
  | some (ins, tg) => match decode cc pc with
    | .ok q => decide (q.1 = ins) && (decide (xlen ins = 0) || decide (q.2 = xlen ins)) && xtg ins tg pc
    | .error _ => false
theorem xIOk_of {cc : ByteArray} {I : Nat → Option (Instr × List Nat)} {N : Nat} (h1 : ∀ pc, N ≤ pc → I pc = none) (h2 : (List.range N).all (xIchk cc I) = true) : xIOk cc I := by
  intro pc ins tg hi
  by_cases hN : N ≤ pc
  · rw [h1 pc hN] at hi; cases hi
  · have h3 := List.all_eq_true.mp h2 pc (List.mem_range.mpr (by omega))
    unfold xIchk at h3
    rw [hi] at h3
    dsimp only at h3
    split at h3
    · rename_i q hq
      obtain ⟨a, b⟩ := q
      simp only [Bool.and_eq_true, Bool.or_eq_true, decide_eq_true_eq] at h3
      obtain ⟨⟨rfl, h4⟩, h5⟩ := h3
      exact ⟨b, hq, h4, h5⟩
    · cases h3
theorem xw_ok {fld : xFld} {cals : xCal} {cst : xCst} {rt : Nat} {Rt : xR} {ret : Option FieldType} {I : Nat → Option (Instr × List Nat)} {cut : Nat → Bool} {K : xG}
    (hX : xX p s m args c D T cc nL own) (hlocks : meth.locks = false) (hr : meth.sig.returnType = ret) (hrt : (rt = 0 → ret = none) ∧ (rt = 1 → ret = some .int) ∧ (rt = 2 → ret = some .boolean))
    (hO : xOk ad L) (hF : ∀ q ∈ fld, xFOk own q) (hKc : ∀ q ∈ cst, xKOk own q) (hC : ∀ q ∈ cals, xCOk p l e R s m args below meth c D T ad L nL (MQ below (xQ D T ad L (decide (rt = 0)) Rt) args s 0 0 (xA ad L)) cc q)
    (hI : xIOk cc I) (hK : ∀ pc lv st M, K pc lv st M → Wx p l e R s m args below meth c D T ad L nL (MQ below (xQ D T ad L (decide (rt = 0)) Rt) args s 0 0 (xA ad L)) pc lv st M) :
    ∀ (n pc : Nat) (lv : xL) (st : List xV) (M : xM), xw L fld cals cst rt Rt I cut K n pc lv st M → Wx p l e R s m args below meth c D T ad L nL (MQ below (xQ D T ad L (decide (rt = 0)) Rt) args s 0 0 (xA ad L)) pc lv st M := by
  intro n
  induction n with
  | zero => intro pc lv st M h; exact h.elim
  | succ n ih =>
    intro pc lv st M h
    unfold xw at h
    split at h
    · rename_i ins tg hins
      obtain ⟨len, hd, hl, ht⟩ := hI _ _ _ hins
      refine xs_ok hX hlocks hr hrt hO hF hKc hC hd hl ht h (fun pc' lv' st' M' hg => ?_)
      cases hc : cut pc' with
      | true => rw [hc] at hg; exact hK _ _ _ _ hg
      | false => rw [hc] at hg; exact ih _ _ _ _ hg
    · exact h.elim
def xrm (h : Nat) : Room := { frames := h, cells := 0, slots := 0, locals := 40 * h }
/-- a method's contract: for every post that the transformer gives, the method comes to it -/
def xMet (l : Launch) (D : va_G) (T : Nat → ClassId) (ad : Nat → Nat) (L : List xD) (y : MethodName) (cc : ByteArray) (nL : Nat) (ret : Option FieldType) (vd : Bool) (h : Nat) (tr : xT) : Prop :=
  ∀ (as : List xV) (M : xM) (Post : xR), tr as M Post → Met l y (.code y cc nL ret :: xtb) (xrm h) (va_Pc (as.map (xv ad)) (xU D T ad L M)) (xQ D T ad L vd Post) 0 0 (xA ad L)
theorem xMet.mono {y : MethodName} {ret : Option FieldType} {vd : Bool} {h : Nat} {tr tr' : xT} (hm : xMet l D T ad L y cc nL ret vd h tr) (hi : ∀ as M Post, tr' as M Post → tr as M Post) : xMet l D T ad L y cc nL ret vd h tr' := fun as M Post ht => hm as M Post (hi _ _ _ ht)
/-- the names of a method: its own name, its code, its locals, its answer, how many parameters -/
def xYOk (y : MethodName) (cc : ByteArray) (nL : Nat) (ret : Option FieldType) (np : Nat) : Prop := nL ≤ 21 ∧ Cond.code y cc nL ret ∈ xtb ∧ Cond.initialized y.cls ∈ xtb ∧ (y.cls ≠ "java/lang/invoke/MethodHandle" ∧ y.cls ≠ "java/lang/invoke/VarHandle") ∧ (parseMethodDescriptor y.desc).map (fun d => d.parameters.length) = some np
def xLink (own : String) (idx : Nat) (y : MethodName) (b : Bool) : Prop := match b with
  | true => Cond.static y ∈ xtb ∧ (Cond.methodLink own idx y ∈ xtb ∨ ∃ host, (own, idx, y, host) ∈ xNest)
  | false => Cond.instanceMethod y ∈ xtb ∧ Cond.selects y.cls y y ∈ xtb ∧ Cond.methodLink own idx y ∈ xtb
def xRecv (L : List xD) (y : MethodName) (tr : xT) : Prop := ∃ (c0 ci : Nat) (fs : List (Option Nat)) (Tt : u_T) (N : Nat), L[c0]? = some (.inl (ci, fs)) ∧ vwCl[ci]? = some (y.cls, Tt, N) ∧ ∀ as M Post, tr as M Post → ∃ as', as = .inr c0 :: as'
def xCallee (l : Launch) (D : va_G) (T : Nat → ClassId) (ad : Nat → Nat) (L : List xD) (own : String) (h : Nat) (q : Nat × Bool × Nat × Bool × xT) : Prop :=
  ∃ (y : MethodName) (cc : ByteArray) (nL : Nat) (ret : Option FieldType) (hc np : Nat), hc < h ∧ xYOk y cc nL ret np ∧ xMet l D T ad L y cc nL ret q.2.2.2.1 hc q.2.2.2.2 ∧ xLink own q.1 y q.2.1 ∧ ((q.2.1 = true ∧ q.2.2.1 = np) ∨ (q.2.1 = false ∧ q.2.2.1 = np + 1 ∧ xRecv L y q.2.2.2.2))
theorem xtb_good {w : Cond} (h : w ∈ xtb) : (w.onTables && w.keeps) = true ∨ ∃ ty, w = .arrayClass ty := good_of_word (List.mem_filter.mp h).2
theorem xU.blind {M : xM} {as : List Value} : FrameBlind (va_Pc as (xU D T ad L M)) := by
  intro a U g mk q
  obtain ⟨q0, qP, qK, qN⟩ := q
  exact ⟨q0, qP, va_K.moved (u := U) (U := U.calling g mk a) (Vm.Alike.refl U.vm) qK, xN.same (U := U.calling g mk a) rfl qN⟩
theorem xcall {Q : State → Prop} {H : Heap} {locs : List Loc} {pc : Nat} {ls : Array Slot} {st0 rest : List Value} {Post : xR} {a : Array Value} {vd : Bool} (hr : va_Run p l e R s m args below meth c H locs 0 0 0 0 (F0 m pc ls st0) rest (xQ D T ad L vd Post a) (xA ad L)) (hS : va_S (xA ad L) s.heap H locs)
    (kk : ∀ (r : Int) (M : xM) (H1 : Heap) (locs1 : List Loc), Post r M → va_P D vwCl (xW T ad L M) H1 → va_S (xA ad L) s.heap H1 locs1 → W p l e R s m args below meth c H1 locs1 0 0 Q (F0 m (pc + 3) ls ((xrv vd r).toList ++ rest))) : W p l e R s m args below meth c H locs 0 0 Q (F0 m pc ls st0) := by
  intro S hT X
  obtain ⟨v, st₀, t, T', L', h0, X', hL, e1, e2, ⟨⟨r, M, hv, hp, hb⟩, hz, hk⟩, st⟩ := hr S hT X
  cases hv
  rw [h0] at hz hk
  obtain ⟨t2, a1, b1⟩ := kk r M T'.heap (locs ++ L') hp (by rw [e1]; exact hb.1)
    ⟨Nat.le_trans hS.1 (by rw [e1]; exact hz), fun q h1 h2 => by rw [e1, hk q (Nat.lt_of_lt_of_le h1 hS.1) h2]; exact hS.2.1 q h1 h2, fun q hq => by
      rcases List.mem_append.mp hq with h | h
      · exact hS.2.2 q h
      · exact hL q h⟩ T' rfl X'
  exact ⟨t2, st t2 a1, b1⟩
theorem xsum (ad : Nat → Nat) (rest : List xV) : ((rest.map (xv ad)).map fun v => v.category).sum = rest.length := by
  induction rest with
  | nil => rfl
  | cons v r ih => simp only [List.map_cons, List.sum_cons, List.length_cons, xv_cat, ih]; omega
theorem xto (ad : Nat → Nat) (vd : Bool) (r : Int) (rest : List xV) : (xrv vd r).toList ++ rest.map (xv ad) = (bif vd then rest else .inl r :: rest).map (xv ad) := by cases vd <;> rfl
set_option maxHeartbeats 4000000 in
/-- a callee's contract, at a call -/
theorem xCOk_of {Q : State → Prop} {h : Nat} {q : Nat × Bool × Nat × Bool × xT} (hX : xX p s m args c D T cc nL own) (hq : xCallee l D T ad L own h q) : xCOk p l e (xrm h) s m args below meth c D T ad L nL Q cc q := by
  obtain ⟨hx, hb, hml, hown, hts, hK, hN⟩ := id hX
  obtain ⟨y, ccy, nLy, ret, hc, np, hlt, ⟨y1, y2, y3, y4, y5⟩, hM, hlk, hk⟩ := hq
  intro pc lv as rest M Post hdec hlen hrest htr hgo H locs ls hP hS hl
  have hMt := hM as M Post htr
  have hG : ∀ w ∈ (Cond.code y ccy nLy ret :: xtb), ∀ (a' : Array Value) (U : State), s.WarmedH U.vm → w.before a' U = true := by
    intro w hw a' U hW
    have hw' : w ∈ xtb := by
      rcases List.mem_cons.mp hw with rfl | h2
      · exact y2
      · exact h2
    exact word_at hW (xtb_good hw') (hts w hw')
  have hfr : (xrm hc).frames + 1 ≤ (xrm h).frames := hlt
  have hlo : 8 + (nLy + 11) + (xrm hc).locals ≤ (xrm h).locals := by
    show 8 + (nLy + 11) + 40 * hc ≤ 40 * h
    omega
  have hsig : ∀ sig, parseMethodDescriptor y.desc = some sig → np = sig.parameters.length := fun sig hs => by
    rw [hs] at y5
    exact (Option.some.inj y5).symm
  have hpre : ∀ U : State, U.heap = H → s.WarmedH U.vm → va_Pc (as.map (xv ad)) (xU D T ad L M) (as.map (xv ad)).toArray U := fun U hU hW => ⟨rfl, by rw [hU]; exact hP, va_K.moved hW.alike hK, hN.warm hW⟩
  have hroom : 2 * (F0 m pc ls ((as.reverse ++ rest).map (xv ad))).monitorRoom + ((rest.map (xv ad)).map fun v => v.category).sum ≤ 8 := lv_room (by rw [xsum]; exact hrest)
  have hstk : (as.reverse ++ rest).map (xv ad) = (as.map (xv ad)).reverse ++ rest.map (xv ad) := by rw [List.map_append, List.map_reverse]
  have hkk : ∀ (r : Int) (M' : xM) (H1 : Heap) (locs1 : List Loc), Post r M' → va_P D vwCl (xW T ad L M') H1 → va_S (xA ad L) s.heap H1 locs1 → W p l e (xrm h) s m args below meth c H1 locs1 0 0 Q (F0 m (pc + 3) ls ((xrv q.2.2.2.1 r).toList ++ rest.map (xv ad))) := fun r M' H1 locs1 hp hP1 hS1 => by
    rw [xto]
    exact hgo r M' hp H1 locs1 ls hP1 hS1 hl
  have hsz : ls.size = nL := hl.2.choose_spec.1.1
  rcases hk with ⟨hb1, hn⟩ | ⟨hb1, hn, c0, ci, fs, Tt, N, hL0, hcl, hrec⟩
  · rw [hb1] at hdec hlk
    obtain ⟨hst, hlink⟩ := hlk
    rcases hlink with hlink | ⟨host, hlink⟩
    · refine xcall (va_runS (Ts := xtb) (own := own) (n := np) ⟨hx, hb, hml, hown, hts⟩ hMt ⟨⟨rfl, rfl, hfr, hlo, hG, List.mem_cons_self, hts _ y2, hts _ y3, y4, hsig, hts _ hlink⟩, hts _ hst⟩ ⟨xU.blind, hpre⟩ rfl (by rw [List.length_map, hlen, hn]) hsz hstk hroom hdec ⟨Nat.le_refl _, Nat.le_refl _⟩) hS hkk
    · refine xcall (va_runSN (Ts := xtb) (own := own) (host := host) (n := np) ⟨hx, hb, hml, hown, hts⟩ hMt ⟨⟨⟨rfl, rfl, hfr, hlo, hG, List.mem_cons_self⟩, hts _ y2, hts _ y3, y4, hsig, va_Nw.use rfl (hN _ hlink)⟩, hts _ hst, trivial⟩ ⟨xU.blind, hpre⟩ rfl (by rw [List.length_map, hlen, hn]) hsz hstk hroom hdec ⟨Nat.le_refl _, Nat.le_refl _⟩) hS hkk
  · rw [hb1] at hdec hlk
    obtain ⟨hin, hsel, hlink⟩ := hlk
    obtain ⟨as', rfl⟩ := hrec as M Post htr
    have hrcv := va_recv hK hP hcl (xW_get hL0)
    refine xcall (va_runV (Ts := xtb) (own := own) (C := y.cls) (n := np) (As := as'.map (xv ad)) (b := ad c0) ⟨hx, hb, hml, hown, hts⟩ hMt ⟨⟨rfl, rfl, hfr, hlo, hG, List.mem_cons_self, hts _ y2, hts _ y3, y4, hsig, hts _ hlink⟩, hts _ hin, hts _ hsel⟩ ⟨xU.blind, hrcv, hpre⟩ rfl (by simp at hlen; rw [List.length_map]; omega) hsz ?_ hroom hdec ⟨Nat.le_refl _, Nat.le_refl _⟩) hS hkk
    show ((Sum.inr c0 :: as').reverse ++ rest).map (xv ad) = _
    simp [xv]
def xlv (as : List xV) (nL : Nat) : xL := as.map some ++ List.replicate (nL - as.length) none
theorem xlv_ent {as : List xV} (h : as.length ≤ nL) : xl ad ((lg_sl (as.map (xv ad)) ++ List.replicate (nL - (lg_sl (as.map (xv ad))).length) Slot.unset).toArray) nL (xlv as nL) := by
  have e1 : lg_sl (as.map (xv ad)) = as.map (fun v => Slot.val (xv ad v)) := by
    clear h
    induction as with
    | nil => rfl
    | cons v r ih =>
      have : lg_sl ((v :: r).map (xv ad)) = (if (xv ad v).category = 2 then [Slot.val (xv ad v), .second] else [Slot.val (xv ad v)]) ++ lg_sl (r.map (xv ad)) := rfl
      rw [this, ih, xv_cat]
      rfl
  have hh := lv_entry (as.map (xv ad)) (n := nL) (by rw [e1, List.length_map]; exact h)
  refine ⟨by simp [xlv]; omega, _, hh, fun i v hi => ?_⟩
  have e2 : ∀ (as : List xV) (j i : Nat) (v : xV), as[i]? = some v → (j + i, xv ad v) ∈ lv_args j (as.map (xv ad)) := by
    intro as
    induction as with
    | nil => intro j i v h; simp at h
    | cons a r ih =>
      intro j i v h
      simp only [List.map_cons, lv_args, xv_cat]
      cases i with
      | zero =>
        simp at h
        subst h
        exact List.mem_cons_self
      | succ i =>
        simp at h
        have := ih (j + 1) i v h
        rw [show j + (i + 1) = j + 1 + i by omega]
        exact List.mem_cons_of_mem _ this
  have h3 : as[i]? = some v := by
    simp only [xlv] at hi
    by_cases hlt : i < as.length
    · rw [List.getElem?_append_left (by simpa using hlt), List.getElem?_map] at hi
      cases hv : as[i]? with
      | none => rw [hv] at hi; cases hi
      | some w => rw [hv] at hi; cases hi; rfl
    · rw [List.getElem?_append_right (by simpa using hlt)] at hi
      rw [List.getElem?_replicate] at hi
      split at hi <;> cases hi
  have := e2 as 0 i v h3
  rwa [Nat.zero_add] at this
set_option maxHeartbeats 4000000 in
/-- A METHOD: its code, its cuts with an invariant and a measure, its callees -/
theorem xmet {y : MethodName} {ret : Option FieldType} {h : Nat} {tr : xT} {fld : xFld} {cals : xCal} {cst : xCst} {rt : Nat} {I : Nat → Option (Instr × List Nat)} {cut : Nat → Bool} (hO : xOk ad L)
    (hy : plainName y.cls = true) (hrt : (rt = 0 → ret = none) ∧ (rt = 1 → ret = some .int) ∧ (rt = 2 → ret = some .boolean)) (hI : xIOk cc I) (hF : ∀ q ∈ fld, xFOk y.cls q) (hKc : ∀ q ∈ cst, xKOk y.cls q) (hC : ∀ q ∈ cals, xCallee l D T ad L y.cls h q)
    (hb : ∀ (as : List xV) (M : xM) (Post : xR), tr as M Post → as.length ≤ nL ∧ ∃ (Inv : xG) (μ : Nat → xL → List xV → xM → Nat) (f0 f1 : Nat),
      xw L fld cals cst rt Post I cut Inv f0 0 (xlv as nL) [] M ∧ ∀ pc lv st M', Inv pc lv st M' → xw L fld cals cst rt Post I cut (fun pc2 lv2 st2 M2 => Inv pc2 lv2 st2 M2 ∧ μ pc2 lv2 st2 M2 < μ pc lv st M') f1 pc lv st M') :
    xMet l D T ad L y cc nL ret (decide (rt = 0)) h tr := by
  intro as M Post htr
  obtain ⟨hlen, Inv, μ, f0, f1, h0, h1⟩ := hb as M Post htr
  refine Met.ofW (cc := cc) (maxL := nL) (ret := ret) hy rfl ?_
  intro p e s m args below meth c s₁ B hml hv
  obtain ⟨rfl, hP, hK, hN⟩ := hv
  have hts : ∀ w ∈ xtb, w.before (as.map (xv ad)).toArray s = true := fun w hw => atoms_spec (ws := Cond.code y cc nL ret :: xtb) B.pre w (List.mem_cons_of_mem _ hw)
  have hown : s.vm.findClass y.cls = some m.cls := findClass_of_methodNamed B.named
  have hX : xX p s m (as.map (xv ad)).toArray c D T cc nL y.cls := ⟨B.exec, B.bytes, hml, hown, hts, hK, hN⟩
  have hCs : ∀ q ∈ cals, xCOk p l e (xrm h) s m (as.map (xv ad)).toArray below meth c D T ad L nL (MQ below (xQ D T ad L (decide (rt = 0)) Post) (as.map (xv ad)).toArray s 0 0 (xA ad L)) cc q := fun q hq => xCOk_of hX (hC q hq)
  have hInv : ∀ (n : Nat) pc lv st M', Inv pc lv st M' → μ pc lv st M' < n → Wx p l e (xrm h) s m (as.map (xv ad)).toArray below meth c D T ad L nL (MQ below (xQ D T ad L (decide (rt = 0)) Post) (as.map (xv ad)).toArray s 0 0 (xA ad L)) pc lv st M' := by
    intro n
    induction n with
    | zero => intro pc lv st M' _ hlt; omega
    | succ n ih =>
      intro pc lv st M' hi hlt
      exact xw_ok hX B.notSynchronized B.returns hrt hO hF hKc hCs hI (fun pc2 lv2 st2 M2 hk => ih pc2 lv2 st2 M2 hk.1 (by have := hk.2; omega)) f1 pc lv st M' (h1 pc lv st M' hi)
  have hW := xw_ok hX B.notSynchronized B.returns hrt hO hF hKc hCs hI (fun pc2 lv2 st2 M2 hk => hInv _ pc2 lv2 st2 M2 hk (Nat.lt_succ_self _)) f0 0 (xlv as nL) [] M h0
  rw [lg_entry_eq]
  exact hW s.heap [] _ hP va_S.rf (xlv_ent hlen)
end XM
