/-! THE CLAIM OUT OF ONE WALK OF THE LAW'S BODY. Your part is whole_start (and what it stands on); all else here is the same for every law, but numbers. -/
def R_law : String := "NetShapeLaw"
def lw_P (b : Addr) (xs : List Int32) (args : Array Value) (s : State) : Prop := args = #[.ref b] ∧ s.IntsAt b xs ∧ xs.length ≤ 2048 ∧ (Jvm.Cond.and given_1 narrow_1).before args s = true
def lw_Q (_ : Array Value) (s : State) (o : Outcome) (t : State) : Prop := o = .returned (some (.int 1)) ∧ Framed s o t [] 600000 7302250
def lw_Z (below : List Frame) (a : Array Value) (s : State) : State → Prop := fun t => ∃ o, t.status = .running ∧ Ended t below o ∧ lw_Q a s o t
/-- the law's own end, with 1 on the stack, nothing written that was there before, its room as the claim has it -/
theorem lw_ret {p : Program} {l : Launch} {e : Env} {s : State} {m : MethodId} {below : List Frame} {meth : Method} {c : Code} {b : Nat} (hx : p.tables.exec = Jvm.exec) (hb : c.code = code) (hr : meth.sig.returnType = ret) (hlocks : meth.locks = false) {pc : Nat} {H : Heap} {ls : Array Slot} (hdg : decode code pc = .ok (.ireturn, 1)) : W p l e room_1 s m #[Value.ref b] below meth c H [] 600000 7302250 (lw_Z below #[Value.ref b] s) (F0 m pc ls [.int 1]) := by
  intro T hT X
  obtain ⟨fs, hret, hrun, hended, hW, hframe⟩ := X.leave (v := some (.int 1)) (hlocks := hlocks) (fun h => by rw [hr] at h; cases h)
  have hmeth' : T.vm.method? m = some meth := X.method'
  refine ⟨T.setFrames fs, ?_, .returned (some (.int 1)), hrun, hended, rfl, ⟨_, rfl⟩, hW, hframe⟩
  jvm_step X.here [X.here.top, hx, hb, hdg, hmeth', hr, ret, narrow_b1]
  (try refine ⟨rfl, ?_⟩); (try refine ⟨rfl, ?_⟩)
  first | (intro acts; rw [hret _ acts rfl rfl rfl]) | rw [hret _ _ rfl rfl rfl]
  exact Steps.refl _
/-- what holds at the law's entry: the machine, the code, the tables' words (any of lw_tbl by 'hts w (by decide +kernel)'), the script of L ints xs at the cell b, what the Statement gives of the start (any of its parts by flat_of_before) -/
def lw_At (p : Program) (s : State) (m : MethodId) (meth : Method) (c : Code) (b L : Nat) (xs : Nat → Int32) : Prop :=
  p.tables.exec = Jvm.exec ∧ c.code = code ∧ meth.sig.returnType = ret ∧ c.maxLocals = 4 ∧ s.vm.findClass R_law = some m.cls ∧ (∀ w ∈ lw_tbl, w.before #[Value.ref b] s = true) ∧ va_X b L xs s s.heap ∧ b < s.heap.size ∧ meth.locks = false ∧ (Jvm.Cond.and given_1 narrow_1).before #[Value.ref b] s = true
/-! a call from the law's body: one object changes, the other stays -/
theorem va_lt {D : va_G} {cl : List vw_C} {q : Nat × va_E} {H : Heap} (h : va_at D cl q H) : q.1 < H.size := by
  obtain ⟨a, e⟩ := q
  cases e with
  | inl o => exact (Array.getElem?_eq_some_iff.mp h).1
  | inr o =>
    obtain ⟨r, h1, cell, g1, -⟩ := h
    exact (Array.getElem?_eq_some_iff.mp g1).1
section LW
variable {p : Program} {l : Launch} {e : Env} {R : Room} {s : State} {m : MethodId} {args : Array Value} {below : List Frame} {meth : Method} {c : Code}
variable {D : va_G} {T : Nat → ClassId} {ad : Nat → Nat} {L1 : List xD}
theorem lcall {Q : State → Prop} {H H0 : Heap} {locs : List Loc} {cells slots pc : Nat} {ls : Array Slot} {st0 rest : List Value} {Post : xR} {a : Array Value} {vd : Bool} {A0 : Nat → Prop} (hr : va_Run p l e R s m args below meth c H locs cells slots 0 0 (F0 m pc ls st0) rest (xQ D T ad L1 vd Post a) (xA ad L1)) (hS : va_S A0 H0 H locs) (hA : ∀ q, xA ad L1 q → A0 q)
    (kk : ∀ (r : Int) (M : xM) (H1 : Heap) (locs1 : List Loc), Post r M → va_P D vwCl (xW T ad L1 M) H1 → (∀ q : Nat, q < H.size → ¬ xA ad L1 q → H1[q]? = H[q]?) → va_S A0 H0 H1 locs1 → W p l e R s m args below meth c H1 locs1 cells slots Q (F0 m (pc + 3) ls ((xrv vd r).toList ++ rest))) : W p l e R s m args below meth c H locs cells slots Q (F0 m pc ls st0) := by
  intro S hT X
  obtain ⟨v, st₀, t, T', L', h0, X', hL, e1, e2, ⟨⟨r, M, hv, hp, hb⟩, hz, hk⟩, st⟩ := hr S hT X
  cases hv
  rw [h0] at hz hk
  obtain ⟨t2, a1, b1⟩ := kk r M T'.heap (locs ++ L') hp (by rw [e1]; exact hb.1) (fun q h1 h2 => by rw [e1]; exact hk q h1 h2)
    ⟨Nat.le_trans hS.1 (by rw [e1]; exact hz), fun q h1 h2 => by rw [e1, hk q (Nat.lt_of_lt_of_le h1 hS.1) (fun z => h2 (hA q z))]; exact hS.2.1 q h1 h2, fun q hq => by
      rcases List.mem_append.mp hq with h | h
      · exact hS.2.2 q h
      · exact hA _ (hL q h)⟩ T' rfl X'
  exact ⟨t2, st t2 a1, b1⟩
variable {b L : Nat} {xs : Nat → Int32} {ls : Array Slot}
set_option maxHeartbeats 4000000 in
theorem lcallO {Q : State → Prop} {wo : va_W} {H : Heap} {locs : List Loc} {pc : Nat} {M : xM} {Post : xR} {y : MethodName} {ccy : ByteArray} {nLy hc np idx ci N0 : Nat} {ret : Option FieldType} {as : List xV} {rest : List Value} {tr : xT} {fs : List (Option Nat)} {Tt : u_T}
    (C0 : lw_At p s m meth c b L xs) (hK : va_K D vwCl [(T 0, .int), (T 1, .boolean)] s) (hN : xN s) (hsz : ls.size = 4)
    (hM : xMet l D T ad L1 y ccy nLy ret false hc tr) (hh : hc ≤ 100) (hY : xYOk y ccy nLy ret np) (hlk : xLink R_law idx y false) (hL0 : L1[0]? = some (.inl (ci, fs))) (hcl : vwCl[ci]? = some (y.cls, Tt, N0))
    (hA : ∀ q, xA ad L1 q → s.heap.size ≤ q) (hwo : ∀ (k : Nat) (q : Nat × va_E), wo[k]? = some q → ¬ xA ad L1 q.1)
    (hP : va_P D vwCl (xW T ad L1 M) H) (hO : va_P D vwCl wo H) (hS : va_S (fun q : Nat => s.heap.size ≤ q) s.heap H locs)
    (hdec : decode code pc = .ok (.invokevirtual idx, 3)) (hlen : as.length = np) (hrest : (rest.map fun v => v.category).sum ≤ 8) (htr : tr (.inr 0 :: as) M Post)
    (kk : ∀ (r : Int) (M' : xM) (H1 : Heap) (locs1 : List Loc), Post r M' → va_P D vwCl (xW T ad L1 M') H1 → va_P D vwCl wo H1 → va_S (fun q : Nat => s.heap.size ≤ q) s.heap H1 locs1 → W p l e room_1 s m #[Value.ref b] below meth c H1 locs1 29 384428 Q (F0 m (pc + 3) ls (.int (xi r) :: rest))) :
    W p l e room_1 s m #[Value.ref b] below meth c H locs 29 384428 Q (F0 m pc ls ((as.map (xv ad)).reverse ++ .ref (ad 0) :: rest)) := by
  obtain ⟨hx, hb, hr, hml, hown, hts0, hX, hbl, hlocks, hgv⟩ := id C0
  obtain ⟨y1, y2, y3, y4, y5⟩ := hY
  obtain ⟨hin, hsel, hlink⟩ := hlk
  have hts : ∀ w ∈ xtb, w.before #[Value.ref b] s = true := fun w hw => hts0 w (List.mem_filter.mp hw).1
  have hMt := hM (.inr 0 :: as) M Post htr
  have hG : ∀ w ∈ (Cond.code y ccy nLy ret :: xtb), ∀ (a' : Array Value) (U : State), s.WarmedH U.vm → w.before a' U = true := by
    intro w hw a' U hW
    have hw' : w ∈ xtb := by
      rcases List.mem_cons.mp hw with rfl | h2
      · exact y2
      · exact h2
    exact word_at hW (xtb_good hw') (hts w hw')
  have hfr : (xrm hc).frames + 1 ≤ room_1.frames := by
    show hc + 1 ≤ 2048
    omega
  have hlo : 8 + (nLy + 11) + (xrm hc).locals ≤ room_1.locals := by
    show 8 + (nLy + 11) + 40 * hc ≤ 84000
    omega
  have hsig : ∀ sig, parseMethodDescriptor y.desc = some sig → np = sig.parameters.length := fun sig hs => by
    rw [hs] at y5
    exact (Option.some.inj y5).symm
  have hpre : ∀ U : State, U.heap = H → s.WarmedH U.vm → va_Pc ((.inr 0 :: as : List xV).map (xv ad)) (xU D T ad L1 M) ((.inr 0 :: as : List xV).map (xv ad)).toArray U := fun U hU hW => ⟨rfl, by rw [hU]; exact hP, va_K.moved hW.alike hK, hN.warm hW⟩
  have hrcv := va_recv hK hP hcl (xW_get hL0)
  refine lcall (va_runV (Ts := xtb) (own := R_law) (C := y.cls) (n := np) (As := as.map (xv ad)) (b := ad 0) ⟨hx, hb, hml, hown, hts⟩ hMt ⟨⟨rfl, rfl, hfr, hlo, hG, List.mem_cons_self, hts _ y2, hts _ y3, y4, hsig, hts _ hlink⟩, hts _ hin, hts _ hsel⟩ ⟨xU.blind, hrcv, hpre⟩ rfl (by rw [List.length_map]; exact hlen) hsz rfl (lv_room hrest) hdec ⟨Nat.le_of_ble_eq_true rfl, Nat.le_of_ble_eq_true rfl⟩) hS hA (fun r M' H1 locs1 hp hP1 hkeep hS1 => ?_)
  exact kk r M' H1 locs1 hp hP1 (hO.kept (fun k q hk => hkeep q.1 (va_lt (hO k q hk)) (hwo k q hk))) hS1
end LW

