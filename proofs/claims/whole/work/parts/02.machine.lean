/-! A PURE MACHINE over a fixed layout of cells: numbers are Int, memory is cell -> place (an Int) -> Int; 'xs' is one instruction as a predicate transformer, 'xw' many. Then: what it says holds of the machine itself. -/
abbrev xV : Type := Int ⊕ Nat
abbrev xM : Type := Nat → Int → Int
abbrev xL : Type := List (Option xV)
abbrev xD : Type := (Nat × List (Option Nat)) ⊕ (Nat × Nat)
abbrev xG : Type := Nat → xL → List xV → xM → Prop
abbrev xR : Type := Int → xM → Prop
abbrev xT : Type := List xV → xM → xR → Prop
/-- by the pool's number: static, how many values it takes, void, what it asks -/
abbrev xCal : Type := List (Nat × Bool × Nat × Bool × xT)
abbrev xFld : Type := List (Nat × Nat × Int × Nat)
abbrev xCst : Type := List (Nat × Int)
def xi (v : Int) : Int32 := Int32.ofInt v
def rg (v : Int) : Prop := -2147483648 ≤ v ∧ v < 2147483648
def xup (M : xM) (c : Nat) (k : Int) (v : Int) : xM := fun c' k' => if c' = c ∧ k' = k then v else M c' k'
def xlk {α : Type} : List (Nat × α) → Nat → Option α
  | [], _ => none
  | q :: r, k => bif Nat.beq q.1 k then some q.2 else xlk r k
theorem xlk_mem {α : Type} {l : List (Nat × α)} {k : Nat} {v : α} (h : xlk l k = some v) : (k, v) ∈ l := by
  induction l with
  | nil => cases h
  | cons q r ih =>
    obtain ⟨a, b⟩ := q
    simp only [xlk] at h
    cases hb : Nat.beq a k with
    | true =>
      rw [hb] at h
      cases h
      have := Nat.eq_of_beq_eq_true hb
      subst this
      exact List.mem_cons_self
    | false =>
      rw [hb] at h
      exact List.mem_cons_of_mem _ (ih h)
def xbr (cnd : ClassFile.Cond) (a b : Int) (tt ff : Prop) : Prop := match cnd with
  | .eq => (a = b → tt) ∧ (a ≠ b → ff)
  | .ne => (a ≠ b → tt) ∧ (a = b → ff)
  | .lt => (a < b → tt) ∧ (b ≤ a → ff)
  | .ge => (b ≤ a → tt) ∧ (a < b → ff)
  | .gt => (b < a → tt) ∧ (a ≤ b → ff)
  | .le => (a ≤ b → tt) ∧ (b < a → ff)
def xtab (x : Int) (go : Nat → Prop) : Int → List Nat → Prop
  | _, [] => True
  | v, o :: r => (x = v → go o) ∧ xtab x go (v + 1) r
def xb01 (b : Nat) (x : Int) (P : Prop) : Prop := match b with
  | 0 => P
  | 1 => (x = 0 ∨ x = 1) ∧ P
  | _ => False
/-- one instruction -/
def xs (L : List xD) (fld : xFld) (cals : xCal) (cst : xCst) (rt : Nat) (Rt : xR) (go : xG) (ins : Instr) (tg : List Nat) (pc : Nat) (lv : xL) (st : List xV) (M : xM) : Prop := match ins with
  | .iconst n => go (pc + 1) lv (.inl n :: st) M
  | .bipush n => go (pc + 2) lv (.inl n :: st) M
  | .sipush n => go (pc + 3) lv (.inl n :: st) M
  | .ldc_w k => match xlk cst k with
    | some v => go (pc + 3) lv (.inl v :: st) M
    | none => False
  | .iload_n k => match lv[k.val]? with
    | some (some (.inl x)) => go (pc + 1) lv (.inl x :: st) M
    | _ => False
  | .iload k => match lv[k]? with
    | some (some (.inl x)) => go (pc + 2) lv (.inl x :: st) M
    | _ => False
  | .aload_n k => match lv[k.val]? with
    | some (some (.inr x)) => go (pc + 1) lv (.inr x :: st) M
    | _ => False
  | .istore_n k => match st with
    | .inl x :: r => bif Nat.blt k.val lv.length then go (pc + 1) (lv.set k.val (some (.inl x))) r M else False
    | _ => False
  | .istore k => match st with
    | .inl x :: r => bif Nat.blt k lv.length then go (pc + 2) (lv.set k (some (.inl x))) r M else False
    | _ => False
  | .iinc k n => match lv[k]? with
    | some (some (.inl x)) => go (pc + 3) (lv.set k (some (.inl (x + n)))) st M
    | _ => False
  | .iadd => match st with
    | .inl b :: .inl a :: r => go (pc + 1) lv (.inl (a + b) :: r) M
    | _ => False
  | .isub => match st with
    | .inl b :: .inl a :: r => go (pc + 1) lv (.inl (a - b) :: r) M
    | _ => False
  | .imul => match st with
    | .inl b :: .inl a :: r => go (pc + 1) lv (.inl (a * b) :: r) M
    | _ => False
  | .idiv => match st with
    | .inl b :: .inl a :: r => (0 ≤ a ∧ a < 2147483648 ∧ 0 < b ∧ b < 2147483648) ∧ go (pc + 1) lv (.inl (a / b) :: r) M
    | _ => False
  | .irem => match st with
    | .inl b :: .inl a :: r => (0 ≤ a ∧ a < 2147483648 ∧ 0 < b ∧ b < 2147483648) ∧ go (pc + 1) lv (.inl (a % b) :: r) M
    | _ => False
  | .iand => match st with
    | .inl b :: .inl a :: r => go (pc + 1) lv (.inl (xi a &&& xi b).toInt :: r) M
    | _ => False
  | .ior => match st with
    | .inl b :: .inl a :: r => go (pc + 1) lv (.inl (xi a ||| xi b).toInt :: r) M
    | _ => False
  | .ixor => match st with
    | .inl b :: .inl a :: r => go (pc + 1) lv (.inl (xi a ^^^ xi b).toInt :: r) M
    | _ => False
  | .ishl => match st with
    | .inl b :: .inl a :: r => go (pc + 1) lv (.inl (xi a <<< (xi b &&& 31)).toInt :: r) M
    | _ => False
  | .ishr => match st with
    | .inl b :: .inl a :: r => go (pc + 1) lv (.inl (xi a >>> (xi b &&& 31)).toInt :: r) M
    | _ => False
  | .iushr => match st with
    | .inl b :: .inl a :: r => go (pc + 1) lv (.inl (((xi a).toUInt32 >>> ((xi b).toUInt32 &&& Int32.toUInt32 31)).toInt32).toInt :: r) M
    | _ => False
  | .dup => match st with
    | v :: r => go (pc + 1) lv (v :: v :: r) M
    | _ => False
  | .dup2 => match st with
    | v :: w :: r => go (pc + 1) lv (v :: w :: v :: w :: r) M
    | _ => False
  | .pop => match st with
    | _ :: r => go (pc + 1) lv r M
    | _ => False
  | .goto _ => match tg with
    | t :: _ => go t lv st M
    | [] => False
  | .ifCond cnd _ => match st with
    | .inl a :: r => match tg with
      | t :: _ => rg a ∧ xbr cnd a 0 (go t lv r M) (go (pc + 3) lv r M)
      | [] => False
    | _ => False
  | .if_icmp cnd _ => match st with
    | .inl b :: .inl a :: r => match tg with
      | t :: _ => rg a ∧ rg b ∧ xbr cnd a b (go t lv r M) (go (pc + 3) lv r M)
      | [] => False
    | _ => False
  | .tableswitch _ lo hi _ => match st with
    | .inl x :: r => match tg with
      | t :: ts => rg x ∧ (x < lo → go t lv r M) ∧ (hi < x → go t lv r M) ∧ xtab x (fun o => go o lv r M) lo ts
      | [] => False
    | _ => False
  | .getfield idx => match st with
    | .inr c :: r => match xlk fld idx with
      | some (ci, k, _) => match L[c]? with
        | some (.inl (ci', fs)) => bif Nat.beq ci' ci then (match fs[k.toNat]? with
          | some (some c') => go (pc + 3) lv (.inr c' :: r) M
          | some none => go (pc + 3) lv (.inl (M c k) :: r) M
          | none => False) else False
        | _ => False
      | none => False
    | _ => False
  | .putfield idx => match st with
    | .inl x :: .inr c :: r => match xlk fld idx with
      | some (ci, k, b) => match L[c]? with
        | some (.inl (ci', fs)) => bif Nat.beq ci' ci then (match fs[k.toNat]? with
          | some none => xb01 b x (go (pc + 3) lv r (xup M c k x))
          | _ => False) else False
        | _ => False
      | none => False
    | _ => False
  | .iaload => match st with
    | .inl i :: .inr c :: r => match L[c]? with
      | some (.inr (0, n)) => (0 ≤ i ∧ i < (n : Int)) ∧ go (pc + 1) lv (.inl (M c i) :: r) M
      | _ => False
    | _ => False
  | .baload => match st with
    | .inl i :: .inr c :: r => match L[c]? with
      | some (.inr (1, n)) => (0 ≤ i ∧ i < (n : Int)) ∧ go (pc + 1) lv (.inl (M c i) :: r) M
      | _ => False
    | _ => False
  | .iastore => match st with
    | .inl x :: .inl i :: .inr c :: r => match L[c]? with
      | some (.inr (0, n)) => (0 ≤ i ∧ i < (n : Int)) ∧ go (pc + 1) lv r (xup M c i x)
      | _ => False
    | _ => False
  | .bastore => match st with
    | .inl x :: .inl i :: .inr c :: r => match L[c]? with
      | some (.inr (1, n)) => (0 ≤ i ∧ i < (n : Int)) ∧ (x = 0 ∨ x = 1) ∧ go (pc + 1) lv r (xup M c i x)
      | _ => False
    | _ => False
  | .arraylength => match st with
    | .inr c :: r => match L[c]? with
      | some (.inr (0, n)) => go (pc + 1) lv (.inl (n : Int) :: r) M
      | _ => False
    | _ => False
  | .invokevirtual idx => match xlk cals idx with
    | some (false, n, vd, tr) => bif Nat.ble n st.length && Nat.ble st.length (n + 8) then tr (st.take n).reverse M (fun x M' => go (pc + 3) lv (bif vd then st.drop n else .inl x :: st.drop n) M') else False
    | _ => False
  | .invokestatic idx => match xlk cals idx with
    | some (true, n, vd, tr) => bif Nat.ble n st.length && Nat.ble st.length (n + 8) then tr (st.take n).reverse M (fun x M' => go (pc + 3) lv (bif vd then st.drop n else .inl x :: st.drop n) M') else False
    | _ => False
  | .ireturn => match st with
    | [.inl x] => match rt with
      | 1 => Rt x M
      | 2 => (x = 0 ∨ x = 1) ∧ Rt x M
      | _ => False
    | _ => False
  | .return_ => match st with
    | [] => match rt with
      | 0 => Rt 0 M
      | _ => False
    | _ => False
  | _ => False
/-- many instructions, up to a cut -/
def xw (L : List xD) (fld : xFld) (cals : xCal) (cst : xCst) (rt : Nat) (Rt : xR) (I : Nat → Option (Instr × List Nat)) (cut : Nat → Bool) (K : xG) : Nat → xG
  | 0 => fun _ _ _ _ => False
  | n + 1 => fun pc lv st M => match I pc with
    | some (ins, tg) => xs L fld cals cst rt Rt (fun pc' lv' st' M' => bif cut pc' then K pc' lv' st' M' else xw L fld cals cst rt Rt I cut K n pc' lv' st' M') ins tg pc lv st M
    | none => False
/-- what a row of the table must bear out beside the decoded instruction: the targets, small numbers -/
def xtg (ins : Instr) (tg : List Nat) (pc : Nat) : Bool := match ins with
  | .bipush n => decide (-128 ≤ n) && decide (n < 128)
  | .sipush n => decide (-32768 ≤ n) && decide (n < 32768)
  | .goto off => match tg with
    | t :: _ => decide ((pc : Int) + off = (t : Int))
    | [] => true
  | .ifCond _ off => match tg with
    | t :: _ => decide ((pc : Int) + off = (t : Int))
    | [] => true
  | .if_icmp _ off => match tg with
    | t :: _ => decide ((pc : Int) + off = (t : Int))
    | [] => true
  | .tableswitch d lo hi offs => match tg with
    | t :: ts => decide ((pc : Int) + d = (t : Int)) && decide (hi = lo + offs.size - 1) && decide (offs.toList.map (fun o => (pc : Int) + o) = ts.map (fun (t : Nat) => (t : Int)))
    | [] => true
  | _ => true
/-- an instruction's length; 0: any -/
def xlen : Instr → Nat
  | .bipush _ => 2
  | .sipush _ => 3
  | .ldc_w _ => 3
  | .iload _ => 2
  | .istore _ => 2
  | .iinc _ _ => 3
  | .goto _ => 3
  | .ifCond _ _ => 3
  | .if_icmp _ _ => 3
  | .getfield _ => 3
  | .putfield _ => 3
  | .invokevirtual _ => 3
  | .invokestatic _ => 3
  | .tableswitch _ _ _ _ => 0
  | _ => 1
