section
-- ===== PART A: goes FIRST, ahead of the names: the tables' words, and 'selects' of the private methods out of them =====
/-- a private method of a class that the tables say can be made, by its rows of tables_1 -/
def lw_okq (q : MethodName × Nat) : Prop := (q.1.cls ≠ "java/lang/invoke/MethodHandle" ∧ q.1.cls ≠ "java/lang/invoke/VarHandle") ∧ Cond.instantiable q.1.cls q.2 ∈ tables_1 ∧ Cond.privateMethod q.1 ∈ tables_1 ∧ Cond.instanceMethod q.1 ∈ tables_1
theorem lw_p0 : lw_okq (⟨"NetShape$Rows", "copy", "(II)V"⟩, 3) := ⟨⟨by decide +kernel, by decide +kernel⟩, List.mem_of_getElem? (i := 20) (by decide +kernel), List.mem_of_getElem? (i := 213) (by decide +kernel), List.mem_of_getElem? (i := 214) (by decide +kernel)⟩
theorem lw_p1 : lw_okq (⟨"NetShape", "forgetAnswers", "()V"⟩, 4) := ⟨⟨by decide +kernel, by decide +kernel⟩, List.mem_of_getElem? (i := 12) (by decide +kernel), List.mem_of_getElem? (i := 219) (by decide +kernel), List.mem_of_getElem? (i := 220) (by decide +kernel)⟩
theorem lw_p2 : lw_okq (⟨"NetShape", "isTrace", "(I)Z"⟩, 4) := ⟨⟨by decide +kernel, by decide +kernel⟩, List.mem_of_getElem? (i := 12) (by decide +kernel), List.mem_of_getElem? (i := 235) (by decide +kernel), List.mem_of_getElem? (i := 236) (by decide +kernel)⟩
theorem lw_p3 : lw_okq (⟨"NetShape$Told", "makeOne", "(II)V"⟩, 3) := ⟨⟨by decide +kernel, by decide +kernel⟩, List.mem_of_getElem? (i := 37) (by decide +kernel), List.mem_of_getElem? (i := 272) (by decide +kernel), List.mem_of_getElem? (i := 273) (by decide +kernel)⟩
theorem lw_p4 : lw_okq (⟨"NetShape$Told", "setApart", "(II)V"⟩, 3) := ⟨⟨by decide +kernel, by decide +kernel⟩, List.mem_of_getElem? (i := 37) (by decide +kernel), List.mem_of_getElem? (i := 279) (by decide +kernel), List.mem_of_getElem? (i := 280) (by decide +kernel)⟩
theorem lw_p5 : lw_okq (⟨"NetShape$Net", "draw", "(II)Z"⟩, 4) := ⟨⟨by decide +kernel, by decide +kernel⟩, List.mem_of_getElem? (i := 53) (by decide +kernel), List.mem_of_getElem? (i := 341) (by decide +kernel), List.mem_of_getElem? (i := 342) (by decide +kernel)⟩
theorem lw_p6 : lw_okq (⟨"NetShape$Net", "silentBox", "(I)I"⟩, 4) := ⟨⟨by decide +kernel, by decide +kernel⟩, List.mem_of_getElem? (i := 53) (by decide +kernel), List.mem_of_getElem? (i := 347) (by decide +kernel), List.mem_of_getElem? (i := 348) (by decide +kernel)⟩
theorem lw_p7 : lw_okq (⟨"NetShape$Net", "join", "(II)V"⟩, 4) := ⟨⟨by decide +kernel, by decide +kernel⟩, List.mem_of_getElem? (i := 53) (by decide +kernel), List.mem_of_getElem? (i := 352) (by decide +kernel), List.mem_of_getElem? (i := 353) (by decide +kernel)⟩
theorem lw_p8 : lw_okq (⟨"NetShape$Net", "isShortest", "(I)Z"⟩, 4) := ⟨⟨by decide +kernel, by decide +kernel⟩, List.mem_of_getElem? (i := 53) (by decide +kernel), List.mem_of_getElem? (i := 360) (by decide +kernel), List.mem_of_getElem? (i := 361) (by decide +kernel)⟩
theorem lw_p9 : lw_okq (⟨"NetShape$LeastNets", "keep", "(I)V"⟩, 10) := ⟨⟨by decide +kernel, by decide +kernel⟩, List.mem_of_getElem? (i := 72) (by decide +kernel), List.mem_of_getElem? (i := 371) (by decide +kernel), List.mem_of_getElem? (i := 372) (by decide +kernel)⟩
theorem lw_p10 : lw_okq (⟨"NetShape$LeastNets", "mayTake", "(II)Z"⟩, 10) := ⟨⟨by decide +kernel, by decide +kernel⟩, List.mem_of_getElem? (i := 72) (by decide +kernel), List.mem_of_getElem? (i := 389) (by decide +kernel), List.mem_of_getElem? (i := 390) (by decide +kernel)⟩
theorem lw_p11 : lw_okq (⟨"NetShape", "boxesOfNames", "()I"⟩, 4) := ⟨⟨by decide +kernel, by decide +kernel⟩, List.mem_of_getElem? (i := 12) (by decide +kernel), List.mem_of_getElem? (i := 403) (by decide +kernel), List.mem_of_getElem? (i := 404) (by decide +kernel)⟩
theorem lw_p12 : lw_okq (⟨"NetShape", "isNet", "(I)Z"⟩, 4) := ⟨⟨by decide +kernel, by decide +kernel⟩, List.mem_of_getElem? (i := 12) (by decide +kernel), List.mem_of_getElem? (i := 422) (by decide +kernel), List.mem_of_getElem? (i := 423) (by decide +kernel)⟩
theorem lw_p13 : lw_okq (⟨"NetShape", "isTraced", "(I)Z"⟩, 4) := ⟨⟨by decide +kernel, by decide +kernel⟩, List.mem_of_getElem? (i := 12) (by decide +kernel), List.mem_of_getElem? (i := 437) (by decide +kernel), List.mem_of_getElem? (i := 438) (by decide +kernel)⟩
theorem lw_p14 : lw_okq (⟨"NetShape$Survey", "addLines", "()V"⟩, 10) := ⟨⟨by decide +kernel, by decide +kernel⟩, List.mem_of_getElem? (i := 109) (by decide +kernel), List.mem_of_getElem? (i := 467) (by decide +kernel), List.mem_of_getElem? (i := 468) (by decide +kernel)⟩
theorem lw_p15 : lw_okq (⟨"NetShape$Survey", "addWays", "(I)V"⟩, 10) := ⟨⟨by decide +kernel, by decide +kernel⟩, List.mem_of_getElem? (i := 109) (by decide +kernel), List.mem_of_getElem? (i := 475) (by decide +kernel), List.mem_of_getElem? (i := 476) (by decide +kernel)⟩
def lw_privs_1 : List (MethodName × Nat) := [(⟨"NetShape$Rows", "copy", "(II)V"⟩, 3), (⟨"NetShape", "forgetAnswers", "()V"⟩, 4), (⟨"NetShape", "isTrace", "(I)Z"⟩, 4), (⟨"NetShape$Told", "makeOne", "(II)V"⟩, 3), (⟨"NetShape$Told", "setApart", "(II)V"⟩, 3), (⟨"NetShape$Net", "draw", "(II)Z"⟩, 4), (⟨"NetShape$Net", "silentBox", "(I)I"⟩, 4), (⟨"NetShape$Net", "join", "(II)V"⟩, 4), (⟨"NetShape$Net", "isShortest", "(I)Z"⟩, 4), (⟨"NetShape$LeastNets", "keep", "(I)V"⟩, 10), (⟨"NetShape$LeastNets", "mayTake", "(II)Z"⟩, 10), (⟨"NetShape", "boxesOfNames", "()I"⟩, 4), (⟨"NetShape", "isNet", "(I)Z"⟩, 4), (⟨"NetShape", "isTraced", "(I)Z"⟩, 4), (⟨"NetShape$Survey", "addLines", "()V"⟩, 10), (⟨"NetShape$Survey", "addWays", "(I)V"⟩, 10)]
theorem lw_r1 : ∀ q ∈ lw_privs_1, lw_okq q := List.forall_mem_cons.mpr ⟨lw_p0, List.forall_mem_cons.mpr ⟨lw_p1, List.forall_mem_cons.mpr ⟨lw_p2, List.forall_mem_cons.mpr ⟨lw_p3, List.forall_mem_cons.mpr ⟨lw_p4, List.forall_mem_cons.mpr ⟨lw_p5, List.forall_mem_cons.mpr ⟨lw_p6, List.forall_mem_cons.mpr ⟨lw_p7, List.forall_mem_cons.mpr ⟨lw_p8, List.forall_mem_cons.mpr ⟨lw_p9, List.forall_mem_cons.mpr ⟨lw_p10, List.forall_mem_cons.mpr ⟨lw_p11, List.forall_mem_cons.mpr ⟨lw_p12, List.forall_mem_cons.mpr ⟨lw_p13, List.forall_mem_cons.mpr ⟨lw_p14, List.forall_mem_cons.mpr ⟨lw_p15, fun _ h => absurd h List.not_mem_nil⟩⟩⟩⟩⟩⟩⟩⟩⟩⟩⟩⟩⟩⟩⟩⟩
theorem lw_p16 : lw_okq (⟨"NetShape$Survey", "addToHeap", "(III)V"⟩, 10) := ⟨⟨by decide +kernel, by decide +kernel⟩, List.mem_of_getElem? (i := 109) (by decide +kernel), List.mem_of_getElem? (i := 481) (by decide +kernel), List.mem_of_getElem? (i := 482) (by decide +kernel)⟩
theorem lw_p17 : lw_okq (⟨"NetShape$Survey", "choosePair", "(I)V"⟩, 10) := ⟨⟨by decide +kernel, by decide +kernel⟩, List.mem_of_getElem? (i := 109) (by decide +kernel), List.mem_of_getElem? (i := 485) (by decide +kernel), List.mem_of_getElem? (i := 486) (by decide +kernel)⟩
theorem lw_p18 : lw_okq (⟨"NetShape$Survey", "choose", "(II)V"⟩, 10) := ⟨⟨by decide +kernel, by decide +kernel⟩, List.mem_of_getElem? (i := 109) (by decide +kernel), List.mem_of_getElem? (i := 489) (by decide +kernel), List.mem_of_getElem? (i := 490) (by decide +kernel)⟩
theorem lw_p19 : lw_okq (⟨"NetShape$Survey", "greatestHeap", "(II)I"⟩, 10) := ⟨⟨by decide +kernel, by decide +kernel⟩, List.mem_of_getElem? (i := 109) (by decide +kernel), List.mem_of_getElem? (i := 493) (by decide +kernel), List.mem_of_getElem? (i := 494) (by decide +kernel)⟩
theorem lw_p20 : lw_okq (⟨"NetShapeModel", "silentMany", "()I"⟩, 21) := ⟨⟨by decide +kernel, by decide +kernel⟩, List.mem_of_getElem? (i := 529) (by decide +kernel), List.mem_of_getElem? (i := 608) (by decide +kernel), List.mem_of_getElem? (i := 609) (by decide +kernel)⟩
theorem lw_p21 : lw_okq (⟨"NetShapeModel", "silentOf", "(I)I"⟩, 21) := ⟨⟨by decide +kernel, by decide +kernel⟩, List.mem_of_getElem? (i := 529) (by decide +kernel), List.mem_of_getElem? (i := 612) (by decide +kernel), List.mem_of_getElem? (i := 613) (by decide +kernel)⟩
theorem lw_p22 : lw_okq (⟨"NetShapeModel", "findNets", "()V"⟩, 21) := ⟨⟨by decide +kernel, by decide +kernel⟩, List.mem_of_getElem? (i := 529) (by decide +kernel), List.mem_of_getElem? (i := 647) (by decide +kernel), List.mem_of_getElem? (i := 648) (by decide +kernel)⟩
theorem lw_p23 : lw_okq (⟨"NetShapeModel", "boxMany", "(I)I"⟩, 21) := ⟨⟨by decide +kernel, by decide +kernel⟩, List.mem_of_getElem? (i := 529) (by decide +kernel), List.mem_of_getElem? (i := 651) (by decide +kernel), List.mem_of_getElem? (i := 652) (by decide +kernel)⟩
theorem lw_p24 : lw_okq (⟨"NetShapeModel", "isBoxThere", "(II)Z"⟩, 21) := ⟨⟨by decide +kernel, by decide +kernel⟩, List.mem_of_getElem? (i := 529) (by decide +kernel), List.mem_of_getElem? (i := 655) (by decide +kernel), List.mem_of_getElem? (i := 656) (by decide +kernel)⟩
theorem lw_p25 : lw_okq (⟨"NetShapeModel", "isThere", "(II)Z"⟩, 21) := ⟨⟨by decide +kernel, by decide +kernel⟩, List.mem_of_getElem? (i := 529) (by decide +kernel), List.mem_of_getElem? (i := 659) (by decide +kernel), List.mem_of_getElem? (i := 660) (by decide +kernel)⟩
theorem lw_p26 : lw_okq (⟨"NetShapeModel", "begin", "(I)V"⟩, 21) := ⟨⟨by decide +kernel, by decide +kernel⟩, List.mem_of_getElem? (i := 529) (by decide +kernel), List.mem_of_getElem? (i := 663) (by decide +kernel), List.mem_of_getElem? (i := 664) (by decide +kernel)⟩
theorem lw_p27 : lw_okq (⟨"NetShapeModel", "raise", "(II)Z"⟩, 21) := ⟨⟨by decide +kernel, by decide +kernel⟩, List.mem_of_getElem? (i := 529) (by decide +kernel), List.mem_of_getElem? (i := 667) (by decide +kernel), List.mem_of_getElem? (i := 668) (by decide +kernel)⟩
theorem lw_p28 : lw_okq (⟨"NetShapeModel", "newMany", "()I"⟩, 21) := ⟨⟨by decide +kernel, by decide +kernel⟩, List.mem_of_getElem? (i := 529) (by decide +kernel), List.mem_of_getElem? (i := 671) (by decide +kernel), List.mem_of_getElem? (i := 672) (by decide +kernel)⟩
theorem lw_p29 : lw_okq (⟨"NetShapeModel", "fits", "(I)Z"⟩, 21) := ⟨⟨by decide +kernel, by decide +kernel⟩, List.mem_of_getElem? (i := 529) (by decide +kernel), List.mem_of_getElem? (i := 675) (by decide +kernel), List.mem_of_getElem? (i := 676) (by decide +kernel)⟩
theorem lw_p30 : lw_okq (⟨"NetShapeModel", "layPlaces", "(I)V"⟩, 21) := ⟨⟨by decide +kernel, by decide +kernel⟩, List.mem_of_getElem? (i := 529) (by decide +kernel), List.mem_of_getElem? (i := 679) (by decide +kernel), List.mem_of_getElem? (i := 680) (by decide +kernel)⟩
theorem lw_p31 : lw_okq (⟨"NetShapeModel", "hasOnce", "(I)Z"⟩, 21) := ⟨⟨by decide +kernel, by decide +kernel⟩, List.mem_of_getElem? (i := 529) (by decide +kernel), List.mem_of_getElem? (i := 683) (by decide +kernel), List.mem_of_getElem? (i := 684) (by decide +kernel)⟩
def lw_privs_2 : List (MethodName × Nat) := [(⟨"NetShape$Survey", "addToHeap", "(III)V"⟩, 10), (⟨"NetShape$Survey", "choosePair", "(I)V"⟩, 10), (⟨"NetShape$Survey", "choose", "(II)V"⟩, 10), (⟨"NetShape$Survey", "greatestHeap", "(II)I"⟩, 10), (⟨"NetShapeModel", "silentMany", "()I"⟩, 21), (⟨"NetShapeModel", "silentOf", "(I)I"⟩, 21), (⟨"NetShapeModel", "findNets", "()V"⟩, 21), (⟨"NetShapeModel", "boxMany", "(I)I"⟩, 21), (⟨"NetShapeModel", "isBoxThere", "(II)Z"⟩, 21), (⟨"NetShapeModel", "isThere", "(II)Z"⟩, 21), (⟨"NetShapeModel", "begin", "(I)V"⟩, 21), (⟨"NetShapeModel", "raise", "(II)Z"⟩, 21), (⟨"NetShapeModel", "newMany", "()I"⟩, 21), (⟨"NetShapeModel", "fits", "(I)Z"⟩, 21), (⟨"NetShapeModel", "layPlaces", "(I)V"⟩, 21), (⟨"NetShapeModel", "hasOnce", "(I)Z"⟩, 21)]
theorem lw_r2 : ∀ q ∈ lw_privs_2, lw_okq q := List.forall_mem_cons.mpr ⟨lw_p16, List.forall_mem_cons.mpr ⟨lw_p17, List.forall_mem_cons.mpr ⟨lw_p18, List.forall_mem_cons.mpr ⟨lw_p19, List.forall_mem_cons.mpr ⟨lw_p20, List.forall_mem_cons.mpr ⟨lw_p21, List.forall_mem_cons.mpr ⟨lw_p22, List.forall_mem_cons.mpr ⟨lw_p23, List.forall_mem_cons.mpr ⟨lw_p24, List.forall_mem_cons.mpr ⟨lw_p25, List.forall_mem_cons.mpr ⟨lw_p26, List.forall_mem_cons.mpr ⟨lw_p27, List.forall_mem_cons.mpr ⟨lw_p28, List.forall_mem_cons.mpr ⟨lw_p29, List.forall_mem_cons.mpr ⟨lw_p30, List.forall_mem_cons.mpr ⟨lw_p31, fun _ h => absurd h List.not_mem_nil⟩⟩⟩⟩⟩⟩⟩⟩⟩⟩⟩⟩⟩⟩⟩⟩
theorem lw_p32 : lw_okq (⟨"NetShapeModel", "layLines", "(I)V"⟩, 21) := ⟨⟨by decide +kernel, by decide +kernel⟩, List.mem_of_getElem? (i := 529) (by decide +kernel), List.mem_of_getElem? (i := 687) (by decide +kernel), List.mem_of_getElem? (i := 688) (by decide +kernel)⟩
theorem lw_p33 : lw_okq (⟨"NetShapeModel", "lineMany", "()I"⟩, 21) := ⟨⟨by decide +kernel, by decide +kernel⟩, List.mem_of_getElem? (i := 529) (by decide +kernel), List.mem_of_getElem? (i := 691) (by decide +kernel), List.mem_of_getElem? (i := 692) (by decide +kernel)⟩
theorem lw_p34 : lw_okq (⟨"NetShapeModel", "keep", "()V"⟩, 21) := ⟨⟨by decide +kernel, by decide +kernel⟩, List.mem_of_getElem? (i := 529) (by decide +kernel), List.mem_of_getElem? (i := 695) (by decide +kernel), List.mem_of_getElem? (i := 696) (by decide +kernel)⟩
theorem lw_p35 : lw_okq (⟨"NetShapeModel", "goOn", "(I)Z"⟩, 21) := ⟨⟨by decide +kernel, by decide +kernel⟩, List.mem_of_getElem? (i := 529) (by decide +kernel), List.mem_of_getElem? (i := 699) (by decide +kernel), List.mem_of_getElem? (i := 700) (by decide +kernel)⟩
theorem lw_p36 : lw_okq (⟨"NetShapeModel", "isSeen", "(I)Z"⟩, 21) := ⟨⟨by decide +kernel, by decide +kernel⟩, List.mem_of_getElem? (i := 529) (by decide +kernel), List.mem_of_getElem? (i := 715) (by decide +kernel), List.mem_of_getElem? (i := 716) (by decide +kernel)⟩
theorem lw_p37 : lw_okq (⟨"NetShapeModel", "canFit", "(I)Z"⟩, 21) := ⟨⟨by decide +kernel, by decide +kernel⟩, List.mem_of_getElem? (i := 529) (by decide +kernel), List.mem_of_getElem? (i := 730) (by decide +kernel), List.mem_of_getElem? (i := 731) (by decide +kernel)⟩
theorem lw_p38 : lw_okq (⟨"NetShapeModel", "findNext", "()Z"⟩, 21) := ⟨⟨by decide +kernel, by decide +kernel⟩, List.mem_of_getElem? (i := 529) (by decide +kernel), List.mem_of_getElem? (i := 738) (by decide +kernel), List.mem_of_getElem? (i := 739) (by decide +kernel)⟩
theorem lw_p39 : lw_okq (⟨"NetShapeModel", "greatestHeap", "(I)I"⟩, 21) := ⟨⟨by decide +kernel, by decide +kernel⟩, List.mem_of_getElem? (i := 529) (by decide +kernel), List.mem_of_getElem? (i := 742) (by decide +kernel), List.mem_of_getElem? (i := 743) (by decide +kernel)⟩
def lw_privs_3 : List (MethodName × Nat) := [(⟨"NetShapeModel", "layLines", "(I)V"⟩, 21), (⟨"NetShapeModel", "lineMany", "()I"⟩, 21), (⟨"NetShapeModel", "keep", "()V"⟩, 21), (⟨"NetShapeModel", "goOn", "(I)Z"⟩, 21), (⟨"NetShapeModel", "isSeen", "(I)Z"⟩, 21), (⟨"NetShapeModel", "canFit", "(I)Z"⟩, 21), (⟨"NetShapeModel", "findNext", "()Z"⟩, 21), (⟨"NetShapeModel", "greatestHeap", "(I)I"⟩, 21)]
theorem lw_r3 : ∀ q ∈ lw_privs_3, lw_okq q := List.forall_mem_cons.mpr ⟨lw_p32, List.forall_mem_cons.mpr ⟨lw_p33, List.forall_mem_cons.mpr ⟨lw_p34, List.forall_mem_cons.mpr ⟨lw_p35, List.forall_mem_cons.mpr ⟨lw_p36, List.forall_mem_cons.mpr ⟨lw_p37, List.forall_mem_cons.mpr ⟨lw_p38, List.forall_mem_cons.mpr ⟨lw_p39, fun _ h => absurd h List.not_mem_nil⟩⟩⟩⟩⟩⟩⟩⟩
def lw_privs : List (MethodName × Nat) := lw_privs_1 ++ (lw_privs_2 ++ (lw_privs_3))
def lw_tbl : List Cond := k2_sels lw_privs ++ tables_1
theorem lw_privs_ok : ∀ q ∈ lw_privs, lw_okq q := by
  show ∀ q ∈ lw_privs_1 ++ (lw_privs_2 ++ (lw_privs_3)), lw_okq q
  exact List.forall_mem_append.mpr ⟨lw_r1, List.forall_mem_append.mpr ⟨lw_r2, lw_r3⟩⟩

def RX0 : String := "NetShape$LeastNets"
def TX0 : u_T := fun k => match k with
  | 0 => ("NetShape$LeastNets", "rows", "LNetShape$Rows;", true)
  | 1 => ("NetShape$LeastNets", "told", "LNetShape$Told;", true)
  | 2 => ("NetShape$LeastNets", "net", "LNetShape$Net;", true)
  | 3 => ("NetShape$LeastNets", "codes", "[I", true)
  | 4 => ("NetShape$LeastNets", "found", "Z", false)
  | 5 => ("NetShape$LeastNets", "many", "I", false)
  | 6 => ("NetShape$LeastNets", "newBoxes", "I", false)
  | 7 => ("NetShape$LeastNets", "lines", "I", false)
  | 8 => ("NetShape$LeastNets", "silents", "I", false)
  | _ => ("NetShape$LeastNets", "nameBoxes", "I", false)
def tyX0 : Nat → FieldType := fun k => match k with
  | 0 => .object "NetShape$Rows"
  | 1 => .object "NetShape$Told"
  | 2 => .object "NetShape$Net"
  | 3 => .array .int
  | 4 => .boolean
  | 5 => .int
  | 6 => .int
  | 7 => .int
  | 8 => .int
  | _ => .int
abbrev wsX00 : List Cond := u_ws RX0 TX0 10
theorem nmX0 : ∀ a, a < 10 → ∀ b, b < 10 → a ≠ b → (TX0 a).2.1 ≠ (TX0 b).2.1 := by decide +kernel
theorem tyX0_ok : ∀ k, k < 10 → parseFieldDescriptor (TX0 k).2.2.1 = some (tyX0 k) := by decide +kernel
abbrev cX0_init : ByteArray := prog_2_method_1_code
def yX0_init : MethodName := ⟨RX0, "<init>", "(LNetShape$Rows;LNetShape$Told;LNetShape$Net;)V"⟩
abbrev cX0_forgetFound : ByteArray := prog_2_method_2_code
def yX0_forgetFound : MethodName := ⟨RX0, "forgetFound", "()V"⟩
abbrev cX0_many : ByteArray := prog_2_method_3_code
def yX0_many : MethodName := ⟨RX0, "many", "()I"⟩
abbrev cX0_newBoxes : ByteArray := prog_2_method_4_code
def yX0_newBoxes : MethodName := ⟨RX0, "newBoxes", "()I"⟩
abbrev cX0_lines : ByteArray := prog_2_method_5_code
def yX0_lines : MethodName := ⟨RX0, "lines", "()I"⟩
abbrev cX0_code : ByteArray := prog_2_method_6_code
def yX0_code : MethodName := ⟨RX0, "code", "(I)I"⟩
abbrev cX0_someFits : ByteArray := prog_2_method_7_code
def yX0_someFits : MethodName := ⟨RX0, "someFits", "(I)Z"⟩
abbrev cX0_seek : ByteArray := prog_2_method_8_code
def yX0_seek : MethodName := ⟨RX0, "seek", "(LNetShape$LeastNets;II)V"⟩
abbrev cX0_mayTake : ByteArray := prog_2_method_9_code
def yX0_mayTake : MethodName := ⟨RX0, "mayTake", "(II)Z"⟩
abbrev cX0_keep : ByteArray := prog_2_method_10_code
def yX0_keep : MethodName := ⟨RX0, "keep", "(I)V"⟩
def RX1 : String := "NetShape$Net"
def TX1 : u_T := fun k => match k with
  | 0 => ("NetShape$Net", "rows", "LNetShape$Rows;", true)
  | 1 => ("NetShape$Net", "told", "LNetShape$Told;", true)
  | 2 => ("NetShape$Net", "silentBoxes", "[I", true)
  | _ => ("NetShape$Net", "joined", "[I", true)
def tyX1 : Nat → FieldType := fun k => match k with
  | 0 => .object "NetShape$Rows"
  | 1 => .object "NetShape$Told"
  | 2 => .array .int
  | _ => .array .int
abbrev wsX10 : List Cond := u_ws RX1 TX1 4
theorem nmX1 : ∀ a, a < 4 → ∀ b, b < 4 → a ≠ b → (TX1 a).2.1 ≠ (TX1 b).2.1 := by decide +kernel
theorem tyX1_ok : ∀ k, k < 4 → parseFieldDescriptor (TX1 k).2.2.1 = some (tyX1 k) := by decide +kernel
abbrev cX1_init : ByteArray := prog_3_method_1_code
def yX1_init : MethodName := ⟨RX1, "<init>", "(LNetShape$Rows;LNetShape$Told;)V"⟩
abbrev cX1_place : ByteArray := prog_3_method_2_code
def yX1_place : MethodName := ⟨RX1, "place", "(III)V"⟩
abbrev cX1_loosen : ByteArray := prog_3_method_3_code
def yX1_loosen : MethodName := ⟨RX1, "loosen", "(II)V"⟩
abbrev cX1_code : ByteArray := prog_3_method_4_code
def yX1_code : MethodName := ⟨RX1, "code", "()I"⟩
abbrev cX1_takeUp : ByteArray := prog_3_method_5_code
def yX1_takeUp : MethodName := ⟨RX1, "takeUp", "(I)V"⟩
abbrev cX1_fits : ByteArray := prog_3_method_6_code
def yX1_fits : MethodName := ⟨RX1, "fits", "(I)Z"⟩
abbrev cX1_isShortest : ByteArray := prog_3_method_7_code
def yX1_isShortest : MethodName := ⟨RX1, "isShortest", "(I)Z"⟩
abbrev cX1_draw : ByteArray := prog_3_method_8_code
def yX1_draw : MethodName := ⟨RX1, "draw", "(II)Z"⟩
abbrev cX1_silentBox : ByteArray := prog_3_method_9_code
def yX1_silentBox : MethodName := ⟨RX1, "silentBox", "(I)I"⟩
abbrev cX1_join : ByteArray := prog_3_method_10_code
def yX1_join : MethodName := ⟨RX1, "join", "(II)V"⟩
abbrev cX1_joinedWith : ByteArray := prog_3_method_11_code
def yX1_joinedWith : MethodName := ⟨RX1, "joinedWith", "(I)I"⟩
abbrev cX1_lines : ByteArray := prog_3_method_12_code
def yX1_lines : MethodName := ⟨RX1, "lines", "()I"⟩
abbrev cX1_way : ByteArray := prog_3_method_13_code
def yX1_way : MethodName := ⟨RX1, "way", "(II)I"⟩
def RX2 : String := "NetShape$Rows"
def TX2 : u_T := fun k => match k with
  | 0 => ("NetShape$Rows", "hops", "[I", true)
  | 1 => ("NetShape$Rows", "lengths", "[I", true)
  | _ => ("NetShape$Rows", "traces", "I", false)
def tyX2 : Nat → FieldType := fun k => match k with
  | 0 => .array .int
  | 1 => .array .int
  | _ => .int
abbrev wsX20 : List Cond := u_ws RX2 TX2 3
theorem nmX2 : ∀ a, a < 3 → ∀ b, b < 3 → a ≠ b → (TX2 a).2.1 ≠ (TX2 b).2.1 := by decide +kernel
theorem tyX2_ok : ∀ k, k < 3 → parseFieldDescriptor (TX2 k).2.2.1 = some (tyX2 k) := by decide +kernel
abbrev cX2_init : ByteArray := prog_4_method_1_code
def yX2_init : MethodName := ⟨RX2, "<init>", "()V"⟩
abbrev cX2_traces : ByteArray := prog_4_method_2_code
def yX2_traces : MethodName := ⟨RX2, "traces", "()I"⟩
abbrev cX2_all : ByteArray := prog_4_method_3_code
def yX2_all : MethodName := ⟨RX2, "all", "()I"⟩
abbrev cX2_length : ByteArray := prog_4_method_4_code
def yX2_length : MethodName := ⟨RX2, "length", "(I)I"⟩
abbrev cX2_hopAt : ByteArray := prog_4_method_5_code
def yX2_hopAt : MethodName := ⟨RX2, "hopAt", "(II)I"⟩
abbrev cX2_has : ByteArray := prog_4_method_6_code
def yX2_has : MethodName := ⟨RX2, "has", "(II)Z"⟩
abbrev cX2_silentsIn : ByteArray := prog_4_method_7_code
def yX2_silentsIn : MethodName := ⟨RX2, "silentsIn", "(I)I"⟩
abbrev cX2_silents : ByteArray := prog_4_method_8_code
def yX2_silents : MethodName := ⟨RX2, "silents", "()I"⟩
abbrev cX2_names : ByteArray := prog_4_method_9_code
def yX2_names : MethodName := ⟨RX2, "names", "()I"⟩
abbrev cX2_append : ByteArray := prog_4_method_10_code
def yX2_append : MethodName := ⟨RX2, "append", "(II)V"⟩
abbrev cX2_empty : ByteArray := prog_4_method_11_code
def yX2_empty : MethodName := ⟨RX2, "empty", "(I)V"⟩
abbrev cX2_keepHand : ByteArray := prog_4_method_12_code
def yX2_keepHand : MethodName := ⟨RX2, "keepHand", "()V"⟩
abbrev cX2_remove : ByteArray := prog_4_method_13_code
def yX2_remove : MethodName := ⟨RX2, "remove", "(I)V"⟩
abbrev cX2_copy : ByteArray := prog_4_method_14_code
def yX2_copy : MethodName := ⟨RX2, "copy", "(II)V"⟩
def RX3 : String := "NetShape$Survey"
def TX3 : u_T := fun k => match k with
  | 0 => ("NetShape$Survey", "rows", "LNetShape$Rows;", true)
  | 1 => ("NetShape$Survey", "told", "LNetShape$Told;", true)
  | 2 => ("NetShape$Survey", "net", "LNetShape$Net;", true)
  | 3 => ("NetShape$Survey", "least", "LNetShape$LeastNets;", true)
  | 4 => ("NetShape$Survey", "everJoined", "[I", true)
  | 5 => ("NetShape$Survey", "alwaysJoined", "[I", true)
  | 6 => ("NetShape$Survey", "heaps", "[I", true)
  | 7 => ("NetShape$Survey", "made", "Z", false)
  | 8 => ("NetShape$Survey", "bestPair", "I", false)
  | _ => ("NetShape$Survey", "bestHeap", "I", false)
def tyX3 : Nat → FieldType := fun k => match k with
  | 0 => .object "NetShape$Rows"
  | 1 => .object "NetShape$Told"
  | 2 => .object "NetShape$Net"
  | 3 => .object "NetShape$LeastNets"
  | 4 => .array .int
  | 5 => .array .int
  | 6 => .array .int
  | 7 => .boolean
  | 8 => .int
  | _ => .int
abbrev wsX30 : List Cond := u_ws RX3 TX3 10
theorem nmX3 : ∀ a, a < 10 → ∀ b, b < 10 → a ≠ b → (TX3 a).2.1 ≠ (TX3 b).2.1 := by decide +kernel
theorem tyX3_ok : ∀ k, k < 10 → parseFieldDescriptor (TX3 k).2.2.1 = some (tyX3 k) := by decide +kernel
abbrev cX3_init : ByteArray := prog_5_method_1_code
def yX3_init : MethodName := ⟨RX3, "<init>", "(LNetShape$Rows;LNetShape$Told;LNetShape$Net;LNetShape$LeastNets;)V"⟩
abbrev cX3_forgetMade : ByteArray := prog_5_method_2_code
def yX3_forgetMade : MethodName := ⟨RX3, "forgetMade", "()V"⟩
abbrev cX3_bestPair : ByteArray := prog_5_method_3_code
def yX3_bestPair : MethodName := ⟨RX3, "bestPair", "()I"⟩
abbrev cX3_bestHeap : ByteArray := prog_5_method_4_code
def yX3_bestHeap : MethodName := ⟨RX3, "bestHeap", "()I"⟩
abbrev cX3_wayIn : ByteArray := prog_5_method_5_code
def yX3_wayIn : MethodName := ⟨RX3, "wayIn", "(III)I"⟩
abbrev cX3_lineBetween : ByteArray := prog_5_method_6_code
def yX3_lineBetween : MethodName := ⟨RX3, "lineBetween", "(II)I"⟩
abbrev cX3_make : ByteArray := prog_5_method_7_code
def yX3_make : MethodName := ⟨RX3, "make", "()V"⟩
abbrev cX3_addLines : ByteArray := prog_5_method_8_code
def yX3_addLines : MethodName := ⟨RX3, "addLines", "()V"⟩
abbrev cX3_addWays : ByteArray := prog_5_method_9_code
def yX3_addWays : MethodName := ⟨RX3, "addWays", "(I)V"⟩
abbrev cX3_addToHeap : ByteArray := prog_5_method_10_code
def yX3_addToHeap : MethodName := ⟨RX3, "addToHeap", "(III)V"⟩
abbrev cX3_choosePair : ByteArray := prog_5_method_11_code
def yX3_choosePair : MethodName := ⟨RX3, "choosePair", "(I)V"⟩
abbrev cX3_choose : ByteArray := prog_5_method_12_code
def yX3_choose : MethodName := ⟨RX3, "choose", "(II)V"⟩
abbrev cX3_greatestHeap : ByteArray := prog_5_method_13_code
def yX3_greatestHeap : MethodName := ⟨RX3, "greatestHeap", "(II)I"⟩
def RX4 : String := "NetShape$Told"
def TX4 : u_T := fun k => match k with
  | 0 => ("NetShape$Told", "leasts", "[I", true)
  | 1 => ("NetShape$Told", "aparts", "[I", true)
  | _ => ("NetShape$Told", "times", "I", false)
def tyX4 : Nat → FieldType := fun k => match k with
  | 0 => .array .int
  | 1 => .array .int
  | _ => .int
abbrev wsX40 : List Cond := u_ws RX4 TX4 3
theorem nmX4 : ∀ a, a < 3 → ∀ b, b < 3 → a ≠ b → (TX4 a).2.1 ≠ (TX4 b).2.1 := by decide +kernel
theorem tyX4_ok : ∀ k, k < 3 → parseFieldDescriptor (TX4 k).2.2.1 = some (tyX4 k) := by decide +kernel
abbrev cX4_init : ByteArray := prog_6_method_1_code
def yX4_init : MethodName := ⟨RX4, "<init>", "()V"⟩
abbrev cX4_times : ByteArray := prog_6_method_2_code
def yX4_times : MethodName := ⟨RX4, "times", "()I"⟩
abbrev cX4_clear : ByteArray := prog_6_method_3_code
def yX4_clear : MethodName := ⟨RX4, "clear", "()V"⟩
abbrev cX4_box : ByteArray := prog_6_method_4_code
def yX4_box : MethodName := ⟨RX4, "box", "(I)I"⟩
abbrev cX4_boxes : ByteArray := prog_6_method_5_code
def yX4_boxes : MethodName := ⟨RX4, "boxes", "(I)I"⟩
abbrev cX4_areOneBox : ByteArray := prog_6_method_6_code
def yX4_areOneBox : MethodName := ⟨RX4, "areOneBox", "(II)Z"⟩
abbrev cX4_areToldApart : ByteArray := prog_6_method_7_code
def yX4_areToldApart : MethodName := ⟨RX4, "areToldApart", "(II)Z"⟩
abbrev cX4_haveBoxesApart : ByteArray := prog_6_method_8_code
def yX4_haveBoxesApart : MethodName := ⟨RX4, "haveBoxesApart", "(II)Z"⟩
abbrev cX4_add : ByteArray := prog_6_method_9_code
def yX4_add : MethodName := ⟨RX4, "add", "(IIZ)V"⟩
abbrev cX4_makeOne : ByteArray := prog_6_method_10_code
def yX4_makeOne : MethodName := ⟨RX4, "makeOne", "(II)V"⟩
abbrev cX4_setApart : ByteArray := prog_6_method_11_code
def yX4_setApart : MethodName := ⟨RX4, "setApart", "(II)V"⟩
def RX5 : String := "NetShape"
def TX5 : u_T := fun k => match k with
  | 0 => ("NetShape", "rows", "LNetShape$Rows;", true)
  | 1 => ("NetShape", "told", "LNetShape$Told;", true)
  | 2 => ("NetShape", "least", "LNetShape$LeastNets;", true)
  | _ => ("NetShape", "survey", "LNetShape$Survey;", true)
def tyX5 : Nat → FieldType := fun k => match k with
  | 0 => .object "NetShape$Rows"
  | 1 => .object "NetShape$Told"
  | 2 => .object "NetShape$LeastNets"
  | _ => .object "NetShape$Survey"
abbrev wsX50 : List Cond := u_ws RX5 TX5 4
theorem nmX5 : ∀ a, a < 4 → ∀ b, b < 4 → a ≠ b → (TX5 a).2.1 ≠ (TX5 b).2.1 := by decide +kernel
theorem tyX5_ok : ∀ k, k < 4 → parseFieldDescriptor (TX5 k).2.2.1 = some (tyX5 k) := by decide +kernel
abbrev cX5_init : ByteArray := prog_1_method_1_code
def yX5_init : MethodName := ⟨RX5, "<init>", "()V"⟩
abbrev cX5_hop : ByteArray := prog_1_method_2_code
def yX5_hop : MethodName := ⟨RX5, "hop", "(I)I"⟩
abbrev cX5_drop : ByteArray := prog_1_method_3_code
def yX5_drop : MethodName := ⟨RX5, "drop", "()I"⟩
abbrev cX5_trace : ByteArray := prog_1_method_4_code
def yX5_trace : MethodName := ⟨RX5, "trace", "()I"⟩
abbrev cX5_forget : ByteArray := prog_1_method_5_code
def yX5_forget : MethodName := ⟨RX5, "forget", "(I)I"⟩
abbrev cX5_tell : ByteArray := prog_1_method_6_code
def yX5_tell : MethodName := ⟨RX5, "tell", "(IIZ)I"⟩
abbrev cX5_untell : ByteArray := prog_1_method_7_code
def yX5_untell : MethodName := ⟨RX5, "untell", "()I"⟩
abbrev cX5_at : ByteArray := prog_1_method_8_code
def yX5_at : MethodName := ⟨RX5, "at", "(II)I"⟩
abbrev cX5_nets : ByteArray := prog_1_method_9_code
def yX5_nets : MethodName := ⟨RX5, "nets", "()I"⟩
abbrev cX5_shape : ByteArray := prog_1_method_10_code
def yX5_shape : MethodName := ⟨RX5, "shape", "(I)I"⟩
abbrev cX5_boxOf : ByteArray := prog_1_method_11_code
def yX5_boxOf : MethodName := ⟨RX5, "boxOf", "(II)I"⟩
abbrev cX5_far : ByteArray := prog_1_method_12_code
def yX5_far : MethodName := ⟨RX5, "far", "(III)I"⟩
abbrev cX5_sure : ByteArray := prog_1_method_13_code
def yX5_sure : MethodName := ⟨RX5, "sure", "(II)I"⟩
abbrev cX5_falses : ByteArray := prog_1_method_14_code
def yX5_falses : MethodName := ⟨RX5, "falses", "()I"⟩
abbrev cX5_next : ByteArray := prog_1_method_15_code
def yX5_next : MethodName := ⟨RX5, "next", "()I"⟩
abbrev cX5_worst : ByteArray := prog_1_method_16_code
def yX5_worst : MethodName := ⟨RX5, "worst", "()I"⟩
abbrev cX5_count : ByteArray := prog_1_method_17_code
def yX5_count : MethodName := ⟨RX5, "count", "(I)I"⟩
abbrev cX5_forgetAnswers : ByteArray := prog_1_method_18_code
def yX5_forgetAnswers : MethodName := ⟨RX5, "forgetAnswers", "()V"⟩
abbrev cX5_isTrace : ByteArray := prog_1_method_19_code
def yX5_isTrace : MethodName := ⟨RX5, "isTrace", "(I)Z"⟩
abbrev cX5_isNet : ByteArray := prog_1_method_20_code
def yX5_isNet : MethodName := ⟨RX5, "isNet", "(I)Z"⟩
abbrev cX5_isTraced : ByteArray := prog_1_method_21_code
def yX5_isTraced : MethodName := ⟨RX5, "isTraced", "(I)Z"⟩
abbrev cX5_boxesOfNames : ByteArray := prog_1_method_22_code
def yX5_boxesOfNames : MethodName := ⟨RX5, "boxesOfNames", "()I"⟩
abbrev cX5_isName : ByteArray := prog_1_method_23_code
def yX5_isName : MethodName := ⟨RX5, "isName", "(I)Z"⟩
abbrev cX5_isBox : ByteArray := prog_1_method_24_code
def yX5_isBox : MethodName := ⟨RX5, "isBox", "(I)Z"⟩
abbrev cX5_hasBit : ByteArray := prog_1_method_25_code
def yX5_hasBit : MethodName := ⟨RX5, "hasBit", "(II)Z"⟩
abbrev cX5_boxIn : ByteArray := prog_1_method_26_code
def yX5_boxIn : MethodName := ⟨RX5, "boxIn", "(II)I"⟩
def RX6 : String := "NetShapeModel"
def TX6 : u_T := fun k => match k with
  | 0 => ("NetShapeModel", "traces", "I", false)
  | 1 => ("NetShapeModel", "size", "[I", true)
  | 2 => ("NetShapeModel", "hops", "[I", true)
  | 3 => ("NetShapeModel", "handSize", "I", false)
  | 4 => ("NetShapeModel", "hand", "[I", true)
  | 5 => ("NetShapeModel", "box", "[I", true)
  | 6 => ("NetShapeModel", "apart", "[Z", true)
  | 7 => ("NetShapeModel", "tells", "I", false)
  | 8 => ("NetShapeModel", "choice", "[I", true)
  | 9 => ("NetShapeModel", "place", "[I", true)
  | 10 => ("NetShapeModel", "line", "[Z", true)
  | 11 => ("NetShapeModel", "far", "[I", true)
  | 12 => ("NetShapeModel", "silents", "I", false)
  | 13 => ("NetShapeModel", "nets", "I", false)
  | 14 => ("NetShapeModel", "fewestBoxes", "I", false)
  | 15 => ("NetShapeModel", "fewestLines", "I", false)
  | 16 => ("NetShapeModel", "boxes", "[I", true)
  | 17 => ("NetShapeModel", "fars", "[I", true)
  | 18 => ("NetShapeModel", "lines", "[Z", true)
  | 19 => ("NetShapeModel", "bestPair", "I", false)
  | _ => ("NetShapeModel", "bestHeap", "I", false)
def tyX6 : Nat → FieldType := fun k => match k with
  | 0 => .int
  | 1 => .array .int
  | 2 => .array .int
  | 3 => .int
  | 4 => .array .int
  | 5 => .array .int
  | 6 => .array .boolean
  | 7 => .int
  | 8 => .array .int
  | 9 => .array .int
  | 10 => .array .boolean
  | 11 => .array .int
  | 12 => .int
  | 13 => .int
  | 14 => .int
  | 15 => .int
  | 16 => .array .int
  | 17 => .array .int
  | 18 => .array .boolean
  | 19 => .int
  | _ => .int
abbrev wsX60 : List Cond := u_ws RX6 TX6 21
theorem nmX6 : ∀ a, a < 21 → ∀ b, b < 21 → a ≠ b → (TX6 a).2.1 ≠ (TX6 b).2.1 := by decide +kernel
theorem tyX6_ok : ∀ k, k < 21 → parseFieldDescriptor (TX6 k).2.2.1 = some (tyX6 k) := by decide +kernel
abbrev cX6_init : ByteArray := prog_8_method_1_code
def yX6_init : MethodName := ⟨RX6, "<init>", "()V"⟩
abbrev cX6_in : ByteArray := prog_8_method_2_code
def yX6_in : MethodName := ⟨RX6, "in", "(III)Z"⟩
abbrev cX6_isName : ByteArray := prog_8_method_3_code
def yX6_isName : MethodName := ⟨RX6, "isName", "(I)Z"⟩
abbrev cX6_silentOf : ByteArray := prog_8_method_4_code
def yX6_silentOf : MethodName := ⟨RX6, "silentOf", "(I)I"⟩
abbrev cX6_silentMany : ByteArray := prog_8_method_5_code
def yX6_silentMany : MethodName := ⟨RX6, "silentMany", "()I"⟩
abbrev cX6_hop : ByteArray := prog_8_method_6_code
def yX6_hop : MethodName := ⟨RX6, "hop", "(I)I"⟩
abbrev cX6_drop : ByteArray := prog_8_method_7_code
def yX6_drop : MethodName := ⟨RX6, "drop", "()I"⟩
abbrev cX6_trace : ByteArray := prog_8_method_8_code
def yX6_trace : MethodName := ⟨RX6, "trace", "()I"⟩
abbrev cX6_forget : ByteArray := prog_8_method_9_code
def yX6_forget : MethodName := ⟨RX6, "forget", "(I)I"⟩
abbrev cX6_tell : ByteArray := prog_8_method_10_code
def yX6_tell : MethodName := ⟨RX6, "tell", "(IIZ)I"⟩
abbrev cX6_untell : ByteArray := prog_8_method_11_code
def yX6_untell : MethodName := ⟨RX6, "untell", "()I"⟩
abbrev cX6_at : ByteArray := prog_8_method_12_code
def yX6_at : MethodName := ⟨RX6, "at", "(II)I"⟩
abbrev cX6_isThere : ByteArray := prog_8_method_13_code
def yX6_isThere : MethodName := ⟨RX6, "isThere", "(II)Z"⟩
abbrev cX6_isBoxThere : ByteArray := prog_8_method_14_code
def yX6_isBoxThere : MethodName := ⟨RX6, "isBoxThere", "(II)Z"⟩
abbrev cX6_boxMany : ByteArray := prog_8_method_15_code
def yX6_boxMany : MethodName := ⟨RX6, "boxMany", "(I)I"⟩
abbrev cX6_layPlaces : ByteArray := prog_8_method_16_code
def yX6_layPlaces : MethodName := ⟨RX6, "layPlaces", "(I)V"⟩
abbrev cX6_layLines : ByteArray := prog_8_method_17_code
def yX6_layLines : MethodName := ⟨RX6, "layLines", "(I)V"⟩
abbrev cX6_hasOnce : ByteArray := prog_8_method_18_code
def yX6_hasOnce : MethodName := ⟨RX6, "hasOnce", "(I)Z"⟩
abbrev cX6_fits : ByteArray := prog_8_method_19_code
def yX6_fits : MethodName := ⟨RX6, "fits", "(I)Z"⟩
abbrev cX6_begin : ByteArray := prog_8_method_20_code
def yX6_begin : MethodName := ⟨RX6, "begin", "(I)V"⟩
abbrev cX6_raise : ByteArray := prog_8_method_21_code
def yX6_raise : MethodName := ⟨RX6, "raise", "(II)Z"⟩
abbrev cX6_goOn : ByteArray := prog_8_method_22_code
def yX6_goOn : MethodName := ⟨RX6, "goOn", "(I)Z"⟩
abbrev cX6_newMany : ByteArray := prog_8_method_23_code
def yX6_newMany : MethodName := ⟨RX6, "newMany", "()I"⟩
abbrev cX6_lineMany : ByteArray := prog_8_method_24_code
def yX6_lineMany : MethodName := ⟨RX6, "lineMany", "()I"⟩
abbrev cX6_keep : ByteArray := prog_8_method_25_code
def yX6_keep : MethodName := ⟨RX6, "keep", "()V"⟩
abbrev cX6_findNets : ByteArray := prog_8_method_26_code
def yX6_findNets : MethodName := ⟨RX6, "findNets", "()V"⟩
abbrev cX6_nets : ByteArray := prog_8_method_27_code
def yX6_nets : MethodName := ⟨RX6, "nets", "()I"⟩
abbrev cX6_shape : ByteArray := prog_8_method_28_code
def yX6_shape : MethodName := ⟨RX6, "shape", "(I)I"⟩
abbrev cX6_boxOf : ByteArray := prog_8_method_29_code
def yX6_boxOf : MethodName := ⟨RX6, "boxOf", "(II)I"⟩
abbrev cX6_isSeen : ByteArray := prog_8_method_30_code
def yX6_isSeen : MethodName := ⟨RX6, "isSeen", "(I)Z"⟩
abbrev cX6_far : ByteArray := prog_8_method_31_code
def yX6_far : MethodName := ⟨RX6, "far", "(III)I"⟩
abbrev cX6_sure : ByteArray := prog_8_method_32_code
def yX6_sure : MethodName := ⟨RX6, "sure", "(II)I"⟩
abbrev cX6_canFit : ByteArray := prog_8_method_33_code
def yX6_canFit : MethodName := ⟨RX6, "canFit", "(I)Z"⟩
abbrev cX6_ones : ByteArray := prog_8_method_34_code
def yX6_ones : MethodName := ⟨RX6, "ones", "(I)I"⟩
abbrev cX6_falses : ByteArray := prog_8_method_35_code
def yX6_falses : MethodName := ⟨RX6, "falses", "()I"⟩
abbrev cX6_greatestHeap : ByteArray := prog_8_method_36_code
def yX6_greatestHeap : MethodName := ⟨RX6, "greatestHeap", "(I)I"⟩
abbrev cX6_findNext : ByteArray := prog_8_method_37_code
def yX6_findNext : MethodName := ⟨RX6, "findNext", "()Z"⟩
abbrev cX6_next : ByteArray := prog_8_method_38_code
def yX6_next : MethodName := ⟨RX6, "next", "()I"⟩
abbrev cX6_worst : ByteArray := prog_8_method_39_code
def yX6_worst : MethodName := ⟨RX6, "worst", "()I"⟩
abbrev cX6_count : ByteArray := prog_8_method_40_code
def yX6_count : MethodName := ⟨RX6, "count", "(I)I"⟩
def RJ6 : String := "java/lang/Integer"
def TJ6 : u_T := fun k => match k with
  | _ => ("", "", "", false)
def tyJ6 : Nat → FieldType := fun k => match k with
  | _ => .int
abbrev wsJ60 : List Cond := u_ws RJ6 TJ6 0
theorem nmJ6 : ∀ a, a < 0 → ∀ b, b < 0 → a ≠ b → (TJ6 a).2.1 ≠ (TJ6 b).2.1 := by decide +kernel
theorem tyJ6_ok : ∀ k, k < 0 → parseFieldDescriptor (TJ6 k).2.2.1 = some (tyJ6 k) := by decide +kernel
abbrev cJ6_bitCount_0f7a4 : ByteArray := prog_9_method_49_code
def yJ6_bitCount_0f7a4 : MethodName := ⟨RJ6, "bitCount", "(I)I"⟩
def RJ9 : String := "java/lang/Math"
def TJ9 : u_T := fun k => match k with
  | _ => ("", "", "", false)
def tyJ9 : Nat → FieldType := fun k => match k with
  | _ => .int
abbrev wsJ90 : List Cond := u_ws RJ9 TJ9 0
theorem nmJ9 : ∀ a, a < 0 → ∀ b, b < 0 → a ≠ b → (TJ9 a).2.1 ≠ (TJ9 b).2.1 := by decide +kernel
theorem tyJ9_ok : ∀ k, k < 0 → parseFieldDescriptor (TJ9 k).2.2.1 = some (tyJ9 k) := by decide +kernel
abbrev cJ9_max_7cf53 : ByteArray := prog_10_method_65_code
def yJ9_max_7cf53 : MethodName := ⟨RJ9, "max", "(II)I"⟩
abbrev cJ9_min_7cf53 : ByteArray := prog_10_method_69_code
def yJ9_min_7cf53 : MethodName := ⟨RJ9, "min", "(II)I"⟩
def RJ7 : String := "java/util/Arrays"
def TJ7 : u_T := fun k => match k with
  | _ => ("", "", "", false)
def tyJ7 : Nat → FieldType := fun k => match k with
  | _ => .int
abbrev wsJ70 : List Cond := u_ws RJ7 TJ7 0
theorem nmJ7 : ∀ a, a < 0 → ∀ b, b < 0 → a ≠ b → (TJ7 a).2.1 ≠ (TJ7 b).2.1 := by decide +kernel
theorem tyJ7_ok : ∀ k, k < 0 → parseFieldDescriptor (TJ7 k).2.2.1 = some (tyJ7 k) := by decide +kernel
abbrev cJ7_fill_53178 : ByteArray := prog_11_method_103_code
def yJ7_fill_53178 : MethodName := ⟨RJ7, "fill", "([II)V"⟩
def RL : String := "NetShapeLaw"
abbrev cL_law : ByteArray := code
def yL_law : MethodName := ⟨RL, "law", "([I)Z"⟩
abbrev vwCl : List vw_C := [(RX0, TX0, 10), (RX1, TX1, 4), (RX2, TX2, 3), (RX3, TX3, 10), (RX4, TX4, 3), (RX5, TX5, 4), (RX6, TX6, 21)]
end
section
/-! A PURE MACHINE over a fixed layout of cells: numbers are Int, memory is cell -> place -> Int; 'xs' is one instruction as a predicate transformer, 'xw' many. Then: what it says holds of the machine itself. -/
abbrev xV : Type := Int ⊕ Nat
abbrev xM : Type := Nat → Nat → Int
abbrev xL : Type := List (Option xV)
abbrev xD : Type := (Nat × List (Option Nat)) ⊕ (Nat × Nat)
abbrev xG : Type := Nat → xL → List xV → xM → Prop
abbrev xR : Type := Option xV → xM → Prop
abbrev xT : Type := List xV → xM → xR → Prop
abbrev xCal : Type := List (Nat × Bool × Nat × xT)
abbrev xFld : Type := List (Nat × Nat × Nat × Nat)
abbrev xCst : Type := List (Nat × Int)
def xi (v : Int) : Int32 := Int32.ofInt v
def rg (v : Int) : Prop := -2147483648 ≤ v ∧ v < 2147483648
def xup (M : xM) (c k : Nat) (v : Int) : xM := fun c' k' => if c' = c ∧ k' = k then v else M c' k'
def xlk {α : Type} : List (Nat × α) → Nat → Option α
  | [], _ => none
  | q :: r, k => bif Nat.beq q.1 k then some q.2 else xlk r k
theorem xlk_mem {α : Type} {l : List (Nat × α)} {k : Nat} {v : α} (h : xlk l k = some v) : (k, v) ∈ l := by
  induction l with
  | nil => cases h
  | cons q r ih =>
    obtain ⟨a, b⟩ := q
    simp only [xlk] at h
    cases hb : Nat.beq a k with
    | true =>
      rw [hb] at h
      cases h
      have := Nat.eq_of_beq_eq_true hb
      subst this
      exact List.mem_cons_self
    | false =>
      rw [hb] at h
      exact List.mem_cons_of_mem _ (ih h)
def xbr (cnd : ClassFile.Cond) (a b : Int) (tt ff : Prop) : Prop := match cnd with
  | .eq => (a = b → tt) ∧ (a ≠ b → ff)
  | .ne => (a ≠ b → tt) ∧ (a = b → ff)
  | .lt => (a < b → tt) ∧ (b ≤ a → ff)
  | .ge => (b ≤ a → tt) ∧ (a < b → ff)
  | .gt => (b < a → tt) ∧ (a ≤ b → ff)
  | .le => (a ≤ b → tt) ∧ (b < a → ff)
def xtab (x : Int) (go : Int → Prop) : Int → List Int → Prop
  | _, [] => True
  | v, o :: r => (x = v → go o) ∧ xtab x go (v + 1) r
def xb01 (b : Nat) (x : Int) : Prop := match b with
  | 0 => True
  | 1 => x = 0 ∨ x = 1
  | _ => False
/-- one instruction -/
def xs (L : List xD) (fld : xFld) (cals : xCal) (cst : xCst) (rt : Nat) (Rt : xR) (go : xG) (ins : Instr) (pc : Nat) (lv : xL) (st : List xV) (M : xM) : Prop := match ins with
  | .iconst n => go (pc + 1) lv (.inl n :: st) M
  | .bipush n => (-128 ≤ n ∧ n < 128) ∧ go (pc + 2) lv (.inl n :: st) M
  | .sipush n => (-32768 ≤ n ∧ n < 32768) ∧ go (pc + 3) lv (.inl n :: st) M
  | .ldc_w k => match xlk cst k with
    | some v => go (pc + 3) lv (.inl v :: st) M
    | none => False
  | .iload_n k => match lv[k.val]? with
    | some (some (.inl x)) => go (pc + 1) lv (.inl x :: st) M
    | _ => False
  | .iload k => match lv[k]? with
    | some (some (.inl x)) => go (pc + 2) lv (.inl x :: st) M
    | _ => False
  | .aload_n k => match lv[k.val]? with
    | some (some (.inr x)) => go (pc + 1) lv (.inr x :: st) M
    | _ => False
  | .istore_n k => match st with
    | .inl x :: r => k.val < lv.length ∧ go (pc + 1) (lv.set k.val (some (.inl x))) r M
    | _ => False
  | .istore k => match st with
    | .inl x :: r => k < lv.length ∧ go (pc + 2) (lv.set k (some (.inl x))) r M
    | _ => False
  | .iinc k n => match lv[k]? with
    | some (some (.inl x)) => go (pc + 3) (lv.set k (some (.inl (x + n)))) st M
    | _ => False
  | .iadd => match st with
    | .inl b :: .inl a :: r => go (pc + 1) lv (.inl (a + b) :: r) M
    | _ => False
  | .isub => match st with
    | .inl b :: .inl a :: r => go (pc + 1) lv (.inl (a - b) :: r) M
    | _ => False
  | .imul => match st with
    | .inl b :: .inl a :: r => go (pc + 1) lv (.inl (a * b) :: r) M
    | _ => False
  | .idiv => match st with
    | .inl b :: .inl a :: r => (0 ≤ a ∧ a < 2147483648 ∧ 0 < b ∧ b < 2147483648) ∧ go (pc + 1) lv (.inl (a / b) :: r) M
    | _ => False
  | .irem => match st with
    | .inl b :: .inl a :: r => (0 ≤ a ∧ a < 2147483648 ∧ 0 < b ∧ b < 2147483648) ∧ go (pc + 1) lv (.inl (a % b) :: r) M
    | _ => False
  | .iand => match st with
    | .inl b :: .inl a :: r => go (pc + 1) lv (.inl (xi a &&& xi b).toInt :: r) M
    | _ => False
  | .ior => match st with
    | .inl b :: .inl a :: r => go (pc + 1) lv (.inl (xi a ||| xi b).toInt :: r) M
    | _ => False
  | .ixor => match st with
    | .inl b :: .inl a :: r => go (pc + 1) lv (.inl (xi a ^^^ xi b).toInt :: r) M
    | _ => False
  | .ishl => match st with
    | .inl b :: .inl a :: r => go (pc + 1) lv (.inl (xi a <<< (xi b &&& 31)).toInt :: r) M
    | _ => False
  | .ishr => match st with
    | .inl b :: .inl a :: r => go (pc + 1) lv (.inl (xi a >>> (xi b &&& 31)).toInt :: r) M
    | _ => False
  | .iushr => match st with
    | .inl b :: .inl a :: r => go (pc + 1) lv (.inl (((xi a).toUInt32 >>> ((xi b).toUInt32 &&& Int32.toUInt32 31)).toInt32).toInt :: r) M
    | _ => False
  | .dup => match st with
    | v :: r => go (pc + 1) lv (v :: v :: r) M
    | _ => False
  | .dup2 => match st with
    | v :: w :: r => go (pc + 1) lv (v :: w :: v :: w :: r) M
    | _ => False
  | .pop => match st with
    | _ :: r => go (pc + 1) lv r M
    | _ => False
  | .goto off => 0 ≤ (pc : Int) + off ∧ go ((pc : Int) + off).toNat lv st M
  | .ifCond cnd off => match st with
    | .inl a :: r => rg a ∧ 0 ≤ (pc : Int) + off ∧ xbr cnd a 0 (go ((pc : Int) + off).toNat lv r M) (go (pc + 3) lv r M)
    | _ => False
  | .if_icmp cnd off => match st with
    | .inl b :: .inl a :: r => rg a ∧ rg b ∧ 0 ≤ (pc : Int) + off ∧ xbr cnd a b (go ((pc : Int) + off).toNat lv r M) (go (pc + 3) lv r M)
    | _ => False
  | .tableswitch d lo hi offs => match st with
    | .inl x :: r => rg x ∧ hi = lo + offs.size - 1 ∧ (x < lo → 0 ≤ (pc : Int) + d ∧ go ((pc : Int) + d).toNat lv r M) ∧ (hi < x → 0 ≤ (pc : Int) + d ∧ go ((pc : Int) + d).toNat lv r M) ∧ xtab x (fun o => 0 ≤ (pc : Int) + o ∧ go ((pc : Int) + o).toNat lv r M) lo offs.toList
    | _ => False
  | .getfield idx => match st with
    | .inr c :: r => match xlk fld idx with
      | some (ci, k, _) => match L[c]? with
        | some (.inl (ci', fs)) => ci' = ci ∧ match fs[k]? with
          | some (some c') => go (pc + 3) lv (.inr c' :: r) M
          | some none => go (pc + 3) lv (.inl (M c k) :: r) M
          | none => False
        | _ => False
      | none => False
    | _ => False
  | .putfield idx => match st with
    | .inl x :: .inr c :: r => match xlk fld idx with
      | some (ci, k, b) => match L[c]? with
        | some (.inl (ci', fs)) => ci' = ci ∧ match fs[k]? with
          | some none => xb01 b x ∧ go (pc + 3) lv r (xup M c k x)
          | _ => False
        | _ => False
      | none => False
    | _ => False
  | .iaload => match st with
    | .inl i :: .inr c :: r => match L[c]? with
      | some (.inr (0, n)) => (0 ≤ i ∧ i < (n : Int)) ∧ go (pc + 1) lv (.inl (M c i.toNat) :: r) M
      | _ => False
    | _ => False
  | .baload => match st with
    | .inl i :: .inr c :: r => match L[c]? with
      | some (.inr (1, n)) => (0 ≤ i ∧ i < (n : Int)) ∧ go (pc + 1) lv (.inl (M c i.toNat) :: r) M
      | _ => False
    | _ => False
  | .iastore => match st with
    | .inl x :: .inl i :: .inr c :: r => match L[c]? with
      | some (.inr (0, n)) => (0 ≤ i ∧ i < (n : Int)) ∧ go (pc + 1) lv r (xup M c i.toNat x)
      | _ => False
    | _ => False
  | .bastore => match st with
    | .inl x :: .inl i :: .inr c :: r => match L[c]? with
      | some (.inr (1, n)) => (0 ≤ i ∧ i < (n : Int)) ∧ (x = 0 ∨ x = 1) ∧ go (pc + 1) lv r (xup M c i.toNat x)
      | _ => False
    | _ => False
  | .arraylength => match st with
    | .inr c :: r => match L[c]? with
      | some (.inr (0, n)) => go (pc + 1) lv (.inl (n : Int) :: r) M
      | _ => False
    | _ => False
  | .invokevirtual idx => match xlk cals idx with
    | some (false, n, tr) => n ≤ st.length ∧ st.length ≤ n + 8 ∧ tr (st.take n).reverse M (fun r M' => go (pc + 3) lv (r.toList ++ st.drop n) M')
    | _ => False
  | .invokestatic idx => match xlk cals idx with
    | some (true, n, tr) => n ≤ st.length ∧ st.length ≤ n + 8 ∧ tr (st.take n).reverse M (fun r M' => go (pc + 3) lv (r.toList ++ st.drop n) M')
    | _ => False
  | .ireturn => match st with
    | [.inl x] => match rt with
      | 1 => Rt (some (.inl x)) M
      | 2 => (x = 0 ∨ x = 1) ∧ Rt (some (.inl x)) M
      | _ => False
    | _ => False
  | .return_ => match st with
    | [] => match rt with
      | 0 => Rt none M
      | _ => False
    | _ => False
  | _ => False
/-- many instructions, up to a cut -/
def xw (L : List xD) (fld : xFld) (cals : xCal) (cst : xCst) (rt : Nat) (Rt : xR) (I : Nat → Option Instr) (cut : Nat → Bool) (K : xG) : Nat → xG
  | 0 => fun _ _ _ _ => False
  | n + 1 => fun pc lv st M => match I pc with
    | some ins => xs L fld cals cst rt Rt (fun pc' lv' st' M' => bif cut pc' then K pc' lv' st' M' else xw L fld cals cst rt Rt I cut K n pc' lv' st' M') ins pc lv st M
    | none => False

/-- an instruction's length; 0: any -/
def xlen : Instr → Nat
  | .bipush _ => 2
  | .sipush _ => 3
  | .ldc_w _ => 3
  | .iload _ => 2
  | .istore _ => 2
  | .iinc _ _ => 3
  | .goto _ => 3
  | .ifCond _ _ => 3
  | .if_icmp _ _ => 3
  | .getfield _ => 3
  | .putfield _ => 3
  | .invokevirtual _ => 3
  | .invokestatic _ => 3
  | .tableswitch _ _ _ _ => 0
  | _ => 1
end
section
/-! the pure machine is right: its worlds, and a row an instruction -/
def xtb : List Cond := lw_tbl.filter goodWord
def xNest : List (String × Nat × MethodName × String) := [("NetShape$Told", 28, ⟨"NetShape", "hasBit", "(II)Z"⟩, "NetShape"), ("NetShape$Net", 58, ⟨"NetShape", "hasBit", "(II)Z"⟩, "NetShape"), ("NetShape$Net", 92, ⟨"NetShape", "isBox", "(I)Z"⟩, "NetShape"), ("NetShape$LeastNets", 93, ⟨"NetShape", "hasBit", "(II)Z"⟩, "NetShape"), ("NetShape$Net", 36, ⟨"NetShape", "boxIn", "(II)I"⟩, "NetShape"), ("NetShape$Survey", 62, ⟨"NetShape", "hasBit", "(II)Z"⟩, "NetShape"), ("NetShape$Survey", 58, ⟨"NetShape", "isBox", "(I)Z"⟩, "NetShape")]
def xN (U : State) : Prop := ∀ q ∈ xNest, va_Nw (.methodLinkNest q.1 q.2.1 q.2.2.1 q.2.2.2) U
theorem xN.warm {s U : State} (hW : s.WarmedH U.vm) (h : xN s) : xN U := fun q hq => va_Nw.warmM hW (h q hq)
theorem xN.same {s U : State} (hv : s.vm = U.vm) (h : xN s) : xN U := fun q hq => va_Nw.same rfl hv (h q hq)
def xv (ad : Nat → Nat) : xV → Value
  | .inl x => .int (xi x)
  | .inr a => .ref (ad a)
theorem xv_cat (ad : Nat → Nat) (v : xV) : (xv ad v).category = 1 := by cases v <;> rfl
def xfv (ad : Nat → Nat) (M : xM) (c k : Nat) : Option Nat → Value
  | some a => .ref (ad a)
  | none => .int (xi (M c k))
def xe (T : Nat → ClassId) (ad : Nat → Nat) (M : xM) (c : Nat) : xD → va_E
  | .inl q => .inr (q.1, q.2.mapIdx (fun k r => xfv ad M c k r))
  | .inr q => .inl (T q.1, q.2, .inl (fun j => xi (M c j)))
def xW (T : Nat → ClassId) (ad : Nat → Nat) (L : List xD) (M : xM) : va_W := L.mapIdx (fun c d => (ad c, xe T ad M c d))
theorem xW_get {T : Nat → ClassId} {ad : Nat → Nat} {L : List xD} {M : xM} {c : Nat} {d : xD} (h : L[c]? = some d) : (xW T ad L M)[c]? = some (ad c, xe T ad M c d) := by
  simp [xW, h]
theorem xW_inv {T : Nat → ClassId} {ad : Nat → Nat} {L : List xD} {M : xM} {c : Nat} {q : Nat × va_E} (h : (xW T ad L M)[c]? = some q) : c < L.length ∧ q.1 = ad c := by
  simp only [xW, List.getElem?_mapIdx] at h
  cases hd : L[c]? with
  | none => rw [hd] at h; cases h
  | some d =>
    rw [hd] at h
    cases h
    exact ⟨(List.getElem?_eq_some_iff.mp hd).1, rfl⟩
theorem xup_ne {M : xM} {c k : Nat} {x : Int} {c' : Nat} (h : c' ≠ c) : xup M c k x c' = M c' := by
  funext j
  simp [xup, h]
theorem xe_ne {T : Nat → ClassId} {ad : Nat → Nat} {M : xM} {c k : Nat} {x : Int} {c' : Nat} (h : c' ≠ c) (d : xD) : xe T ad (xup M c k x) c' d = xe T ad M c' d := by
  cases d with
  | inl q =>
    simp only [xe, Sum.inr.injEq, Prod.mk.injEq, true_and]
    apply List.ext_getElem?
    intro j
    simp only [List.getElem?_mapIdx]
    cases q.2[j]? with
    | none => rfl
    | some r => cases r <;> simp [xfv, xup_ne h]
  | inr q => simp only [xe, xup_ne h]
theorem xW_put {T : Nat → ClassId} {ad : Nat → Nat} {L : List xD} {M : xM} {c k : Nat} {x : Int} {d : xD} (h : L[c]? = some d) {e' : va_E} (he : xe T ad (xup M c k x) c d = e') : xW T ad L (xup M c k x) = (xW T ad L M).set c (ad c, e') := by
  apply List.ext_getElem?
  intro j
  rw [List.getElem?_set]
  by_cases hj : c = j
  · subst hj
    have hlt := (List.getElem?_eq_some_iff.mp h).1
    simp only [xW, List.getElem?_mapIdx, h, List.length_mapIdx, hlt, if_true, Option.map_some, he]
  · rw [if_neg hj]
    simp only [xW, List.getElem?_mapIdx]
    cases L[j]? with
    | none => rfl
    | some d' => simp only [Option.map_some, xe_ne (fun z => hj z.symm)]
theorem xe_put_obj {T : Nat → ClassId} {ad : Nat → Nat} {M : xM} {c k ci : Nat} {x : Int} {fs : List (Option Nat)} (hk : fs[k]? = some none) : xe T ad (xup M c k x) c (.inl (ci, fs)) = .inr (ci, (fs.mapIdx (fun j r => xfv ad M c j r)).set k (.int (xi x))) := by
  simp only [xe, Sum.inr.injEq, Prod.mk.injEq, true_and]
  apply List.ext_getElem?
  intro j
  rw [List.getElem?_set]
  by_cases hj : k = j
  · subst hj
    have hlt := (List.getElem?_eq_some_iff.mp hk).1
    simp only [List.length_mapIdx, hlt, if_true, List.getElem?_mapIdx, hk, Option.map_some, xfv, xup, and_self]
  · rw [if_neg hj]
    simp only [List.getElem?_mapIdx]
    cases fs[j]? with
    | none => rfl
    | some r => cases r <;> simp [xfv, xup, Ne.symm hj]
theorem xe_put_arr {T : Nat → ClassId} {ad : Nat → Nat} {M : xM} {c k : Nat} {t n : Nat} {x : Int} : xe T ad (xup M c k x) c (.inr (t, n)) = .inl (T t, n, .inl (upd (fun j => xi (M c j)) k (xi x))) := by
  simp only [xe, Sum.inl.injEq, Prod.mk.injEq, true_and]
  funext j
  by_cases hj : j = k <;> simp [xup, upd, hj]
def xA (ad : Nat → Nat) (L : List xD) : Nat → Prop := fun q => ∃ c, c < L.length ∧ q = ad c
def xOk (ad : Nat → Nat) (L : List xD) : Prop := (∀ i j, i < L.length → j < L.length → ad i = ad j → i = j) ∧ ∀ (c t n : Nat), L[c]? = some (.inr (t, n)) → n < 2147483648
theorem xW_D {T : Nat → ClassId} {ad : Nat → Nat} {L : List xD} (M : xM) (h : xOk ad L) : va_D (xA ad L) (xW T ad L M) := by
  refine ⟨fun i j p q hi hj he => ?_, fun k q hk => ?_⟩
  · obtain ⟨h1, e1⟩ := xW_inv hi
    obtain ⟨h2, e2⟩ := xW_inv hj
    exact h.1 i j h1 h2 (by rw [← e1, ← e2]; exact he)
  · obtain ⟨h1, e1⟩ := xW_inv hk
    exact ⟨k, h1, e1⟩
def xU (D : va_G) (T : Nat → ClassId) (ad : Nat → Nat) (L : List xD) (M : xM) (U : State) : Prop := va_P D vwCl (xW T ad L M) U.heap ∧ va_K D vwCl [(T 0, .int), (T 1, .boolean)] U ∧ xN U
def xQ (D : va_G) (T : Nat → ClassId) (ad : Nat → Nat) (L : List xD) (Post : xR) : Array Value → State → Outcome → State → Prop := fun _ st oc t => (∃ (r : Option xV) (M : xM), oc = .returned (r.map (xv ad)) ∧ Post r M ∧ xU D T ad L M t) ∧ va_F (xA ad L) st t
def xl (ad : Nat → Nat) (ls : Array Slot) (nL : Nat) (lv : xL) : Prop := lv.length = nL ∧ ∃ l, lv_has ls nL l ∧ ∀ (i : Nat) (v : xV), lv[i]? = some (some v) → (i, xv ad v) ∈ l
theorem xl.at {ad : Nat → Nat} {ls : Array Slot} {nL : Nat} {lv : xL} (h : xl ad ls nL lv) {i : Nat} {v : xV} (hi : lv[i]? = some (some v)) : ls[i]? = some (.val (xv ad v)) := by
  obtain ⟨-, l, hl, hm⟩ := h
  exact hl.2.2 _ (hm i v hi)
theorem xl.set {ad : Nat → Nat} {nL : Nat} {lv : xL} {l : List (Nat × Value)} (hlen : lv.length = nL) (hm : ∀ (i : Nat) (v : xV), lv[i]? = some (some v) → (i, xv ad v) ∈ l) {i : Nat} {x : xV} {ls' : Array Slot} (h' : lv_has ls' nL ((i, xv ad x) :: l.filter (fun q => !(q.1 == i) && !(q.1 + 1 == i && q.2.category == 2)))) : xl ad ls' nL (lv.set i (some x)) := by
  refine ⟨by rw [List.length_set]; exact hlen, _, h', fun j v hj => ?_⟩
  rw [List.getElem?_set] at hj
  by_cases hij : i = j
  · subst hij
    by_cases hlt : i < lv.length
    · simp only [hlt, if_true] at hj
      cases hj
      exact List.mem_cons_self
    · simp [hlt] at hj
  · rw [if_neg hij] at hj
    refine List.mem_cons_of_mem _ (List.mem_filter.mpr ⟨hm j v hj, ?_⟩)
    have h1 : (j == i) = false := by simp; omega
    have h2 : ((xv ad v).category == 2) = false := by rw [xv_cat]; rfl
    simp [h1, h2]
def xFOk (own : String) (q : Nat × Nat × Nat × Nat) : Prop := ∃ (C : String) (Tt : u_T) (N : Nat) (ty0 : Nat → FieldType), vwCl[q.2.1]? = some (C, Tt, N) ∧ q.2.2.1 < N ∧ (∀ w ∈ u_ws C Tt N, w ∈ xtb) ∧ Cond.fieldLink own q.1 (Tt q.2.2.1).1 (Tt q.2.2.1).2.1 (Tt q.2.2.1).2.2.1 ∈ xtb ∧ (∀ k, k < N → parseFieldDescriptor (Tt k).2.2.1 = some (ty0 k)) ∧ (∀ a, a < N → ∀ b, b < N → a ≠ b → (Tt a).2.1 ≠ (Tt b).2.1) ∧ (q.2.2.2 = 0 → (Tt q.2.2.1).2.2.2 = false ∧ ty0 q.2.2.1 = .int) ∧ (q.2.2.2 = 1 → (Tt q.2.2.1).2.2.2 = false ∧ ty0 q.2.2.1 = .boolean)
def xKOk (own : String) (q : Nat × Int) : Prop := Cond.constant own q.1 (xi q.2) ∈ xtb
theorem xi_bipush {n : Int} (h : -128 ≤ n ∧ n < 128) : (Int8.ofInt n).toInt32 = xi n := by
  apply Int32.toInt_inj.mp
  rw [Int8.toInt_toInt32, Int8.toInt_ofInt_of_le (by omega) (by omega), xi, Int32.toInt_ofInt_of_le (by omega) (by omega)]
theorem xi_sipush {n : Int} (h : -32768 ≤ n ∧ n < 32768) : (Int16.ofInt n).toInt32 = xi n := by
  apply Int32.toInt_inj.mp
  rw [Int16.toInt_toInt32, Int16.toInt_ofInt_of_le (by omega) (by omega), xi, Int32.toInt_ofInt_of_le (by omega) (by omega)]
theorem xi_add (a b : Int) : xi a + xi b = xi (a + b) := (Int32.ofInt_add a b).symm
theorem xi_sub (a b : Int) : xi a - xi b = xi (a - b) := (Int32.ofInt_sub a b).symm
theorem xi_mul (a b : Int) : xi a * xi b = xi (a * b) := (Int32.ofInt_mul a b).symm
theorem xi_to (x : Int32) : xi x.toInt = x := Int32.ofInt_toInt x
theorem to_xi {v : Int} (h : rg v) : (xi v).toInt = v := Int32.toInt_ofInt_of_le (by have := h.1; omega) (by have := h.2; omega)
theorem xi_lt {a b : Int} (ha : rg a) (hb : rg b) : xi a < xi b ↔ a < b := by rw [Int32.lt_iff_toInt_lt, to_xi ha, to_xi hb]
theorem xi_le {a b : Int} (ha : rg a) (hb : rg b) : xi a ≤ xi b ↔ a ≤ b := by rw [Int32.le_iff_toInt_le, to_xi ha, to_xi hb]
theorem xi_eq {a b : Int} (ha : rg a) (hb : rg b) : xi a = xi b ↔ a = b := by rw [← Int32.toInt_inj, to_xi ha, to_xi hb]
theorem rg0 : rg 0 := by constructor <;> omega
theorem xi0 : xi 0 = 0 := rfl
theorem xi_nI (n : Nat) : xi (n : Int) = nI n := Int32.ofInt_eq_ofNat
theorem xi_clamp {i : Int} {n : Nat} (h : 0 ≤ i ∧ i < (n : Int)) (hn : n < 2147483648) : (xi i).toNatClampNeg = i.toNat := by
  obtain ⟨k, rfl⟩ : ∃ k : Nat, i = k := ⟨i.toNat, by omega⟩
  rw [xi_nI, nI_clamp (by omega)]
  rfl
theorem xi_in {i : Int} {n : Nat} (h : 0 ≤ i ∧ i < (n : Int)) (hn : n < 2147483648) : vp_in (xi i) n := by
  obtain ⟨k, rfl⟩ : ∃ k : Nat, i = k := ⟨i.toNat, by omega⟩
  rw [xi_nI]
  exact vp_in_nI (by omega) (by omega)
theorem xi_div {a b : Int} (h : 0 ≤ a ∧ a < 2147483648 ∧ 0 < b ∧ b < 2147483648) : xi a / xi b = xi (a / b) := by
  obtain ⟨k, rfl⟩ : ∃ k : Nat, a = k := ⟨a.toNat, by omega⟩
  obtain ⟨d, rfl⟩ : ∃ d : Nat, b = d := ⟨b.toNat, by omega⟩
  rw [xi_nI, xi_nI, pk_div (by omega) (by omega) (by omega), ← xi_nI]
  rfl
theorem xi_rem {a b : Int} (h : 0 ≤ a ∧ a < 2147483648 ∧ 0 < b ∧ b < 2147483648) : xi a - xi a / xi b * xi b = xi (a % b) := by
  obtain ⟨k, rfl⟩ : ∃ k : Nat, a = k := ⟨a.toNat, by omega⟩
  obtain ⟨d, rfl⟩ : ∃ d : Nat, b = d := ⟨b.toNat, by omega⟩
  rw [xi_nI, xi_nI, pk_rem (by omega) (by omega) (by omega), ← xi_nI]
  rfl
theorem xi_ne0 {b : Int} (h : 0 < b ∧ b < 2147483648) : ¬ xi b = 0 := by
  rw [← xi0, xi_eq ⟨by omega, by omega⟩ rg0]
  omega
theorem xi_nar_bool {x : Int} (h : x = 0 ∨ x = 1) : narrow .boolean (.int (xi x)) = .int (xi x) ∧ fits .boolean (.int (xi x)) = true ∧ vp_nar .boolean (xi x) = xi x := by
  rcases h with rfl | rfl <;> exact ⟨by decide +kernel, by decide +kernel, by decide +kernel⟩
end
section
/-! one instruction, many instructions: from the pure machine to the machine -/
section XS
variable {p : Program} {l : Launch} {e : Env} {R : Room} {s : State} {m : MethodId} {args : Array Value} {below : List Frame} {meth : Method} {c : Code} {Q : State → Prop}
def Wx (p : Program) (l : Launch) (e : Env) (R : Room) (s : State) (m : MethodId) (args : Array Value) (below : List Frame) (meth : Method) (c : Code) (D : va_G) (T : Nat → ClassId) (ad : Nat → Nat) (L : List xD) (nL : Nat) (Q : State → Prop) : xG := fun pc lv st M =>
  ∀ (H : Heap) (locs : List Loc) (ls : Array Slot), va_P D vwCl (xW T ad L M) H → va_S (xA ad L) s.heap H locs → xl ad ls nL lv → W p l e R s m args below meth c H locs 0 0 Q (F0 m pc ls (st.map (xv ad)))
/-- what a method's body knows -/
def xX (p : Program) (s : State) (m : MethodId) (args : Array Value) (c : Code) (D : va_G) (T : Nat → ClassId) (cc : ByteArray) (nL : Nat) (own : String) : Prop :=
  p.tables.exec = Jvm.exec ∧ c.code = cc ∧ c.maxLocals = nL ∧ s.vm.findClass own = some m.cls ∧ (∀ w ∈ xtb, w.before args s = true) ∧ va_K D vwCl [(T 0, .int), (T 1, .boolean)] s ∧ xN s
def xCOk (p : Program) (l : Launch) (e : Env) (R : Room) (s : State) (m : MethodId) (args : Array Value) (below : List Frame) (meth : Method) (c : Code) (D : va_G) (T : Nat → ClassId) (ad : Nat → Nat) (L : List xD) (nL : Nat) (Q : State → Prop) (cc : ByteArray) (q : Nat × Bool × Nat × xT) : Prop :=
  ∀ (pc : Nat) (lv : xL) (as rest : List xV) (M : xM) (Post : xR), decode cc pc = .ok (bif q.2.1 then .invokestatic q.1 else .invokevirtual q.1, 3) → as.length = q.2.2.1 → rest.length ≤ 8 → q.2.2.2 as M Post →
    (∀ r M', Post r M' → Wx p l e R s m args below meth c D T ad L nL Q (pc + 3) lv (r.toList ++ rest) M') → Wx p l e R s m args below meth c D T ad L nL Q pc lv (as.reverse ++ rest) M
variable {D : va_G} {T : Nat → ClassId} {ad : Nat → Nat} {L : List xD} {nL : Nat} {cc : ByteArray} {own : String}
theorem xbr_ok {cnd : ClassFile.Cond} {a b : Int} {tt ff : Prop} (h : xbr cnd a b tt ff) : (cnd = .eq → (a = b → tt) ∧ (¬ a = b → ff)) ∧ (cnd = .ne → (¬ a = b → tt) ∧ (¬ ¬ a = b → ff)) ∧ (cnd = .lt → (a < b → tt) ∧ (¬ a < b → ff)) ∧ (cnd = .ge → (b ≤ a → tt) ∧ (¬ b ≤ a → ff)) ∧ (cnd = .gt → (b < a → tt) ∧ (¬ b < a → ff)) ∧ (cnd = .le → (a ≤ b → tt) ∧ (¬ a ≤ b → ff)) := by
  refine ⟨?_, ?_, ?_, ?_, ?_, ?_⟩ <;> intro hc <;> subst hc <;> simp only [xbr] at h <;> refine ⟨fun q => h.1 q, fun q => h.2 ?_⟩ <;> first | exact q | (exact Classical.not_not.mp q) | omega
theorem xtab_ok {x : Int} {go : Int → Prop} : ∀ (os : List Int) (v : Int), xtab x go v os → ∀ (k : Nat) (o : Int), os[k]? = some o → x = v + (k : Int) → go o := by
  intro os
  induction os with
  | nil => intro v _ k o hk; simp at hk
  | cons a r ih =>
    intro v h k o hk hx
    cases k with
    | zero =>
      simp at hk
      subst hk
      exact h.1 (by omega)
    | succ k =>
      simp at hk
      exact ih (v + 1) h.2 k o hk (by omega)
theorem xtg {pc : Nat} {off : Int} (h : 0 ≤ (pc : Int) + off) : (pc : Int) + off = ((((pc : Int) + off).toNat : Nat) : Int) := by omega
set_option maxHeartbeats 4000000 in
theorem xs_ok {fld : xFld} {cals : xCal} {cst : xCst} {rt : Nat} {Rt : xR} {go : xG} {ins : Instr} {pc : Nat} {lv : xL} {st : List xV} {M : xM} {ret : Option FieldType}
    (hX : xX p s m args c D T cc nL own) (hlocks : meth.locks = false) (hr : meth.sig.returnType = ret) (hrt : (rt = 0 → ret = none) ∧ (rt = 1 → ret = some .int) ∧ (rt = 2 → ret = some .boolean))
    (hO : xOk ad L) (hF : ∀ q ∈ fld, xFOk own q) (hKc : ∀ q ∈ cst, xKOk own q) (hC : ∀ q ∈ cals, xCOk p l e R s m args below meth c D T ad L nL (MQ below (xQ D T ad L Rt) args s 0 0 (xA ad L)) cc q)
    {len : Nat} (hdec : decode cc pc = .ok (ins, len)) (hlen : xlen ins = 0 ∨ len = xlen ins)
    (h : xs L fld cals cst rt Rt go ins pc lv st M) (hgo : ∀ pc' lv' st' M', go pc' lv' st' M' → Wx p l e R s m args below meth c D T ad L nL (MQ below (xQ D T ad L Rt) args s 0 0 (xA ad L)) pc' lv' st' M') :
    Wx p l e R s m args below meth c D T ad L nL (MQ below (xQ D T ad L Rt) args s 0 0 (xA ad L)) pc lv st M := by
  obtain ⟨hx, hb, hml, hown, hts, hK, hN⟩ := id hX
  unfold xs at h
  split at h
  -- iconst
  · have hl1 : len = 1 := by rcases hlen with q | q <;> first | exact q | cases q
    subst hl1
    intro H locs ls hP hS hl
    exact lv_iconst hx hb hdec rfl (hgo _ _ _ _ h H locs ls hP hS hl)
  -- bipush
  · have hl1 : len = 2 := by rcases hlen with q | q <;> first | exact q | cases q
    subst hl1
    intro H locs ls hP hS hl
    exact lv_bipush hx hb hdec (xi_bipush h.1) (hgo _ _ _ _ h.2 H locs ls hP hS hl)
  -- sipush
  · have hl1 : len = 3 := by rcases hlen with q | q <;> first | exact q | cases q
    subst hl1
    intro H locs ls hP hS hl
    exact lv_sipush hx hb hdec (xi_sipush h.1) (hgo _ _ _ _ h.2 H locs ls hP hS hl)
  -- ldc_w
  · have hl1 : len = 3 := by rcases hlen with q | q <;> first | exact q | cases q
    subst hl1
    split at h
    · rename_i v hv
      intro H locs ls hP hS hl
      exact lv_ldcw hx hb hown (hts _ (hKc _ (xlk_mem hv))) hdec (hgo _ _ _ _ h H locs ls hP hS hl)
    · exact h.elim
  -- iload_n
  · have hl1 : len = 1 := by rcases hlen with q | q <;> first | exact q | cases q
    subst hl1
    split at h
    · rename_i x hv
      intro H locs ls hP hS hl
      exact lv_iload_n hx hb hdec rfl (hl.at hv) (hgo _ _ _ _ h H locs ls hP hS hl)
    · exact h.elim
  -- iload
  · have hl1 : len = 2 := by rcases hlen with q | q <;> first | exact q | cases q
    subst hl1
    split at h
    · rename_i x hv
      intro H locs ls hP hS hl
      exact lv_iload hx hb hdec (hl.at hv) (hgo _ _ _ _ h H locs ls hP hS hl)
    · exact h.elim
  -- aload_n
  · have hl1 : len = 1 := by rcases hlen with q | q <;> first | exact q | cases q
    subst hl1
    split at h
    · rename_i x hv
      intro H locs ls hP hS hl
      exact lv_aload_n hx hb hdec rfl (hl.at hv) (hgo _ _ _ _ h H locs ls hP hS hl)
    · exact h.elim
  -- istore_n
  · have hl1 : len = 1 := by rcases hlen with q | q <;> first | exact q | cases q
    subst hl1
    split at h
    · intro H locs ls hP hS hl
      obtain ⟨hlen', l1, hl1, hm⟩ := hl
      exact lv_istore_n hx hb hdec rfl hl1 (by rw [← hlen']; exact h.1) rfl (fun ls' h' => hgo _ _ _ _ h.2 H locs ls' hP hS (xl.set (x := .inl _) hlen' hm h'))
    · exact h.elim
  -- istore
  · have hl1 : len = 2 := by rcases hlen with q | q <;> first | exact q | cases q
    subst hl1
    split at h
    · intro H locs ls hP hS hl
      obtain ⟨hlen', l1, hl1, hm⟩ := hl
      exact lv_istore hx hb hdec hl1 (by rw [← hlen']; exact h.1) rfl (fun ls' h' => hgo _ _ _ _ h.2 H locs ls' hP hS (xl.set (x := .inl _) hlen' hm h'))
    · exact h.elim
  -- iinc
  · rename_i k n
    have hl1 : len = 3 := by rcases hlen with q | q <;> first | exact q | cases q
    subst hl1
    split at h
    · rename_i x hv
      intro H locs ls hP hS hl
      obtain ⟨hlen', l1, hl1, hm⟩ := hl
      obtain ⟨j, hj⟩ := List.getElem?_of_mem (hm _ _ hv)
      have hlt := (List.getElem?_eq_some_iff.mp hv).1
      exact lv_iinc (v := xi (x + n)) hx hb hdec hl1 hj (xi_add x n) (by rw [← hlen']; exact hlt) rfl (fun ls' h' => hgo _ _ _ _ h H locs ls' hP hS (xl.set (x := .inl _) hlen' hm h'))
    · exact h.elim
  -- iadd
  · have hl1 : len = 1 := by rcases hlen with q | q <;> first | exact q | cases q
    subst hl1
    split at h
    · intro H locs ls hP hS hl
      refine lv_iadd hx hb hdec ?_
      rw [xi_add]
      exact hgo _ _ _ _ h H locs ls hP hS hl
    · exact h.elim
  -- isub
  · have hl1 : len = 1 := by rcases hlen with q | q <;> first | exact q | cases q
    subst hl1
    split at h
    · intro H locs ls hP hS hl
      refine lv_isub hx hb hdec ?_
      rw [xi_sub]
      exact hgo _ _ _ _ h H locs ls hP hS hl
    · exact h.elim
  -- imul
  · have hl1 : len = 1 := by rcases hlen with q | q <;> first | exact q | cases q
    subst hl1
    split at h
    · intro H locs ls hP hS hl
      refine lv_imul hx hb hdec ?_
      rw [xi_mul]
      exact hgo _ _ _ _ h H locs ls hP hS hl
    · exact h.elim
  -- idiv
  · have hl1 : len = 1 := by rcases hlen with q | q <;> first | exact q | cases q
    subst hl1
    split at h
    · intro H locs ls hP hS hl
      refine lv_idiv hx hb hdec (xi_ne0 ⟨h.1.2.2.1, h.1.2.2.2⟩) ?_
      rw [xi_div h.1]
      exact hgo _ _ _ _ h.2 H locs ls hP hS hl
    · exact h.elim
  -- irem
  · have hl1 : len = 1 := by rcases hlen with q | q <;> first | exact q | cases q
    subst hl1
    split at h
    · intro H locs ls hP hS hl
      refine lv_irem hx hb hdec (xi_ne0 ⟨h.1.2.2.1, h.1.2.2.2⟩) ?_
      rw [xi_rem h.1]
      exact hgo _ _ _ _ h.2 H locs ls hP hS hl
    · exact h.elim
  -- iand
  · have hl1 : len = 1 := by rcases hlen with q | q <;> first | exact q | cases q
    subst hl1
    split at h
    · intro H locs ls hP hS hl
      refine lv_iand hx hb hdec ?_
      have h2 := hgo _ _ _ _ h H locs ls hP hS hl
      simp only [List.map_cons, xv, xi_to] at h2
      exact h2
    · exact h.elim
  -- ior
  · have hl1 : len = 1 := by rcases hlen with q | q <;> first | exact q | cases q
    subst hl1
    split at h
    · intro H locs ls hP hS hl
      refine lv_ior hx hb hdec ?_
      have h2 := hgo _ _ _ _ h H locs ls hP hS hl
      simp only [List.map_cons, xv, xi_to] at h2
      exact h2
    · exact h.elim
  -- ixor
  · have hl1 : len = 1 := by rcases hlen with q | q <;> first | exact q | cases q
    subst hl1
    split at h
    · intro H locs ls hP hS hl
      refine lv_ixor hx hb hdec ?_
      have h2 := hgo _ _ _ _ h H locs ls hP hS hl
      simp only [List.map_cons, xv, xi_to] at h2
      exact h2
    · exact h.elim
  -- ishl
  · have hl1 : len = 1 := by rcases hlen with q | q <;> first | exact q | cases q
    subst hl1
    split at h
    · intro H locs ls hP hS hl
      refine lv_ishl hx hb hdec ?_
      have h2 := hgo _ _ _ _ h H locs ls hP hS hl
      simp only [List.map_cons, xv, xi_to] at h2
      exact h2
    · exact h.elim
  -- ishr
  · have hl1 : len = 1 := by rcases hlen with q | q <;> first | exact q | cases q
    subst hl1
    split at h
    · intro H locs ls hP hS hl
      refine lv_ishr hx hb hdec ?_
      have h2 := hgo _ _ _ _ h H locs ls hP hS hl
      simp only [List.map_cons, xv, xi_to] at h2
      exact h2
    · exact h.elim
  -- iushr
  · have hl1 : len = 1 := by rcases hlen with q | q <;> first | exact q | cases q
    subst hl1
    split at h
    · intro H locs ls hP hS hl
      refine lv_iushr hx hb hdec rfl ?_
      have h2 := hgo _ _ _ _ h H locs ls hP hS hl
      simp only [List.map_cons, xv, xi_to] at h2
      exact h2
    · exact h.elim
  -- dup
  · have hl1 : len = 1 := by rcases hlen with q | q <;> first | exact q | cases q
    subst hl1
    split at h
    · intro H locs ls hP hS hl
      exact lv_dup hx hb hdec (xv_cat ad _) (hgo _ _ _ _ h H locs ls hP hS hl)
    · exact h.elim
  -- dup2
  · have hl1 : len = 1 := by rcases hlen with q | q <;> first | exact q | cases q
    subst hl1
    split at h
    · intro H locs ls hP hS hl
      exact lv_dup2_11 hx hb hdec (xv_cat ad _) (xv_cat ad _) (hgo _ _ _ _ h H locs ls hP hS hl)
    · exact h.elim
  -- pop
  · have hl1 : len = 1 := by rcases hlen with q | q <;> first | exact q | cases q
    subst hl1
    split at h
    · intro H locs ls hP hS hl
      exact lv_pop hx hb hdec (xv_cat ad _) (hgo _ _ _ _ h H locs ls hP hS hl)
    · exact h.elim
  -- goto
  · have hl1 : len = 3 := by rcases hlen with q | q <;> first | exact q | cases q
    subst hl1
    intro H locs ls hP hS hl
    exact lv_goto hx hb hdec (xtg h.1) (hgo _ _ _ _ h.2 H locs ls hP hS hl)
  -- ifCond
  · rename_i cnd off
    have hl1 : len = 3 := by rcases hlen with q | q <;> first | exact q | cases q
    subst hl1
    split at h
    · rename_i a r
      obtain ⟨ha, h0, hbr⟩ := h
      obtain ⟨b1, b2, b3, b4, b5, b6⟩ := xbr_ok hbr
      intro H locs ls hP hS hl
      cases cnd with
      | eq => exact lv_if_eq hx hb hdec (xtg h0) (fun q => hgo _ _ _ _ ((b1 rfl).1 ((xi_eq ha rg0).mp q)) H locs ls hP hS hl) (fun q => hgo _ _ _ _ ((b1 rfl).2 (fun z => q ((xi_eq ha rg0).mpr z))) H locs ls hP hS hl)
      | ne => exact lv_if_ne hx hb hdec (xtg h0) (fun q => hgo _ _ _ _ ((b2 rfl).1 (fun z => q ((xi_eq ha rg0).mpr z))) H locs ls hP hS hl) (fun q => hgo _ _ _ _ ((b2 rfl).2 (fun z => z ((xi_eq ha rg0).mp q))) H locs ls hP hS hl)
      | lt => exact lv_if_lt hx hb hdec (xtg h0) (fun q => hgo _ _ _ _ ((b3 rfl).1 ((xi_lt ha rg0).mp q)) H locs ls hP hS hl) (fun q => hgo _ _ _ _ ((b3 rfl).2 (fun z => q ((xi_lt ha rg0).mpr z))) H locs ls hP hS hl)
      | ge => exact lv_if_ge hx hb hdec (xtg h0) (fun q => hgo _ _ _ _ ((b4 rfl).1 ((xi_le rg0 ha).mp q)) H locs ls hP hS hl) (fun q => hgo _ _ _ _ ((b4 rfl).2 (fun z => q ((xi_le rg0 ha).mpr z))) H locs ls hP hS hl)
      | gt => exact lv_if_gt hx hb hdec (xtg h0) (fun q => hgo _ _ _ _ ((b5 rfl).1 ((xi_lt rg0 ha).mp q)) H locs ls hP hS hl) (fun q => hgo _ _ _ _ ((b5 rfl).2 (fun z => q ((xi_lt rg0 ha).mpr z))) H locs ls hP hS hl)
      | le => exact lv_if_le hx hb hdec (xtg h0) (fun q => hgo _ _ _ _ ((b6 rfl).1 ((xi_le ha rg0).mp q)) H locs ls hP hS hl) (fun q => hgo _ _ _ _ ((b6 rfl).2 (fun z => q ((xi_le ha rg0).mpr z))) H locs ls hP hS hl)
    · exact h.elim
  -- if_icmp
  · rename_i cnd off
    have hl1 : len = 3 := by rcases hlen with q | q <;> first | exact q | cases q
    subst hl1
    split at h
    · rename_i b a r
      obtain ⟨ha, hb', h0, hbr⟩ := h
      obtain ⟨b1, b2, b3, b4, b5, b6⟩ := xbr_ok hbr
      intro H locs ls hP hS hl
      cases cnd with
      | eq => exact lv_icmp_eq hx hb hdec (xtg h0) (fun q => hgo _ _ _ _ ((b1 rfl).1 ((xi_eq ha hb').mp q)) H locs ls hP hS hl) (fun q => hgo _ _ _ _ ((b1 rfl).2 (fun z => q ((xi_eq ha hb').mpr z))) H locs ls hP hS hl)
      | ne => exact lv_icmp_ne hx hb hdec (xtg h0) (fun q => hgo _ _ _ _ ((b2 rfl).1 (fun z => q ((xi_eq ha hb').mpr z))) H locs ls hP hS hl) (fun q => hgo _ _ _ _ ((b2 rfl).2 (fun z => z ((xi_eq ha hb').mp q))) H locs ls hP hS hl)
      | lt => exact lv_icmp_lt hx hb hdec (xtg h0) (fun q => hgo _ _ _ _ ((b3 rfl).1 ((xi_lt ha hb').mp q)) H locs ls hP hS hl) (fun q => hgo _ _ _ _ ((b3 rfl).2 (fun z => q ((xi_lt ha hb').mpr z))) H locs ls hP hS hl)
      | ge => exact lv_icmp_ge hx hb hdec (xtg h0) (fun q => hgo _ _ _ _ ((b4 rfl).1 ((xi_le hb' ha).mp q)) H locs ls hP hS hl) (fun q => hgo _ _ _ _ ((b4 rfl).2 (fun z => q ((xi_le hb' ha).mpr z))) H locs ls hP hS hl)
      | gt => exact lv_icmp_gt hx hb hdec (xtg h0) (fun q => hgo _ _ _ _ ((b5 rfl).1 ((xi_lt hb' ha).mp q)) H locs ls hP hS hl) (fun q => hgo _ _ _ _ ((b5 rfl).2 (fun z => q ((xi_lt hb' ha).mpr z))) H locs ls hP hS hl)
      | le => exact lv_icmp_le hx hb hdec (xtg h0) (fun q => hgo _ _ _ _ ((b6 rfl).1 ((xi_le ha hb').mp q)) H locs ls hP hS hl) (fun q => hgo _ _ _ _ ((b6 rfl).2 (fun z => q ((xi_le ha hb').mpr z))) H locs ls hP hS hl)
    · exact h.elim
  -- tableswitch
  · rename_i d lo hi offs
    split at h
    · rename_i x r
      obtain ⟨hg, hhi, h1, h2, h3⟩ := h
      intro H locs ls hP hS hl
      by_cases q1 : x < lo
      · exact lv_tableOut hx hb hdec (Or.inl (by rw [to_xi hg]; exact q1)) (xtg (h1 q1).1) (hgo _ _ _ _ (h1 q1).2 H locs ls hP hS hl)
      · by_cases q2 : hi < x
        · exact lv_tableOut hx hb hdec (Or.inr (by rw [to_xi hg]; exact q2)) (xtg (h2 q2).1) (hgo _ _ _ _ (h2 q2).2 H locs ls hP hS hl)
        · have hk : (x - lo).toNat < offs.size := by omega
          have ho : offs[(x - lo).toNat]? = some offs[(x - lo).toNat] := Array.getElem?_eq_getElem hk
          have h4 := xtab_ok offs.toList lo h3 (x - lo).toNat _ (by rw [Array.getElem?_toList]; exact ho) (by omega)
          exact lv_tableIn hx hb hdec (by rw [to_xi hg]; exact q1) (by rw [to_xi hg]; exact q2) (by rw [to_xi hg]; exact ho) (xtg h4.1) (hgo _ _ _ _ h4.2 H locs ls hP hS hl)
    · exact h.elim
  -- getfield
  · have hl1 : len = 3 := by rcases hlen with q | q <;> first | exact q | cases q
    subst hl1
    split at h
    · split at h
      · rename_i ci k b hfl
        split at h
        · rename_i ci' fs hLc
          obtain ⟨rfl, h⟩ := h
          obtain ⟨C, Tt, N, ty0, g1, g2, g3, g4, g5, g6, -, -⟩ := hF _ (xlk_mem hfl)
          intro H locs ls hP hS hl
          split at h
          · rename_i c' hk
            exact va_get hx hb hts g3 hown hK hP _ (xW_get hLc) g1 k g2 (hts _ g4) (fun _ z => z) (v := .ref (ad c')) (by simp [hk, xfv]) hdec (hgo _ _ _ _ h H locs ls hP hS hl)
          · rename_i hk
            exact va_get hx hb hts g3 hown hK hP _ (xW_get hLc) g1 k g2 (hts _ g4) (fun _ z => z) (v := .int (xi (M _ k))) (by simp [hk, xfv]) hdec (hgo _ _ _ _ h H locs ls hP hS hl)
          · exact h.elim
        · exact h.elim
      · exact h.elim
    · exact h.elim
  -- putfield
  · have hl1 : len = 3 := by rcases hlen with q | q <;> first | exact q | cases q
    subst hl1
    split at h
    · rename_i x c0 r
      split at h
      · rename_i ci k b hfl
        split at h
        · rename_i ci' fs hLc
          obtain ⟨rfl, h⟩ := h
          obtain ⟨C, Tt, N, ty0, g1, g2, g3, g4, g5, g6, g7, g8⟩ := hF _ (xlk_mem hfl)
          intro H locs ls hP hS hl
          split at h
          · rename_i hk
            have hlt := (List.getElem?_eq_some_iff.mp hk).1
            have fin : ∃ ty, (Tt k).2.2.2 = false ∧ parseFieldDescriptor (Tt k).2.2.1 = some ty ∧ narrow ty (.int (xi x)) = .int (xi x) ∧ fits ty (.int (xi x)) = true := by
              match b, h.1 with
              | 0, _ => exact ⟨.int, (g7 rfl).1, by rw [← (g7 rfl).2]; exact g5 _ g2, rfl, rfl⟩
              | 1, h1 => exact ⟨.boolean, (g8 rfl).1, by rw [← (g8 rfl).2]; exact g5 _ g2, (xi_nar_bool h1).1, (xi_nar_bool h1).2.1⟩
            obtain ⟨ty, f1, f2, f3, f4⟩ := fin
            refine va_put hx hb hts g3 ty0 g5 g6 hown hK hP (xW_D M hO) hS _ (xW_get hLc) g1 k g2 (hts _ g4) (fun _ z => z) f1 f2 f3 f4 (by simpa using hlt) hdec (fun H1 locs1 hP1 hD1 hS1 => ?_)
            exact hgo _ _ _ _ h.2 H1 locs1 ls (by rw [xW_put hLc (xe_put_obj hk)]; exact hP1) hS1 hl
          · exact h.elim
        · exact h.elim
      · exact h.elim
    · exact h.elim
  -- iaload
  · have hl1 : len = 1 := by rcases hlen with q | q <;> first | exact q | cases q
    subst hl1
    split at h
    · split at h
      · rename_i n hLc
        intro H locs ls hP hS hl
        have hn := hO.2 _ _ _ hLc
        refine va_iald hx hb hK hP _ 0 (xW_get hLc) rfl (xi_in h.1 hn) hdec ?_
        rw [xi_clamp h.1 hn]
        exact hgo _ _ _ _ h.2 H locs ls hP hS hl
      · exact h.elim
    · exact h.elim
  -- baload
  · have hl1 : len = 1 := by rcases hlen with q | q <;> first | exact q | cases q
    subst hl1
    split at h
    · split at h
      · rename_i n hLc
        intro H locs ls hP hS hl
        have hn := hO.2 _ _ _ hLc
        refine va_zald hx hb hK hP _ 1 (xW_get hLc) rfl (xi_in h.1 hn) hdec ?_
        rw [xi_clamp h.1 hn]
        exact hgo _ _ _ _ h.2 H locs ls hP hS hl
      · exact h.elim
    · exact h.elim
  -- iastore
  · have hl1 : len = 1 := by rcases hlen with q | q <;> first | exact q | cases q
    subst hl1
    split at h
    · split at h
      · rename_i n hLc
        intro H locs ls hP hS hl
        have hn := hO.2 _ _ _ hLc
        refine va_iast hx hb hK hP (xW_D M hO) hS _ 0 (xW_get hLc) rfl (xi_in h.1 hn) hdec (fun H1 locs1 hP1 hD1 hS1 => ?_)
        rw [xi_clamp h.1 hn] at hP1
        exact hgo _ _ _ _ h.2 H1 locs1 ls (by rw [xW_put hLc xe_put_arr]; exact hP1) hS1 hl
      · exact h.elim
    · exact h.elim
  -- bastore
  · have hl1 : len = 1 := by rcases hlen with q | q <;> first | exact q | cases q
    subst hl1
    split at h
    · split at h
      · rename_i n hLc
        intro H locs ls hP hS hl
        have hn := hO.2 _ _ _ hLc
        refine va_zast hx hb hK hP (xW_D M hO) hS _ 1 (xW_get hLc) rfl (xi_in h.1 hn) hdec (fun H1 locs1 hP1 hD1 hS1 => ?_)
        rw [xi_clamp h.1 hn, (xi_nar_bool h.2.1).2.2] at hP1
        exact hgo _ _ _ _ h.2.2 H1 locs1 ls (by rw [xW_put hLc xe_put_arr]; exact hP1) hS1 hl
      · exact h.elim
    · exact h.elim
  -- arraylength
  · have hl1 : len = 1 := by rcases hlen with q | q <;> first | exact q | cases q
    subst hl1
    split at h
    · split at h
      · rename_i n hLc
        intro H locs ls hP hS hl
        exact va_alen hx hb hK hP _ 0 (xW_get hLc) rfl (xi_nI n).symm hdec (hgo _ _ _ _ h H locs ls hP hS hl)
      · exact h.elim
    · exact h.elim
  -- invokevirtual
  · have hl1 : len = 3 := by rcases hlen with q | q <;> first | exact q | cases q
    subst hl1
    split at h
    · rename_i n tr hcal
      obtain ⟨h1, h2, h3⟩ := h
      have hq := hC _ (xlk_mem hcal) pc lv (st.take n).reverse (st.drop n) M _ hdec (by simp; omega) (by simp; omega) h3 (fun r M' hp => hgo _ _ _ _ hp)
      rwa [List.reverse_reverse, List.take_append_drop] at hq
    · exact h.elim
  -- invokestatic
  · have hl1 : len = 3 := by rcases hlen with q | q <;> first | exact q | cases q
    subst hl1
    split at h
    · rename_i n tr hcal
      obtain ⟨h1, h2, h3⟩ := h
      have hq := hC _ (xlk_mem hcal) pc lv (st.take n).reverse (st.drop n) M _ hdec (by simp; omega) (by simp; omega) h3 (fun r M' hp => hgo _ _ _ _ hp)
      rwa [List.reverse_reverse, List.take_append_drop] at hq
    · exact h.elim
  -- ireturn
  · have hl1 : len = 1 := by rcases hlen with q | q <;> first | exact q | cases q
    subst hl1
    split at h
    · rename_i x
      split at h
      · intro H locs ls hP hS hl
        exact W.zret (ty := .int) hx hb (hr.trans (hrt.2.1 rfl)) rfl (fun t ht hW => ⟨⟨some (.inl x), M, rfl, h, by rw [ht]; exact hP, va_K.moved hW.alike hK, hN.warm hW⟩, hS.F ht⟩) hS.2.2 hdec
      · intro H locs ls hP hS hl
        exact W.zret (ty := .boolean) hx hb (hr.trans (hrt.2.2 rfl)) (xi_nar_bool h.1).1 (fun t ht hW => ⟨⟨some (.inl x), M, rfl, h.2, by rw [ht]; exact hP, va_K.moved hW.alike hK, hN.warm hW⟩, hS.F ht⟩) hS.2.2 hdec
      · exact h.elim
    · exact h.elim
  -- return
  · have hl1 : len = 1 := by rcases hlen with q | q <;> first | exact q | cases q
    subst hl1
    split at h
    · split at h
      · intro H locs ls hP hS hl
        exact W.vret hx hb (hr.trans (hrt.1 rfl)) (fun t ht hW => ⟨⟨none, M, rfl, h, by rw [ht]; exact hP, va_K.moved hW.alike hK, hN.warm hW⟩, hS.F ht⟩) hS.2.2 hdec
      · exact h.elim
    · exact h.elim
  -- none
  · exact h.elim
end XS
end
section
/-! loops, calls, contracts of the pure machine -/
section XM
variable {p : Program} {l : Launch} {e : Env} {R : Room} {s : State} {m : MethodId} {args : Array Value} {below : List Frame} {meth : Method} {c : Code}
variable {D : va_G} {T : Nat → ClassId} {ad : Nat → Nat} {L : List xD} {nL : Nat} {cc : ByteArray} {own : String}
/-- the rows of a method's code -/
def xIOk (cc : ByteArray) (I : Nat → Option Instr) : Prop := ∀ (pc : Nat) (ins : Instr), I pc = some ins → ∃ len, decode cc pc = .ok (ins, len) ∧ (xlen ins = 0 ∨ len = xlen ins)
def xIchk (cc : ByteArray) (I : Nat → Option Instr) (pc : Nat) : Bool := match I pc with
  | none => true
  | some ins => match decode cc pc with
    | .ok q => decide (q.1 = ins) && (decide (xlen ins = 0) || decide (q.2 = xlen ins))
    | .error _ => false
theorem xIOk_of {cc : ByteArray} {I : Nat → Option Instr} {N : Nat} (h1 : ∀ pc, N ≤ pc → I pc = none) (h2 : (List.range N).all (xIchk cc I) = true) : xIOk cc I := by
  intro pc ins hi
  by_cases hN : N ≤ pc
  · rw [h1 pc hN] at hi; cases hi
  · have h3 := List.all_eq_true.mp h2 pc (List.mem_range.mpr (by omega))
    unfold xIchk at h3
    rw [hi] at h3
    dsimp only at h3
    split at h3
    · rename_i q hq
      obtain ⟨a, b⟩ := q
      simp only [Bool.and_eq_true, Bool.or_eq_true, decide_eq_true_eq] at h3
      obtain ⟨rfl, h4⟩ := h3
      exact ⟨b, hq, h4⟩
    · cases h3
theorem xw_ok {fld : xFld} {cals : xCal} {cst : xCst} {rt : Nat} {Rt : xR} {ret : Option FieldType} {I : Nat → Option Instr} {cut : Nat → Bool} {K : xG}
    (hX : xX p s m args c D T cc nL own) (hlocks : meth.locks = false) (hr : meth.sig.returnType = ret) (hrt : (rt = 0 → ret = none) ∧ (rt = 1 → ret = some .int) ∧ (rt = 2 → ret = some .boolean))
    (hO : xOk ad L) (hF : ∀ q ∈ fld, xFOk own q) (hKc : ∀ q ∈ cst, xKOk own q) (hC : ∀ q ∈ cals, xCOk p l e R s m args below meth c D T ad L nL (MQ below (xQ D T ad L Rt) args s 0 0 (xA ad L)) cc q)
    (hI : xIOk cc I) (hK : ∀ pc lv st M, K pc lv st M → Wx p l e R s m args below meth c D T ad L nL (MQ below (xQ D T ad L Rt) args s 0 0 (xA ad L)) pc lv st M) :
    ∀ (n pc : Nat) (lv : xL) (st : List xV) (M : xM), xw L fld cals cst rt Rt I cut K n pc lv st M → Wx p l e R s m args below meth c D T ad L nL (MQ below (xQ D T ad L Rt) args s 0 0 (xA ad L)) pc lv st M := by
  intro n
  induction n with
  | zero => intro pc lv st M h; exact h.elim
  | succ n ih =>
    intro pc lv st M h
    unfold xw at h
    split at h
    · rename_i ins hins
      obtain ⟨len, hd, hl⟩ := hI _ _ hins
      refine xs_ok hX hlocks hr hrt hO hF hKc hC hd hl h (fun pc' lv' st' M' hg => ?_)
      cases hc : cut pc' with
      | true => rw [hc] at hg; exact hK _ _ _ _ hg
      | false => rw [hc] at hg; exact ih _ _ _ _ hg
    · exact h.elim
def xrm (h : Nat) : Room := { frames := h, cells := 0, slots := 0, locals := 40 * h }
/-- a method's contract: for every post that the transformer gives, the method comes to it -/
def xMet (l : Launch) (D : va_G) (T : Nat → ClassId) (ad : Nat → Nat) (L : List xD) (y : MethodName) (cc : ByteArray) (nL : Nat) (ret : Option FieldType) (h : Nat) (tr : xT) : Prop :=
  ∀ (as : List xV) (M : xM) (Post : xR), tr as M Post → Met l y (.code y cc nL ret :: xtb) (xrm h) (va_Pc (as.map (xv ad)) (xU D T ad L M)) (xQ D T ad L Post) 0 0 (xA ad L)
theorem xMet.mono {y : MethodName} {ret : Option FieldType} {h : Nat} {tr tr' : xT} (hm : xMet l D T ad L y cc nL ret h tr) (hi : ∀ as M Post, tr' as M Post → tr as M Post) : xMet l D T ad L y cc nL ret h tr' := fun as M Post ht => hm as M Post (hi _ _ _ ht)
/-- the names of a method: its own name, its code, its locals, its answer, how many parameters -/
def xYOk (y : MethodName) (cc : ByteArray) (nL : Nat) (ret : Option FieldType) (np : Nat) : Prop := nL ≤ 21 ∧ Cond.code y cc nL ret ∈ xtb ∧ Cond.initialized y.cls ∈ xtb ∧ (y.cls ≠ "java/lang/invoke/MethodHandle" ∧ y.cls ≠ "java/lang/invoke/VarHandle") ∧ (parseMethodDescriptor y.desc).map (fun d => d.parameters.length) = some np
def xLink (own : String) (idx : Nat) (y : MethodName) (b : Bool) : Prop := match b with
  | true => Cond.static y ∈ xtb ∧ (Cond.methodLink own idx y ∈ xtb ∨ ∃ host, (own, idx, y, host) ∈ xNest)
  | false => Cond.instanceMethod y ∈ xtb ∧ Cond.selects y.cls y y ∈ xtb ∧ Cond.methodLink own idx y ∈ xtb
def xRecv (L : List xD) (y : MethodName) (tr : xT) : Prop := ∃ (c0 ci : Nat) (fs : List (Option Nat)) (Tt : u_T) (N : Nat), L[c0]? = some (.inl (ci, fs)) ∧ vwCl[ci]? = some (y.cls, Tt, N) ∧ ∀ as M Post, tr as M Post → ∃ as', as = .inr c0 :: as'
def xCallee (l : Launch) (D : va_G) (T : Nat → ClassId) (ad : Nat → Nat) (L : List xD) (own : String) (h : Nat) (q : Nat × Bool × Nat × xT) : Prop :=
  ∃ (y : MethodName) (cc : ByteArray) (nL : Nat) (ret : Option FieldType) (hc np : Nat), hc < h ∧ xYOk y cc nL ret np ∧ xMet l D T ad L y cc nL ret hc q.2.2.2 ∧ xLink own q.1 y q.2.1 ∧ ((q.2.1 = true ∧ q.2.2.1 = np) ∨ (q.2.1 = false ∧ q.2.2.1 = np + 1 ∧ xRecv L y q.2.2.2))
theorem xtb_good {w : Cond} (h : w ∈ xtb) : (w.onTables && w.keeps) = true ∨ ∃ ty, w = .arrayClass ty := good_of_word (List.mem_filter.mp h).2
theorem xU.blind {M : xM} {as : List Value} : FrameBlind (va_Pc as (xU D T ad L M)) := by
  intro a U g mk q
  obtain ⟨q0, qP, qK, qN⟩ := q
  exact ⟨q0, qP, va_K.moved (u := U) (U := U.calling g mk a) (Vm.Alike.refl U.vm) qK, xN.same (U := U.calling g mk a) rfl qN⟩
theorem xcall {Q : State → Prop} {H : Heap} {locs : List Loc} {pc : Nat} {ls : Array Slot} {st0 rest : List Value} {Post : xR} {a : Array Value} (hr : va_Run p l e R s m args below meth c H locs 0 0 0 0 (F0 m pc ls st0) rest (xQ D T ad L Post a) (xA ad L)) (hS : va_S (xA ad L) s.heap H locs)
    (kk : ∀ (r : Option xV) (M : xM) (H1 : Heap) (locs1 : List Loc), Post r M → va_P D vwCl (xW T ad L M) H1 → va_S (xA ad L) s.heap H1 locs1 → W p l e R s m args below meth c H1 locs1 0 0 Q (F0 m (pc + 3) ls ((r.map (xv ad)).toList ++ rest))) : W p l e R s m args below meth c H locs 0 0 Q (F0 m pc ls st0) := by
  intro S hT X
  obtain ⟨v, st₀, t, T', L', h0, X', hL, e1, e2, ⟨⟨r, M, hv, hp, hb⟩, hz, hk⟩, st⟩ := hr S hT X
  cases hv
  rw [h0] at hz hk
  obtain ⟨t2, a1, b1⟩ := kk r M T'.heap (locs ++ L') hp (by rw [e1]; exact hb.1)
    ⟨Nat.le_trans hS.1 (by rw [e1]; exact hz), fun q h1 h2 => by rw [e1, hk q (Nat.lt_of_lt_of_le h1 hS.1) h2]; exact hS.2.1 q h1 h2, fun q hq => by
      rcases List.mem_append.mp hq with h | h
      · exact hS.2.2 q h
      · exact hL q h⟩ T' rfl X'
  exact ⟨t2, st t2 a1, b1⟩
theorem xsum (ad : Nat → Nat) (rest : List xV) : ((rest.map (xv ad)).map fun v => v.category).sum = rest.length := by
  induction rest with
  | nil => rfl
  | cons v r ih => simp only [List.map_cons, List.sum_cons, List.length_cons, xv_cat, ih]; omega
theorem xto (ad : Nat → Nat) (r : Option xV) (rest : List xV) : (r.map (xv ad)).toList ++ rest.map (xv ad) = (r.toList ++ rest).map (xv ad) := by cases r <;> rfl
set_option maxHeartbeats 4000000 in
/-- a callee's contract, at a call -/
theorem xCOk_of {Q : State → Prop} {h : Nat} {q : Nat × Bool × Nat × xT} (hX : xX p s m args c D T cc nL own) (hq : xCallee l D T ad L own h q) : xCOk p l e (xrm h) s m args below meth c D T ad L nL Q cc q := by
  obtain ⟨hx, hb, hml, hown, hts, hK, hN⟩ := id hX
  obtain ⟨y, ccy, nLy, ret, hc, np, hlt, ⟨y1, y2, y3, y4, y5⟩, hM, hlk, hk⟩ := hq
  intro pc lv as rest M Post hdec hlen hrest htr hgo H locs ls hP hS hl
  have hMt := hM as M Post htr
  have hG : ∀ w ∈ (Cond.code y ccy nLy ret :: xtb), ∀ (a' : Array Value) (U : State), s.WarmedH U.vm → w.before a' U = true := by
    intro w hw a' U hW
    have hw' : w ∈ xtb := by
      rcases List.mem_cons.mp hw with rfl | h2
      · exact y2
      · exact h2
    exact word_at hW (xtb_good hw') (hts w hw')
  have hfr : (xrm hc).frames + 1 ≤ (xrm h).frames := hlt
  have hlo : 8 + (nLy + 11) + (xrm hc).locals ≤ (xrm h).locals := by
    show 8 + (nLy + 11) + 40 * hc ≤ 40 * h
    omega
  have hsig : ∀ sig, parseMethodDescriptor y.desc = some sig → np = sig.parameters.length := fun sig hs => by
    rw [hs] at y5
    exact (Option.some.inj y5).symm
  have hpre : ∀ U : State, U.heap = H → s.WarmedH U.vm → va_Pc (as.map (xv ad)) (xU D T ad L M) (as.map (xv ad)).toArray U := fun U hU hW => ⟨rfl, by rw [hU]; exact hP, va_K.moved hW.alike hK, hN.warm hW⟩
  have hroom : 2 * (F0 m pc ls ((as.reverse ++ rest).map (xv ad))).monitorRoom + ((rest.map (xv ad)).map fun v => v.category).sum ≤ 8 := lv_room (by rw [xsum]; exact hrest)
  have hstk : (as.reverse ++ rest).map (xv ad) = (as.map (xv ad)).reverse ++ rest.map (xv ad) := by rw [List.map_append, List.map_reverse]
  have hkk : ∀ (r : Option xV) (M' : xM) (H1 : Heap) (locs1 : List Loc), Post r M' → va_P D vwCl (xW T ad L M') H1 → va_S (xA ad L) s.heap H1 locs1 → W p l e (xrm h) s m args below meth c H1 locs1 0 0 Q (F0 m (pc + 3) ls ((r.map (xv ad)).toList ++ rest.map (xv ad))) := fun r M' H1 locs1 hp hP1 hS1 => by
    rw [xto]
    exact hgo r M' hp H1 locs1 ls hP1 hS1 hl
  have hsz : ls.size = nL := hl.2.choose_spec.1.1
  rcases hk with ⟨hb1, hn⟩ | ⟨hb1, hn, c0, ci, fs, Tt, N, hL0, hcl, hrec⟩
  · rw [hb1] at hdec hlk
    obtain ⟨hst, hlink⟩ := hlk
    rcases hlink with hlink | ⟨host, hlink⟩
    · refine xcall (va_runS (Ts := xtb) (own := own) (n := np) ⟨hx, hb, hml, hown, hts⟩ hMt ⟨⟨rfl, rfl, hfr, hlo, hG, List.mem_cons_self, hts _ y2, hts _ y3, y4, hsig, hts _ hlink⟩, hts _ hst⟩ ⟨xU.blind, hpre⟩ rfl (by rw [List.length_map, hlen, hn]) hsz hstk hroom hdec ⟨Nat.le_refl _, Nat.le_refl _⟩) hS hkk
    · refine xcall (va_runSN (Ts := xtb) (own := own) (host := host) (n := np) ⟨hx, hb, hml, hown, hts⟩ hMt ⟨⟨⟨rfl, rfl, hfr, hlo, hG, List.mem_cons_self⟩, hts _ y2, hts _ y3, y4, hsig, va_Nw.use rfl (hN _ hlink)⟩, hts _ hst, trivial⟩ ⟨xU.blind, hpre⟩ rfl (by rw [List.length_map, hlen, hn]) hsz hstk hroom hdec ⟨Nat.le_refl _, Nat.le_refl _⟩) hS hkk
  · rw [hb1] at hdec hlk
    obtain ⟨hin, hsel, hlink⟩ := hlk
    obtain ⟨as', rfl⟩ := hrec as M Post htr
    have hrcv := va_recv hK hP hcl (xW_get hL0)
    refine xcall (va_runV (Ts := xtb) (own := own) (C := y.cls) (n := np) (As := as'.map (xv ad)) (b := ad c0) ⟨hx, hb, hml, hown, hts⟩ hMt ⟨⟨rfl, rfl, hfr, hlo, hG, List.mem_cons_self, hts _ y2, hts _ y3, y4, hsig, hts _ hlink⟩, hts _ hin, hts _ hsel⟩ ⟨xU.blind, hrcv, hpre⟩ rfl (by simp at hlen; rw [List.length_map]; omega) hsz ?_ hroom hdec ⟨Nat.le_refl _, Nat.le_refl _⟩) hS hkk
    show ((Sum.inr c0 :: as').reverse ++ rest).map (xv ad) = _
    simp [xv]
def xlv (as : List xV) (nL : Nat) : xL := as.map some ++ List.replicate (nL - as.length) none
theorem xlv_ent {as : List xV} (h : as.length ≤ nL) : xl ad ((lg_sl (as.map (xv ad)) ++ List.replicate (nL - (lg_sl (as.map (xv ad))).length) Slot.unset).toArray) nL (xlv as nL) := by
  have e1 : lg_sl (as.map (xv ad)) = as.map (fun v => Slot.val (xv ad v)) := by
    clear h
    induction as with
    | nil => rfl
    | cons v r ih =>
      have : lg_sl ((v :: r).map (xv ad)) = (if (xv ad v).category = 2 then [Slot.val (xv ad v), .second] else [Slot.val (xv ad v)]) ++ lg_sl (r.map (xv ad)) := rfl
      rw [this, ih, xv_cat]
      rfl
  have hh := lv_entry (as.map (xv ad)) (n := nL) (by rw [e1, List.length_map]; exact h)
  refine ⟨by simp [xlv]; omega, _, hh, fun i v hi => ?_⟩
  have e2 : ∀ (as : List xV) (j i : Nat) (v : xV), as[i]? = some v → (j + i, xv ad v) ∈ lv_args j (as.map (xv ad)) := by
    intro as
    induction as with
    | nil => intro j i v h; simp at h
    | cons a r ih =>
      intro j i v h
      simp only [List.map_cons, lv_args, xv_cat]
      cases i with
      | zero =>
        simp at h
        subst h
        exact List.mem_cons_self
      | succ i =>
        simp at h
        have := ih (j + 1) i v h
        rw [show j + (i + 1) = j + 1 + i by omega]
        exact List.mem_cons_of_mem _ this
  have h3 : as[i]? = some v := by
    simp only [xlv] at hi
    by_cases hlt : i < as.length
    · rw [List.getElem?_append_left (by simpa using hlt), List.getElem?_map] at hi
      cases hv : as[i]? with
      | none => rw [hv] at hi; cases hi
      | some w => rw [hv] at hi; cases hi; rfl
    · rw [List.getElem?_append_right (by simpa using hlt)] at hi
      rw [List.getElem?_replicate] at hi
      split at hi <;> cases hi
  have := e2 as 0 i v h3
  rwa [Nat.zero_add] at this
set_option maxHeartbeats 4000000 in
/-- A METHOD: its code, its cuts with an invariant and a measure, its callees -/
theorem xmet {y : MethodName} {ret : Option FieldType} {h : Nat} {tr : xT} {fld : xFld} {cals : xCal} {cst : xCst} {rt : Nat} {I : Nat → Option Instr} {cut : Nat → Bool} (hO : xOk ad L)
    (hy : plainName y.cls = true) (hrt : (rt = 0 → ret = none) ∧ (rt = 1 → ret = some .int) ∧ (rt = 2 → ret = some .boolean)) (hI : xIOk cc I) (hF : ∀ q ∈ fld, xFOk y.cls q) (hKc : ∀ q ∈ cst, xKOk y.cls q) (hC : ∀ q ∈ cals, xCallee l D T ad L y.cls h q)
    (hb : ∀ (as : List xV) (M : xM) (Post : xR), tr as M Post → as.length ≤ nL ∧ ∃ (Inv : xG) (μ : Nat → xL → List xV → xM → Nat) (f0 f1 : Nat),
      xw L fld cals cst rt Post I cut Inv f0 0 (xlv as nL) [] M ∧ ∀ pc lv st M', Inv pc lv st M' → xw L fld cals cst rt Post I cut (fun pc2 lv2 st2 M2 => Inv pc2 lv2 st2 M2 ∧ μ pc2 lv2 st2 M2 < μ pc lv st M') f1 pc lv st M') :
    xMet l D T ad L y cc nL ret h tr := by
  intro as M Post htr
  obtain ⟨hlen, Inv, μ, f0, f1, h0, h1⟩ := hb as M Post htr
  refine Met.ofW (cc := cc) (maxL := nL) (ret := ret) hy rfl ?_
  intro p e s m args below meth c s₁ B hml hv
  obtain ⟨rfl, hP, hK, hN⟩ := hv
  have hts : ∀ w ∈ xtb, w.before (as.map (xv ad)).toArray s = true := fun w hw => atoms_spec (ws := Cond.code y cc nL ret :: xtb) B.pre w (List.mem_cons_of_mem _ hw)
  have hown : s.vm.findClass y.cls = some m.cls := findClass_of_methodNamed B.named
  have hX : xX p s m (as.map (xv ad)).toArray c D T cc nL y.cls := ⟨B.exec, B.bytes, hml, hown, hts, hK, hN⟩
  have hCs : ∀ q ∈ cals, xCOk p l e (xrm h) s m (as.map (xv ad)).toArray below meth c D T ad L nL (MQ below (xQ D T ad L Post) (as.map (xv ad)).toArray s 0 0 (xA ad L)) cc q := fun q hq => xCOk_of hX (hC q hq)
  have hInv : ∀ (n : Nat) pc lv st M', Inv pc lv st M' → μ pc lv st M' < n → Wx p l e (xrm h) s m (as.map (xv ad)).toArray below meth c D T ad L nL (MQ below (xQ D T ad L Post) (as.map (xv ad)).toArray s 0 0 (xA ad L)) pc lv st M' := by
    intro n
    induction n with
    | zero => intro pc lv st M' _ hlt; omega
    | succ n ih =>
      intro pc lv st M' hi hlt
      exact xw_ok hX B.notSynchronized B.returns hrt hO hF hKc hCs hI (fun pc2 lv2 st2 M2 hk => ih pc2 lv2 st2 M2 hk.1 (by have := hk.2; omega)) f1 pc lv st M' (h1 pc lv st M' hi)
  have hW := xw_ok hX B.notSynchronized B.returns hrt hO hF hKc hCs hI (fun pc2 lv2 st2 M2 hk => hInv _ pc2 lv2 st2 M2 hk (Nat.lt_succ_self _)) f0 0 (xlv as nL) [] M h0
  rw [lg_entry_eq]
  exact hW s.heap [] _ hP va_S.rf (xlv_ent hlen)
end XM
end
