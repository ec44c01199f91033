-- ===== PART A: goes FIRST, ahead of the names: the tables' words, and 'selects' of the private methods out of them =====
/-- a private method of a class that the tables say can be made, by its rows of tables_1 -/
def lw_okq (q : MethodName × Nat) : Prop := (q.1.cls ≠ "java/lang/invoke/MethodHandle" ∧ q.1.cls ≠ "java/lang/invoke/VarHandle") ∧ Cond.instantiable q.1.cls q.2 ∈ tables_1 ∧ Cond.privateMethod q.1 ∈ tables_1 ∧ Cond.instanceMethod q.1 ∈ tables_1
theorem lw_p0 : lw_okq (⟨"NetShape$Rows", "copy", "(II)V"⟩, 3) := ⟨⟨by decide +kernel, by decide +kernel⟩, List.mem_of_getElem? (i := 20) (by decide +kernel), List.mem_of_getElem? (i := 213) (by decide +kernel), List.mem_of_getElem? (i := 214) (by decide +kernel)⟩
theorem lw_p1 : lw_okq (⟨"NetShape", "forgetAnswers", "()V"⟩, 4) := ⟨⟨by decide +kernel, by decide +kernel⟩, List.mem_of_getElem? (i := 12) (by decide +kernel), List.mem_of_getElem? (i := 219) (by decide +kernel), List.mem_of_getElem? (i := 220) (by decide +kernel)⟩
theorem lw_p2 : lw_okq (⟨"NetShape", "isTrace", "(I)Z"⟩, 4) := ⟨⟨by decide +kernel, by decide +kernel⟩, List.mem_of_getElem? (i := 12) (by decide +kernel), List.mem_of_getElem? (i := 235) (by decide +kernel), List.mem_of_getElem? (i := 236) (by decide +kernel)⟩
theorem lw_p3 : lw_okq (⟨"NetShape$Told", "makeOne", "(II)V"⟩, 3) := ⟨⟨by decide +kernel, by decide +kernel⟩, List.mem_of_getElem? (i := 37) (by decide +kernel), List.mem_of_getElem? (i := 272) (by decide +kernel), List.mem_of_getElem? (i := 273) (by decide +kernel)⟩
theorem lw_p4 : lw_okq (⟨"NetShape$Told", "setApart", "(II)V"⟩, 3) := ⟨⟨by decide +kernel, by decide +kernel⟩, List.mem_of_getElem? (i := 37) (by decide +kernel), List.mem_of_getElem? (i := 279) (by decide +kernel), List.mem_of_getElem? (i := 280) (by decide +kernel)⟩
theorem lw_p5 : lw_okq (⟨"NetShape$Net", "draw", "(II)Z"⟩, 4) := ⟨⟨by decide +kernel, by decide +kernel⟩, List.mem_of_getElem? (i := 53) (by decide +kernel), List.mem_of_getElem? (i := 341) (by decide +kernel), List.mem_of_getElem? (i := 342) (by decide +kernel)⟩
theorem lw_p6 : lw_okq (⟨"NetShape$Net", "silentBox", "(I)I"⟩, 4) := ⟨⟨by decide +kernel, by decide +kernel⟩, List.mem_of_getElem? (i := 53) (by decide +kernel), List.mem_of_getElem? (i := 347) (by decide +kernel), List.mem_of_getElem? (i := 348) (by decide +kernel)⟩
theorem lw_p7 : lw_okq (⟨"NetShape$Net", "join", "(II)V"⟩, 4) := ⟨⟨by decide +kernel, by decide +kernel⟩, List.mem_of_getElem? (i := 53) (by decide +kernel), List.mem_of_getElem? (i := 352) (by decide +kernel), List.mem_of_getElem? (i := 353) (by decide +kernel)⟩
theorem lw_p8 : lw_okq (⟨"NetShape$Net", "isShortest", "(I)Z"⟩, 4) := ⟨⟨by decide +kernel, by decide +kernel⟩, List.mem_of_getElem? (i := 53) (by decide +kernel), List.mem_of_getElem? (i := 360) (by decide +kernel), List.mem_of_getElem? (i := 361) (by decide +kernel)⟩
theorem lw_p9 : lw_okq (⟨"NetShape$LeastNets", "keep", "(I)V"⟩, 10) := ⟨⟨by decide +kernel, by decide +kernel⟩, List.mem_of_getElem? (i := 72) (by decide +kernel), List.mem_of_getElem? (i := 371) (by decide +kernel), List.mem_of_getElem? (i := 372) (by decide +kernel)⟩
theorem lw_p10 : lw_okq (⟨"NetShape$LeastNets", "mayTake", "(II)Z"⟩, 10) := ⟨⟨by decide +kernel, by decide +kernel⟩, List.mem_of_getElem? (i := 72) (by decide +kernel), List.mem_of_getElem? (i := 389) (by decide +kernel), List.mem_of_getElem? (i := 390) (by decide +kernel)⟩
theorem lw_p11 : lw_okq (⟨"NetShape", "boxesOfNames", "()I"⟩, 4) := ⟨⟨by decide +kernel, by decide +kernel⟩, List.mem_of_getElem? (i := 12) (by decide +kernel), List.mem_of_getElem? (i := 403) (by decide +kernel), List.mem_of_getElem? (i := 404) (by decide +kernel)⟩
theorem lw_p12 : lw_okq (⟨"NetShape", "isNet", "(I)Z"⟩, 4) := ⟨⟨by decide +kernel, by decide +kernel⟩, List.mem_of_getElem? (i := 12) (by decide +kernel), List.mem_of_getElem? (i := 422) (by decide +kernel), List.mem_of_getElem? (i := 423) (by decide +kernel)⟩
theorem lw_p13 : lw_okq (⟨"NetShape", "isTraced", "(I)Z"⟩, 4) := ⟨⟨by decide +kernel, by decide +kernel⟩, List.mem_of_getElem? (i := 12) (by decide +kernel), List.mem_of_getElem? (i := 437) (by decide +kernel), List.mem_of_getElem? (i := 438) (by decide +kernel)⟩
theorem lw_p14 : lw_okq (⟨"NetShape$Survey", "addLines", "()V"⟩, 10) := ⟨⟨by decide +kernel, by decide +kernel⟩, List.mem_of_getElem? (i := 109) (by decide +kernel), List.mem_of_getElem? (i := 467) (by decide +kernel), List.mem_of_getElem? (i := 468) (by decide +kernel)⟩
theorem lw_p15 : lw_okq (⟨"NetShape$Survey", "addWays", "(I)V"⟩, 10) := ⟨⟨by decide +kernel, by decide +kernel⟩, List.mem_of_getElem? (i := 109) (by decide +kernel), List.mem_of_getElem? (i := 475) (by decide +kernel), List.mem_of_getElem? (i := 476) (by decide +kernel)⟩
def lw_privs_1 : List (MethodName × Nat) := [(⟨"NetShape$Rows", "copy", "(II)V"⟩, 3), (⟨"NetShape", "forgetAnswers", "()V"⟩, 4), (⟨"NetShape", "isTrace", "(I)Z"⟩, 4), (⟨"NetShape$Told", "makeOne", "(II)V"⟩, 3), (⟨"NetShape$Told", "setApart", "(II)V"⟩, 3), (⟨"NetShape$Net", "draw", "(II)Z"⟩, 4), (⟨"NetShape$Net", "silentBox", "(I)I"⟩, 4), (⟨"NetShape$Net", "join", "(II)V"⟩, 4), (⟨"NetShape$Net", "isShortest", "(I)Z"⟩, 4), (⟨"NetShape$LeastNets", "keep", "(I)V"⟩, 10), (⟨"NetShape$LeastNets", "mayTake", "(II)Z"⟩, 10), (⟨"NetShape", "boxesOfNames", "()I"⟩, 4), (⟨"NetShape", "isNet", "(I)Z"⟩, 4), (⟨"NetShape", "isTraced", "(I)Z"⟩, 4), (⟨"NetShape$Survey", "addLines", "()V"⟩, 10), (⟨"NetShape$Survey", "addWays", "(I)V"⟩, 10)]
theorem lw_r1 : ∀ q ∈ lw_privs_1, lw_okq q := List.forall_mem_cons.mpr ⟨lw_p0, List.forall_mem_cons.mpr ⟨lw_p1, List.forall_mem_cons.mpr ⟨lw_p2, List.forall_mem_cons.mpr ⟨lw_p3, List.forall_mem_cons.mpr ⟨lw_p4, List.forall_mem_cons.mpr ⟨lw_p5, List.forall_mem_cons.mpr ⟨lw_p6, List.forall_mem_cons.mpr ⟨lw_p7, List.forall_mem_cons.mpr ⟨lw_p8, List.forall_mem_cons.mpr ⟨lw_p9, List.forall_mem_cons.mpr ⟨lw_p10, List.forall_mem_cons.mpr ⟨lw_p11, List.forall_mem_cons.mpr ⟨lw_p12, List.forall_mem_cons.mpr ⟨lw_p13, List.forall_mem_cons.mpr ⟨lw_p14, List.forall_mem_cons.mpr ⟨lw_p15, fun _ h => absurd h List.not_mem_nil⟩⟩⟩⟩⟩⟩⟩⟩⟩⟩⟩⟩⟩⟩⟩⟩
theorem lw_p16 : lw_okq (⟨"NetShape$Survey", "addToHeap", "(III)V"⟩, 10) := ⟨⟨by decide +kernel, by decide +kernel⟩, List.mem_of_getElem? (i := 109) (by decide +kernel), List.mem_of_getElem? (i := 481) (by decide +kernel), List.mem_of_getElem? (i := 482) (by decide +kernel)⟩
theorem lw_p17 : lw_okq (⟨"NetShape$Survey", "choosePair", "(I)V"⟩, 10) := ⟨⟨by decide +kernel, by decide +kernel⟩, List.mem_of_getElem? (i := 109) (by decide +kernel), List.mem_of_getElem? (i := 485) (by decide +kernel), List.mem_of_getElem? (i := 486) (by decide +kernel)⟩
theorem lw_p18 : lw_okq (⟨"NetShape$Survey", "choose", "(II)V"⟩, 10) := ⟨⟨by decide +kernel, by decide +kernel⟩, List.mem_of_getElem? (i := 109) (by decide +kernel), List.mem_of_getElem? (i := 489) (by decide +kernel), List.mem_of_getElem? (i := 490) (by decide +kernel)⟩
theorem lw_p19 : lw_okq (⟨"NetShape$Survey", "greatestHeap", "(II)I"⟩, 10) := ⟨⟨by decide +kernel, by decide +kernel⟩, List.mem_of_getElem? (i := 109) (by decide +kernel), List.mem_of_getElem? (i := 493) (by decide +kernel), List.mem_of_getElem? (i := 494) (by decide +kernel)⟩
theorem lw_p20 : lw_okq (⟨"NetShapeModel", "silentMany", "()I"⟩, 21) := ⟨⟨by decide +kernel, by decide +kernel⟩, List.mem_of_getElem? (i := 529) (by decide +kernel), List.mem_of_getElem? (i := 608) (by decide +kernel), List.mem_of_getElem? (i := 609) (by decide +kernel)⟩
theorem lw_p21 : lw_okq (⟨"NetShapeModel", "silentOf", "(I)I"⟩, 21) := ⟨⟨by decide +kernel, by decide +kernel⟩, List.mem_of_getElem? (i := 529) (by decide +kernel), List.mem_of_getElem? (i := 612) (by decide +kernel), List.mem_of_getElem? (i := 613) (by decide +kernel)⟩
theorem lw_p22 : lw_okq (⟨"NetShapeModel", "findNets", "()V"⟩, 21) := ⟨⟨by decide +kernel, by decide +kernel⟩, List.mem_of_getElem? (i := 529) (by decide +kernel), List.mem_of_getElem? (i := 647) (by decide +kernel), List.mem_of_getElem? (i := 648) (by decide +kernel)⟩
theorem lw_p23 : lw_okq (⟨"NetShapeModel", "boxMany", "(I)I"⟩, 21) := ⟨⟨by decide +kernel, by decide +kernel⟩, List.mem_of_getElem? (i := 529) (by decide +kernel), List.mem_of_getElem? (i := 651) (by decide +kernel), List.mem_of_getElem? (i := 652) (by decide +kernel)⟩
theorem lw_p24 : lw_okq (⟨"NetShapeModel", "isBoxThere", "(II)Z"⟩, 21) := ⟨⟨by decide +kernel, by decide +kernel⟩, List.mem_of_getElem? (i := 529) (by decide +kernel), List.mem_of_getElem? (i := 655) (by decide +kernel), List.mem_of_getElem? (i := 656) (by decide +kernel)⟩
theorem lw_p25 : lw_okq (⟨"NetShapeModel", "isThere", "(II)Z"⟩, 21) := ⟨⟨by decide +kernel, by decide +kernel⟩, List.mem_of_getElem? (i := 529) (by decide +kernel), List.mem_of_getElem? (i := 659) (by decide +kernel), List.mem_of_getElem? (i := 660) (by decide +kernel)⟩
theorem lw_p26 : lw_okq (⟨"NetShapeModel", "begin", "(I)V"⟩, 21) := ⟨⟨by decide +kernel, by decide +kernel⟩, List.mem_of_getElem? (i := 529) (by decide +kernel), List.mem_of_getElem? (i := 663) (by decide +kernel), List.mem_of_getElem? (i := 664) (by decide +kernel)⟩
theorem lw_p27 : lw_okq (⟨"NetShapeModel", "raise", "(II)Z"⟩, 21) := ⟨⟨by decide +kernel, by decide +kernel⟩, List.mem_of_getElem? (i := 529) (by decide +kernel), List.mem_of_getElem? (i := 667) (by decide +kernel), List.mem_of_getElem? (i := 668) (by decide +kernel)⟩
theorem lw_p28 : lw_okq (⟨"NetShapeModel", "newMany", "()I"⟩, 21) := ⟨⟨by decide +kernel, by decide +kernel⟩, List.mem_of_getElem? (i := 529) (by decide +kernel), List.mem_of_getElem? (i := 671) (by decide +kernel), List.mem_of_getElem? (i := 672) (by decide +kernel)⟩
theorem lw_p29 : lw_okq (⟨"NetShapeModel", "fits", "(I)Z"⟩, 21) := ⟨⟨by decide +kernel, by decide +kernel⟩, List.mem_of_getElem? (i := 529) (by decide +kernel), List.mem_of_getElem? (i := 675) (by decide +kernel), List.mem_of_getElem? (i := 676) (by decide +kernel)⟩
theorem lw_p30 : lw_okq (⟨"NetShapeModel", "layPlaces", "(I)V"⟩, 21) := ⟨⟨by decide +kernel, by decide +kernel⟩, List.mem_of_getElem? (i := 529) (by decide +kernel), List.mem_of_getElem? (i := 679) (by decide +kernel), List.mem_of_getElem? (i := 680) (by decide +kernel)⟩
theorem lw_p31 : lw_okq (⟨"NetShapeModel", "hasOnce", "(I)Z"⟩, 21) := ⟨⟨by decide +kernel, by decide +kernel⟩, List.mem_of_getElem? (i := 529) (by decide +kernel), List.mem_of_getElem? (i := 683) (by decide +kernel), List.mem_of_getElem? (i := 684) (by decide +kernel)⟩
def lw_privs_2 : List (MethodName × Nat) := [(⟨"NetShape$Survey", "addToHeap", "(III)V"⟩, 10), (⟨"NetShape$Survey", "choosePair", "(I)V"⟩, 10), (⟨"NetShape$Survey", "choose", "(II)V"⟩, 10), (⟨"NetShape$Survey", "greatestHeap", "(II)I"⟩, 10), (⟨"NetShapeModel", "silentMany", "()I"⟩, 21), (⟨"NetShapeModel", "silentOf", "(I)I"⟩, 21), (⟨"NetShapeModel", "findNets", "()V"⟩, 21), (⟨"NetShapeModel", "boxMany", "(I)I"⟩, 21), (⟨"NetShapeModel", "isBoxThere", "(II)Z"⟩, 21), (⟨"NetShapeModel", "isThere", "(II)Z"⟩, 21), (⟨"NetShapeModel", "begin", "(I)V"⟩, 21), (⟨"NetShapeModel", "raise", "(II)Z"⟩, 21), (⟨"NetShapeModel", "newMany", "()I"⟩, 21), (⟨"NetShapeModel", "fits", "(I)Z"⟩, 21), (⟨"NetShapeModel", "layPlaces", "(I)V"⟩, 21), (⟨"NetShapeModel", "hasOnce", "(I)Z"⟩, 21)]
theorem lw_r2 : ∀ q ∈ lw_privs_2, lw_okq q := List.forall_mem_cons.mpr ⟨lw_p16, List.forall_mem_cons.mpr ⟨lw_p17, List.forall_mem_cons.mpr ⟨lw_p18, List.forall_mem_cons.mpr ⟨lw_p19, List.forall_mem_cons.mpr ⟨lw_p20, List.forall_mem_cons.mpr ⟨lw_p21, List.forall_mem_cons.mpr ⟨lw_p22, List.forall_mem_cons.mpr ⟨lw_p23, List.forall_mem_cons.mpr ⟨lw_p24, List.forall_mem_cons.mpr ⟨lw_p25, List.forall_mem_cons.mpr ⟨lw_p26, List.forall_mem_cons.mpr ⟨lw_p27, List.forall_mem_cons.mpr ⟨lw_p28, List.forall_mem_cons.mpr ⟨lw_p29, List.forall_mem_cons.mpr ⟨lw_p30, List.forall_mem_cons.mpr ⟨lw_p31, fun _ h => absurd h List.not_mem_nil⟩⟩⟩⟩⟩⟩⟩⟩⟩⟩⟩⟩⟩⟩⟩⟩
theorem lw_p32 : lw_okq (⟨"NetShapeModel", "layLines", "(I)V"⟩, 21) := ⟨⟨by decide +kernel, by decide +kernel⟩, List.mem_of_getElem? (i := 529) (by decide +kernel), List.mem_of_getElem? (i := 687) (by decide +kernel), List.mem_of_getElem? (i := 688) (by decide +kernel)⟩
theorem lw_p33 : lw_okq (⟨"NetShapeModel", "lineMany", "()I"⟩, 21) := ⟨⟨by decide +kernel, by decide +kernel⟩, List.mem_of_getElem? (i := 529) (by decide +kernel), List.mem_of_getElem? (i := 691) (by decide +kernel), List.mem_of_getElem? (i := 692) (by decide +kernel)⟩
theorem lw_p34 : lw_okq (⟨"NetShapeModel", "keep", "()V"⟩, 21) := ⟨⟨by decide +kernel, by decide +kernel⟩, List.mem_of_getElem? (i := 529) (by decide +kernel), List.mem_of_getElem? (i := 695) (by decide +kernel), List.mem_of_getElem? (i := 696) (by decide +kernel)⟩
theorem lw_p35 : lw_okq (⟨"NetShapeModel", "goOn", "(I)Z"⟩, 21) := ⟨⟨by decide +kernel, by decide +kernel⟩, List.mem_of_getElem? (i := 529) (by decide +kernel), List.mem_of_getElem? (i := 699) (by decide +kernel), List.mem_of_getElem? (i := 700) (by decide +kernel)⟩
theorem lw_p36 : lw_okq (⟨"NetShapeModel", "isSeen", "(I)Z"⟩, 21) := ⟨⟨by decide +kernel, by decide +kernel⟩, List.mem_of_getElem? (i := 529) (by decide +kernel), List.mem_of_getElem? (i := 715) (by decide +kernel), List.mem_of_getElem? (i := 716) (by decide +kernel)⟩
theorem lw_p37 : lw_okq (⟨"NetShapeModel", "canFit", "(I)Z"⟩, 21) := ⟨⟨by decide +kernel, by decide +kernel⟩, List.mem_of_getElem? (i := 529) (by decide +kernel), List.mem_of_getElem? (i := 730) (by decide +kernel), List.mem_of_getElem? (i := 731) (by decide +kernel)⟩
theorem lw_p38 : lw_okq (⟨"NetShapeModel", "findNext", "()Z"⟩, 21) := ⟨⟨by decide +kernel, by decide +kernel⟩, List.mem_of_getElem? (i := 529) (by decide +kernel), List.mem_of_getElem? (i := 738) (by decide +kernel), List.mem_of_getElem? (i := 739) (by decide +kernel)⟩
theorem lw_p39 : lw_okq (⟨"NetShapeModel", "greatestHeap", "(I)I"⟩, 21) := ⟨⟨by decide +kernel, by decide +kernel⟩, List.mem_of_getElem? (i := 529) (by decide +kernel), List.mem_of_getElem? (i := 742) (by decide +kernel), List.mem_of_getElem? (i := 743) (by decide +kernel)⟩
def lw_privs_3 : List (MethodName × Nat) := [(⟨"NetShapeModel", "layLines", "(I)V"⟩, 21), (⟨"NetShapeModel", "lineMany", "()I"⟩, 21), (⟨"NetShapeModel", "keep", "()V"⟩, 21), (⟨"NetShapeModel", "goOn", "(I)Z"⟩, 21), (⟨"NetShapeModel", "isSeen", "(I)Z"⟩, 21), (⟨"NetShapeModel", "canFit", "(I)Z"⟩, 21), (⟨"NetShapeModel", "findNext", "()Z"⟩, 21), (⟨"NetShapeModel", "greatestHeap", "(I)I"⟩, 21)]
theorem lw_r3 : ∀ q ∈ lw_privs_3, lw_okq q := List.forall_mem_cons.mpr ⟨lw_p32, List.forall_mem_cons.mpr ⟨lw_p33, List.forall_mem_cons.mpr ⟨lw_p34, List.forall_mem_cons.mpr ⟨lw_p35, List.forall_mem_cons.mpr ⟨lw_p36, List.forall_mem_cons.mpr ⟨lw_p37, List.forall_mem_cons.mpr ⟨lw_p38, List.forall_mem_cons.mpr ⟨lw_p39, fun _ h => absurd h List.not_mem_nil⟩⟩⟩⟩⟩⟩⟩⟩
def lw_privs : List (MethodName × Nat) := lw_privs_1 ++ (lw_privs_2 ++ (lw_privs_3))
def lw_tbl : List Cond := k2_sels lw_privs ++ tables_1
theorem lw_privs_ok : ∀ q ∈ lw_privs, lw_okq q := by
  show ∀ q ∈ lw_privs_1 ++ (lw_privs_2 ++ (lw_privs_3)), lw_okq q
  exact List.forall_mem_append.mpr ⟨lw_r1, List.forall_mem_append.mpr ⟨lw_r2, lw_r3⟩⟩

def RX0 : String := "NetShape$LeastNets"
def TX0 : u_T := fun k => match k with
  | 0 => ("NetShape$LeastNets", "rows", "LNetShape$Rows;", true)
  | 1 => ("NetShape$LeastNets", "told", "LNetShape$Told;", true)
  | 2 => ("NetShape$LeastNets", "net", "LNetShape$Net;", true)
  | 3 => ("NetShape$LeastNets", "codes", "[I", true)
  | 4 => ("NetShape$LeastNets", "found", "Z", false)
  | 5 => ("NetShape$LeastNets", "many", "I", false)
  | 6 => ("NetShape$LeastNets", "newBoxes", "I", false)
  | 7 => ("NetShape$LeastNets", "lines", "I", false)
  | 8 => ("NetShape$LeastNets", "silents", "I", false)
  | _ => ("NetShape$LeastNets", "nameBoxes", "I", false)
def tyX0 : Nat → FieldType := fun k => match k with
  | 0 => .object "NetShape$Rows"
  | 1 => .object "NetShape$Told"
  | 2 => .object "NetShape$Net"
  | 3 => .array .int
  | 4 => .boolean
  | 5 => .int
  | 6 => .int
  | 7 => .int
  | 8 => .int
  | _ => .int
abbrev wsX00 : List Cond := u_ws RX0 TX0 10
theorem nmX0 : ∀ a, a < 10 → ∀ b, b < 10 → a ≠ b → (TX0 a).2.1 ≠ (TX0 b).2.1 := by decide +kernel
theorem tyX0_ok : ∀ k, k < 10 → parseFieldDescriptor (TX0 k).2.2.1 = some (tyX0 k) := by decide +kernel
abbrev cX0_init : ByteArray := prog_2_method_1_code
def yX0_init : MethodName := ⟨RX0, "<init>", "(LNetShape$Rows;LNetShape$Told;LNetShape$Net;)V"⟩
abbrev cX0_forgetFound : ByteArray := prog_2_method_2_code
def yX0_forgetFound : MethodName := ⟨RX0, "forgetFound", "()V"⟩
abbrev cX0_many : ByteArray := prog_2_method_3_code
def yX0_many : MethodName := ⟨RX0, "many", "()I"⟩
abbrev cX0_newBoxes : ByteArray := prog_2_method_4_code
def yX0_newBoxes : MethodName := ⟨RX0, "newBoxes", "()I"⟩
abbrev cX0_lines : ByteArray := prog_2_method_5_code
def yX0_lines : MethodName := ⟨RX0, "lines", "()I"⟩
abbrev cX0_code : ByteArray := prog_2_method_6_code
def yX0_code : MethodName := ⟨RX0, "code", "(I)I"⟩
abbrev cX0_someFits : ByteArray := prog_2_method_7_code
def yX0_someFits : MethodName := ⟨RX0, "someFits", "(I)Z"⟩
abbrev cX0_seek : ByteArray := prog_2_method_8_code
def yX0_seek : MethodName := ⟨RX0, "seek", "(LNetShape$LeastNets;II)V"⟩
abbrev cX0_mayTake : ByteArray := prog_2_method_9_code
def yX0_mayTake : MethodName := ⟨RX0, "mayTake", "(II)Z"⟩
abbrev cX0_keep : ByteArray := prog_2_method_10_code
def yX0_keep : MethodName := ⟨RX0, "keep", "(I)V"⟩
def RX1 : String := "NetShape$Net"
def TX1 : u_T := fun k => match k with
  | 0 => ("NetShape$Net", "rows", "LNetShape$Rows;", true)
  | 1 => ("NetShape$Net", "told", "LNetShape$Told;", true)
  | 2 => ("NetShape$Net", "silentBoxes", "[I", true)
  | _ => ("NetShape$Net", "joined", "[I", true)
def tyX1 : Nat → FieldType := fun k => match k with
  | 0 => .object "NetShape$Rows"
  | 1 => .object "NetShape$Told"
  | 2 => .array .int
  | _ => .array .int
abbrev wsX10 : List Cond := u_ws RX1 TX1 4
theorem nmX1 : ∀ a, a < 4 → ∀ b, b < 4 → a ≠ b → (TX1 a).2.1 ≠ (TX1 b).2.1 := by decide +kernel
theorem tyX1_ok : ∀ k, k < 4 → parseFieldDescriptor (TX1 k).2.2.1 = some (tyX1 k) := by decide +kernel
abbrev cX1_init : ByteArray := prog_3_method_1_code
def yX1_init : MethodName := ⟨RX1, "<init>", "(LNetShape$Rows;LNetShape$Told;)V"⟩
abbrev cX1_place : ByteArray := prog_3_method_2_code
def yX1_place : MethodName := ⟨RX1, "place", "(III)V"⟩
abbrev cX1_loosen : ByteArray := prog_3_method_3_code
def yX1_loosen : MethodName := ⟨RX1, "loosen", "(II)V"⟩
abbrev cX1_code : ByteArray := prog_3_method_4_code
def yX1_code : MethodName := ⟨RX1, "code", "()I"⟩
abbrev cX1_takeUp : ByteArray := prog_3_method_5_code
def yX1_takeUp : MethodName := ⟨RX1, "takeUp", "(I)V"⟩
abbrev cX1_fits : ByteArray := prog_3_method_6_code
def yX1_fits : MethodName := ⟨RX1, "fits", "(I)Z"⟩
abbrev cX1_isShortest : ByteArray := prog_3_method_7_code
def yX1_isShortest : MethodName := ⟨RX1, "isShortest", "(I)Z"⟩
abbrev cX1_draw : ByteArray := prog_3_method_8_code
def yX1_draw : MethodName := ⟨RX1, "draw", "(II)Z"⟩
abbrev cX1_silentBox : ByteArray := prog_3_method_9_code
def yX1_silentBox : MethodName := ⟨RX1, "silentBox", "(I)I"⟩
abbrev cX1_join : ByteArray := prog_3_method_10_code
def yX1_join : MethodName := ⟨RX1, "join", "(II)V"⟩
abbrev cX1_joinedWith : ByteArray := prog_3_method_11_code
def yX1_joinedWith : MethodName := ⟨RX1, "joinedWith", "(I)I"⟩
abbrev cX1_lines : ByteArray := prog_3_method_12_code
def yX1_lines : MethodName := ⟨RX1, "lines", "()I"⟩
abbrev cX1_way : ByteArray := prog_3_method_13_code
def yX1_way : MethodName := ⟨RX1, "way", "(II)I"⟩
def RX2 : String := "NetShape$Rows"
def TX2 : u_T := fun k => match k with
  | 0 => ("NetShape$Rows", "hops", "[I", true)
  | 1 => ("NetShape$Rows", "lengths", "[I", true)
  | _ => ("NetShape$Rows", "traces", "I", false)
def tyX2 : Nat → FieldType := fun k => match k with
  | 0 => .array .int
  | 1 => .array .int
  | _ => .int
abbrev wsX20 : List Cond := u_ws RX2 TX2 3
theorem nmX2 : ∀ a, a < 3 → ∀ b, b < 3 → a ≠ b → (TX2 a).2.1 ≠ (TX2 b).2.1 := by decide +kernel
theorem tyX2_ok : ∀ k, k < 3 → parseFieldDescriptor (TX2 k).2.2.1 = some (tyX2 k) := by decide +kernel
abbrev cX2_init : ByteArray := prog_4_method_1_code
def yX2_init : MethodName := ⟨RX2, "<init>", "()V"⟩
abbrev cX2_traces : ByteArray := prog_4_method_2_code
def yX2_traces : MethodName := ⟨RX2, "traces", "()I"⟩
abbrev cX2_all : ByteArray := prog_4_method_3_code
def yX2_all : MethodName := ⟨RX2, "all", "()I"⟩
abbrev cX2_length : ByteArray := prog_4_method_4_code
def yX2_length : MethodName := ⟨RX2, "length", "(I)I"⟩
abbrev cX2_hopAt : ByteArray := prog_4_method_5_code
def yX2_hopAt : MethodName := ⟨RX2, "hopAt", "(II)I"⟩
abbrev cX2_has : ByteArray := prog_4_method_6_code
def yX2_has : MethodName := ⟨RX2, "has", "(II)Z"⟩
abbrev cX2_silentsIn : ByteArray := prog_4_method_7_code
def yX2_silentsIn : MethodName := ⟨RX2, "silentsIn", "(I)I"⟩
abbrev cX2_silents : ByteArray := prog_4_method_8_code
def yX2_silents : MethodName := ⟨RX2, "silents", "()I"⟩
abbrev cX2_names : ByteArray := prog_4_method_9_code
def yX2_names : MethodName := ⟨RX2, "names", "()I"⟩
abbrev cX2_append : ByteArray := prog_4_method_10_code
def yX2_append : MethodName := ⟨RX2, "append", "(II)V"⟩
abbrev cX2_empty : ByteArray := prog_4_method_11_code
def yX2_empty : MethodName := ⟨RX2, "empty", "(I)V"⟩
abbrev cX2_keepHand : ByteArray := prog_4_method_12_code
def yX2_keepHand : MethodName := ⟨RX2, "keepHand", "()V"⟩
abbrev cX2_remove : ByteArray := prog_4_method_13_code
def yX2_remove : MethodName := ⟨RX2, "remove", "(I)V"⟩
abbrev cX2_copy : ByteArray := prog_4_method_14_code
def yX2_copy : MethodName := ⟨RX2, "copy", "(II)V"⟩
def RX3 : String := "NetShape$Survey"
def TX3 : u_T := fun k => match k with
  | 0 => ("NetShape$Survey", "rows", "LNetShape$Rows;", true)
  | 1 => ("NetShape$Survey", "told", "LNetShape$Told;", true)
  | 2 => ("NetShape$Survey", "net", "LNetShape$Net;", true)
  | 3 => ("NetShape$Survey", "least", "LNetShape$LeastNets;", true)
  | 4 => ("NetShape$Survey", "everJoined", "[I", true)
  | 5 => ("NetShape$Survey", "alwaysJoined", "[I", true)
  | 6 => ("NetShape$Survey", "heaps", "[I", true)
  | 7 => ("NetShape$Survey", "made", "Z", false)
  | 8 => ("NetShape$Survey", "bestPair", "I", false)
  | _ => ("NetShape$Survey", "bestHeap", "I", false)
def tyX3 : Nat → FieldType := fun k => match k with
  | 0 => .object "NetShape$Rows"
  | 1 => .object "NetShape$Told"
  | 2 => .object "NetShape$Net"
  | 3 => .object "NetShape$LeastNets"
  | 4 => .array .int
  | 5 => .array .int
  | 6 => .array .int
  | 7 => .boolean
  | 8 => .int
  | _ => .int
abbrev wsX30 : List Cond := u_ws RX3 TX3 10
theorem nmX3 : ∀ a, a < 10 → ∀ b, b < 10 → a ≠ b → (TX3 a).2.1 ≠ (TX3 b).2.1 := by decide +kernel
theorem tyX3_ok : ∀ k, k < 10 → parseFieldDescriptor (TX3 k).2.2.1 = some (tyX3 k) := by decide +kernel
abbrev cX3_init : ByteArray := prog_5_method_1_code
def yX3_init : MethodName := ⟨RX3, "<init>", "(LNetShape$Rows;LNetShape$Told;LNetShape$Net;LNetShape$LeastNets;)V"⟩
abbrev cX3_forgetMade : ByteArray := prog_5_method_2_code
def yX3_forgetMade : MethodName := ⟨RX3, "forgetMade", "()V"⟩
abbrev cX3_bestPair : ByteArray := prog_5_method_3_code
def yX3_bestPair : MethodName := ⟨RX3, "bestPair", "()I"⟩
abbrev cX3_bestHeap : ByteArray := prog_5_method_4_code
def yX3_bestHeap : MethodName := ⟨RX3, "bestHeap", "()I"⟩
abbrev cX3_wayIn : ByteArray := prog_5_method_5_code
def yX3_wayIn : MethodName := ⟨RX3, "wayIn", "(III)I"⟩
abbrev cX3_lineBetween : ByteArray := prog_5_method_6_code
def yX3_lineBetween : MethodName := ⟨RX3, "lineBetween", "(II)I"⟩
abbrev cX3_make : ByteArray := prog_5_method_7_code
def yX3_make : MethodName := ⟨RX3, "make", "()V"⟩
abbrev cX3_addLines : ByteArray := prog_5_method_8_code
def yX3_addLines : MethodName := ⟨RX3, "addLines", "()V"⟩
abbrev cX3_addWays : ByteArray := prog_5_method_9_code
def yX3_addWays : MethodName := ⟨RX3, "addWays", "(I)V"⟩
abbrev cX3_addToHeap : ByteArray := prog_5_method_10_code
def yX3_addToHeap : MethodName := ⟨RX3, "addToHeap", "(III)V"⟩
abbrev cX3_choosePair : ByteArray := prog_5_method_11_code
def yX3_choosePair : MethodName := ⟨RX3, "choosePair", "(I)V"⟩
abbrev cX3_choose : ByteArray := prog_5_method_12_code
def yX3_choose : MethodName := ⟨RX3, "choose", "(II)V"⟩
abbrev cX3_greatestHeap : ByteArray := prog_5_method_13_code
def yX3_greatestHeap : MethodName := ⟨RX3, "greatestHeap", "(II)I"⟩
def RX4 : String := "NetShape$Told"
def TX4 : u_T := fun k => match k with
  | 0 => ("NetShape$Told", "leasts", "[I", true)
  | 1 => ("NetShape$Told", "aparts", "[I", true)
  | _ => ("NetShape$Told", "times", "I", false)
def tyX4 : Nat → FieldType := fun k => match k with
  | 0 => .array .int
  | 1 => .array .int
  | _ => .int
abbrev wsX40 : List Cond := u_ws RX4 TX4 3
theorem nmX4 : ∀ a, a < 3 → ∀ b, b < 3 → a ≠ b → (TX4 a).2.1 ≠ (TX4 b).2.1 := by decide +kernel
theorem tyX4_ok : ∀ k, k < 3 → parseFieldDescriptor (TX4 k).2.2.1 = some (tyX4 k) := by decide +kernel
abbrev cX4_init : ByteArray := prog_6_method_1_code
def yX4_init : MethodName := ⟨RX4, "<init>", "()V"⟩
abbrev cX4_times : ByteArray := prog_6_method_2_code
def yX4_times : MethodName := ⟨RX4, "times", "()I"⟩
abbrev cX4_clear : ByteArray := prog_6_method_3_code
def yX4_clear : MethodName := ⟨RX4, "clear", "()V"⟩
abbrev cX4_box : ByteArray := prog_6_method_4_code
def yX4_box : MethodName := ⟨RX4, "box", "(I)I"⟩
abbrev cX4_boxes : ByteArray := prog_6_method_5_code
def yX4_boxes : MethodName := ⟨RX4, "boxes", "(I)I"⟩
abbrev cX4_areOneBox : ByteArray := prog_6_method_6_code
def yX4_areOneBox : MethodName := ⟨RX4, "areOneBox", "(II)Z"⟩
abbrev cX4_areToldApart : ByteArray := prog_6_method_7_code
def yX4_areToldApart : MethodName := ⟨RX4, "areToldApart", "(II)Z"⟩
abbrev cX4_haveBoxesApart : ByteArray := prog_6_method_8_code
def yX4_haveBoxesApart : MethodName := ⟨RX4, "haveBoxesApart", "(II)Z"⟩
abbrev cX4_add : ByteArray := prog_6_method_9_code
def yX4_add : MethodName := ⟨RX4, "add", "(IIZ)V"⟩
abbrev cX4_makeOne : ByteArray := prog_6_method_10_code
def yX4_makeOne : MethodName := ⟨RX4, "makeOne", "(II)V"⟩
abbrev cX4_setApart : ByteArray := prog_6_method_11_code
def yX4_setApart : MethodName := ⟨RX4, "setApart", "(II)V"⟩
def RX5 : String := "NetShape"
def TX5 : u_T := fun k => match k with
  | 0 => ("NetShape", "rows", "LNetShape$Rows;", true)
  | 1 => ("NetShape", "told", "LNetShape$Told;", true)
  | 2 => ("NetShape", "least", "LNetShape$LeastNets;", true)
  | _ => ("NetShape", "survey", "LNetShape$Survey;", true)
def tyX5 : Nat → FieldType := fun k => match k with
  | 0 => .object "NetShape$Rows"
  | 1 => .object "NetShape$Told"
  | 2 => .object "NetShape$LeastNets"
  | _ => .object "NetShape$Survey"
abbrev wsX50 : List Cond := u_ws RX5 TX5 4
theorem nmX5 : ∀ a, a < 4 → ∀ b, b < 4 → a ≠ b → (TX5 a).2.1 ≠ (TX5 b).2.1 := by decide +kernel
theorem tyX5_ok : ∀ k, k < 4 → parseFieldDescriptor (TX5 k).2.2.1 = some (tyX5 k) := by decide +kernel
abbrev cX5_init : ByteArray := prog_1_method_1_code
def yX5_init : MethodName := ⟨RX5, "<init>", "()V"⟩
abbrev cX5_hop : ByteArray := prog_1_method_2_code
def yX5_hop : MethodName := ⟨RX5, "hop", "(I)I"⟩
abbrev cX5_drop : ByteArray := prog_1_method_3_code
def yX5_drop : MethodName := ⟨RX5, "drop", "()I"⟩
abbrev cX5_trace : ByteArray := prog_1_method_4_code
def yX5_trace : MethodName := ⟨RX5, "trace", "()I"⟩
abbrev cX5_forget : ByteArray := prog_1_method_5_code
def yX5_forget : MethodName := ⟨RX5, "forget", "(I)I"⟩
abbrev cX5_tell : ByteArray := prog_1_method_6_code
def yX5_tell : MethodName := ⟨RX5, "tell", "(IIZ)I"⟩
abbrev cX5_untell : ByteArray := prog_1_method_7_code
def yX5_untell : MethodName := ⟨RX5, "untell", "()I"⟩
abbrev cX5_at : ByteArray := prog_1_method_8_code
def yX5_at : MethodName := ⟨RX5, "at", "(II)I"⟩
abbrev cX5_nets : ByteArray := prog_1_method_9_code
def yX5_nets : MethodName := ⟨RX5, "nets", "()I"⟩
abbrev cX5_shape : ByteArray := prog_1_method_10_code
def yX5_shape : MethodName := ⟨RX5, "shape", "(I)I"⟩
abbrev cX5_boxOf : ByteArray := prog_1_method_11_code
def yX5_boxOf : MethodName := ⟨RX5, "boxOf", "(II)I"⟩
abbrev cX5_far : ByteArray := prog_1_method_12_code
def yX5_far : MethodName := ⟨RX5, "far", "(III)I"⟩
abbrev cX5_sure : ByteArray := prog_1_method_13_code
def yX5_sure : MethodName := ⟨RX5, "sure", "(II)I"⟩
abbrev cX5_falses : ByteArray := prog_1_method_14_code
def yX5_falses : MethodName := ⟨RX5, "falses", "()I"⟩
abbrev cX5_next : ByteArray := prog_1_method_15_code
def yX5_next : MethodName := ⟨RX5, "next", "()I"⟩
abbrev cX5_worst : ByteArray := prog_1_method_16_code
def yX5_worst : MethodName := ⟨RX5, "worst", "()I"⟩
abbrev cX5_count : ByteArray := prog_1_method_17_code
def yX5_count : MethodName := ⟨RX5, "count", "(I)I"⟩
abbrev cX5_forgetAnswers : ByteArray := prog_1_method_18_code
def yX5_forgetAnswers : MethodName := ⟨RX5, "forgetAnswers", "()V"⟩
abbrev cX5_isTrace : ByteArray := prog_1_method_19_code
def yX5_isTrace : MethodName := ⟨RX5, "isTrace", "(I)Z"⟩
abbrev cX5_isNet : ByteArray := prog_1_method_20_code
def yX5_isNet : MethodName := ⟨RX5, "isNet", "(I)Z"⟩
abbrev cX5_isTraced : ByteArray := prog_1_method_21_code
def yX5_isTraced : MethodName := ⟨RX5, "isTraced", "(I)Z"⟩
abbrev cX5_boxesOfNames : ByteArray := prog_1_method_22_code
def yX5_boxesOfNames : MethodName := ⟨RX5, "boxesOfNames", "()I"⟩
abbrev cX5_isName : ByteArray := prog_1_method_23_code
def yX5_isName : MethodName := ⟨RX5, "isName", "(I)Z"⟩
abbrev cX5_isBox : ByteArray := prog_1_method_24_code
def yX5_isBox : MethodName := ⟨RX5, "isBox", "(I)Z"⟩
abbrev cX5_hasBit : ByteArray := prog_1_method_25_code
def yX5_hasBit : MethodName := ⟨RX5, "hasBit", "(II)Z"⟩
abbrev cX5_boxIn : ByteArray := prog_1_method_26_code
def yX5_boxIn : MethodName := ⟨RX5, "boxIn", "(II)I"⟩
def RX6 : String := "NetShapeModel"
def TX6 : u_T := fun k => match k with
  | 0 => ("NetShapeModel", "traces", "I", false)
  | 1 => ("NetShapeModel", "size", "[I", true)
  | 2 => ("NetShapeModel", "hops", "[I", true)
  | 3 => ("NetShapeModel", "handSize", "I", false)
  | 4 => ("NetShapeModel", "hand", "[I", true)
  | 5 => ("NetShapeModel", "box", "[I", true)
  | 6 => ("NetShapeModel", "apart", "[Z", true)
  | 7 => ("NetShapeModel", "tells", "I", false)
  | 8 => ("NetShapeModel", "choice", "[I", true)
  | 9 => ("NetShapeModel", "place", "[I", true)
  | 10 => ("NetShapeModel", "line", "[Z", true)
  | 11 => ("NetShapeModel", "far", "[I", true)
  | 12 => ("NetShapeModel", "silents", "I", false)
  | 13 => ("NetShapeModel", "nets", "I", false)
  | 14 => ("NetShapeModel", "fewestBoxes", "I", false)
  | 15 => ("NetShapeModel", "fewestLines", "I", false)
  | 16 => ("NetShapeModel", "boxes", "[I", true)
  | 17 => ("NetShapeModel", "fars", "[I", true)
  | 18 => ("NetShapeModel", "lines", "[Z", true)
  | 19 => ("NetShapeModel", "bestPair", "I", false)
  | _ => ("NetShapeModel", "bestHeap", "I", false)
def tyX6 : Nat → FieldType := fun k => match k with
  | 0 => .int
  | 1 => .array .int
  | 2 => .array .int
  | 3 => .int
  | 4 => .array .int
  | 5 => .array .int
  | 6 => .array .boolean
  | 7 => .int
  | 8 => .array .int
  | 9 => .array .int
  | 10 => .array .boolean
  | 11 => .array .int
  | 12 => .int
  | 13 => .int
  | 14 => .int
  | 15 => .int
  | 16 => .array .int
  | 17 => .array .int
  | 18 => .array .boolean
  | 19 => .int
  | _ => .int
abbrev wsX60 : List Cond := u_ws RX6 TX6 21
theorem nmX6 : ∀ a, a < 21 → ∀ b, b < 21 → a ≠ b → (TX6 a).2.1 ≠ (TX6 b).2.1 := by decide +kernel
theorem tyX6_ok : ∀ k, k < 21 → parseFieldDescriptor (TX6 k).2.2.1 = some (tyX6 k) := by decide +kernel
abbrev cX6_init : ByteArray := prog_8_method_1_code
def yX6_init : MethodName := ⟨RX6, "<init>", "()V"⟩
abbrev cX6_in : ByteArray := prog_8_method_2_code
def yX6_in : MethodName := ⟨RX6, "in", "(III)Z"⟩
abbrev cX6_isName : ByteArray := prog_8_method_3_code
def yX6_isName : MethodName := ⟨RX6, "isName", "(I)Z"⟩
abbrev cX6_silentOf : ByteArray := prog_8_method_4_code
def yX6_silentOf : MethodName := ⟨RX6, "silentOf", "(I)I"⟩
abbrev cX6_silentMany : ByteArray := prog_8_method_5_code
def yX6_silentMany : MethodName := ⟨RX6, "silentMany", "()I"⟩
abbrev cX6_hop : ByteArray := prog_8_method_6_code
def yX6_hop : MethodName := ⟨RX6, "hop", "(I)I"⟩
abbrev cX6_drop : ByteArray := prog_8_method_7_code
def yX6_drop : MethodName := ⟨RX6, "drop", "()I"⟩
abbrev cX6_trace : ByteArray := prog_8_method_8_code
def yX6_trace : MethodName := ⟨RX6, "trace", "()I"⟩
abbrev cX6_forget : ByteArray := prog_8_method_9_code
def yX6_forget : MethodName := ⟨RX6, "forget", "(I)I"⟩
abbrev cX6_tell : ByteArray := prog_8_method_10_code
def yX6_tell : MethodName := ⟨RX6, "tell", "(IIZ)I"⟩
abbrev cX6_untell : ByteArray := prog_8_method_11_code
def yX6_untell : MethodName := ⟨RX6, "untell", "()I"⟩
abbrev cX6_at : ByteArray := prog_8_method_12_code
def yX6_at : MethodName := ⟨RX6, "at", "(II)I"⟩
abbrev cX6_isThere : ByteArray := prog_8_method_13_code
def yX6_isThere : MethodName := ⟨RX6, "isThere", "(II)Z"⟩
abbrev cX6_isBoxThere : ByteArray := prog_8_method_14_code
def yX6_isBoxThere : MethodName := ⟨RX6, "isBoxThere", "(II)Z"⟩
abbrev cX6_boxMany : ByteArray := prog_8_method_15_code
def yX6_boxMany : MethodName := ⟨RX6, "boxMany", "(I)I"⟩
abbrev cX6_layPlaces : ByteArray := prog_8_method_16_code
def yX6_layPlaces : MethodName := ⟨RX6, "layPlaces", "(I)V"⟩
abbrev cX6_layLines : ByteArray := prog_8_method_17_code
def yX6_layLines : MethodName := ⟨RX6, "layLines", "(I)V"⟩
abbrev cX6_hasOnce : ByteArray := prog_8_method_18_code
def yX6_hasOnce : MethodName := ⟨RX6, "hasOnce", "(I)Z"⟩
abbrev cX6_fits : ByteArray := prog_8_method_19_code
def yX6_fits : MethodName := ⟨RX6, "fits", "(I)Z"⟩
abbrev cX6_begin : ByteArray := prog_8_method_20_code
def yX6_begin : MethodName := ⟨RX6, "begin", "(I)V"⟩
abbrev cX6_raise : ByteArray := prog_8_method_21_code
def yX6_raise : MethodName := ⟨RX6, "raise", "(II)Z"⟩
abbrev cX6_goOn : ByteArray := prog_8_method_22_code
def yX6_goOn : MethodName := ⟨RX6, "goOn", "(I)Z"⟩
abbrev cX6_newMany : ByteArray := prog_8_method_23_code
def yX6_newMany : MethodName := ⟨RX6, "newMany", "()I"⟩
abbrev cX6_lineMany : ByteArray := prog_8_method_24_code
def yX6_lineMany : MethodName := ⟨RX6, "lineMany", "()I"⟩
abbrev cX6_keep : ByteArray := prog_8_method_25_code
def yX6_keep : MethodName := ⟨RX6, "keep", "()V"⟩
abbrev cX6_findNets : ByteArray := prog_8_method_26_code
def yX6_findNets : MethodName := ⟨RX6, "findNets", "()V"⟩
abbrev cX6_nets : ByteArray := prog_8_method_27_code
def yX6_nets : MethodName := ⟨RX6, "nets", "()I"⟩
abbrev cX6_shape : ByteArray := prog_8_method_28_code
def yX6_shape : MethodName := ⟨RX6, "shape", "(I)I"⟩
abbrev cX6_boxOf : ByteArray := prog_8_method_29_code
def yX6_boxOf : MethodName := ⟨RX6, "boxOf", "(II)I"⟩
abbrev cX6_isSeen : ByteArray := prog_8_method_30_code
def yX6_isSeen : MethodName := ⟨RX6, "isSeen", "(I)Z"⟩
abbrev cX6_far : ByteArray := prog_8_method_31_code
def yX6_far : MethodName := ⟨RX6, "far", "(III)I"⟩
abbrev cX6_sure : ByteArray := prog_8_method_32_code
def yX6_sure : MethodName := ⟨RX6, "sure", "(II)I"⟩
abbrev cX6_canFit : ByteArray := prog_8_method_33_code
def yX6_canFit : MethodName := ⟨RX6, "canFit", "(I)Z"⟩
abbrev cX6_ones : ByteArray := prog_8_method_34_code
def yX6_ones : MethodName := ⟨RX6, "ones", "(I)I"⟩
abbrev cX6_falses : ByteArray := prog_8_method_35_code
def yX6_falses : MethodName := ⟨RX6, "falses", "()I"⟩
abbrev cX6_greatestHeap : ByteArray := prog_8_method_36_code
def yX6_greatestHeap : MethodName := ⟨RX6, "greatestHeap", "(I)I"⟩
abbrev cX6_findNext : ByteArray := prog_8_method_37_code
def yX6_findNext : MethodName := ⟨RX6, "findNext", "()Z"⟩
abbrev cX6_next : ByteArray := prog_8_method_38_code
def yX6_next : MethodName := ⟨RX6, "next", "()I"⟩
abbrev cX6_worst : ByteArray := prog_8_method_39_code
def yX6_worst : MethodName := ⟨RX6, "worst", "()I"⟩
abbrev cX6_count : ByteArray := prog_8_method_40_code
def yX6_count : MethodName := ⟨RX6, "count", "(I)I"⟩
def RJ6 : String := "java/lang/Integer"
def TJ6 : u_T := fun k => match k with
  | _ => ("", "", "", false)
def tyJ6 : Nat → FieldType := fun k => match k with
  | _ => .int
abbrev wsJ60 : List Cond := u_ws RJ6 TJ6 0
theorem nmJ6 : ∀ a, a < 0 → ∀ b, b < 0 → a ≠ b → (TJ6 a).2.1 ≠ (TJ6 b).2.1 := by decide +kernel
theorem tyJ6_ok : ∀ k, k < 0 → parseFieldDescriptor (TJ6 k).2.2.1 = some (tyJ6 k) := by decide +kernel
abbrev cJ6_bitCount_0f7a4 : ByteArray := prog_9_method_49_code
def yJ6_bitCount_0f7a4 : MethodName := ⟨RJ6, "bitCount", "(I)I"⟩
def RJ9 : String := "java/lang/Math"
def TJ9 : u_T := fun k => match k with
  | _ => ("", "", "", false)
def tyJ9 : Nat → FieldType := fun k => match k with
  | _ => .int
abbrev wsJ90 : List Cond := u_ws RJ9 TJ9 0
theorem nmJ9 : ∀ a, a < 0 → ∀ b, b < 0 → a ≠ b → (TJ9 a).2.1 ≠ (TJ9 b).2.1 := by decide +kernel
theorem tyJ9_ok : ∀ k, k < 0 → parseFieldDescriptor (TJ9 k).2.2.1 = some (tyJ9 k) := by decide +kernel
abbrev cJ9_max_7cf53 : ByteArray := prog_10_method_65_code
def yJ9_max_7cf53 : MethodName := ⟨RJ9, "max", "(II)I"⟩
abbrev cJ9_min_7cf53 : ByteArray := prog_10_method_69_code
def yJ9_min_7cf53 : MethodName := ⟨RJ9, "min", "(II)I"⟩
def RJ7 : String := "java/util/Arrays"
def TJ7 : u_T := fun k => match k with
  | _ => ("", "", "", false)
def tyJ7 : Nat → FieldType := fun k => match k with
  | _ => .int
abbrev wsJ70 : List Cond := u_ws RJ7 TJ7 0
theorem nmJ7 : ∀ a, a < 0 → ∀ b, b < 0 → a ≠ b → (TJ7 a).2.1 ≠ (TJ7 b).2.1 := by decide +kernel
theorem tyJ7_ok : ∀ k, k < 0 → parseFieldDescriptor (TJ7 k).2.2.1 = some (tyJ7 k) := by decide +kernel
abbrev cJ7_fill_53178 : ByteArray := prog_11_method_103_code
def yJ7_fill_53178 : MethodName := ⟨RJ7, "fill", "([II)V"⟩
def RL : String := "NetShapeLaw"
abbrev cL_law : ByteArray := code
def yL_law : MethodName := ⟨RL, "law", "([I)Z"⟩
abbrev vwCl : List vw_C := [(RX0, TX0, 10), (RX1, TX1, 4), (RX2, TX2, 3), (RX3, TX3, 10), (RX4, TX4, 3), (RX5, TX5, 4), (RX6, TX6, 21)]
