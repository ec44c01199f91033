section
-- ===== PART A: goes FIRST, ahead of the names: the tables' words, and 'selects' of the private methods out of them =====
/-- a private method of a class that the tables say can be made, by its rows of tables_1 -/
def lw_okq (q : MethodName × Nat) : Prop := (q.1.cls ≠ "java/lang/invoke/MethodHandle" ∧ q.1.cls ≠ "java/lang/invoke/VarHandle") ∧ Cond.instantiable q.1.cls q.2 ∈ tables_1 ∧ Cond.privateMethod q.1 ∈ tables_1 ∧ Cond.instanceMethod q.1 ∈ tables_1
theorem lw_p0 : lw_okq (⟨"NetShape$Rows", "copy", "(II)V"⟩, 3) := ⟨⟨by decide +kernel, by decide +kernel⟩, List.mem_of_getElem? (i := 20) (by decide +kernel), List.mem_of_getElem? (i := 213) (by decide +kernel), List.mem_of_getElem? (i := 214) (by decide +kernel)⟩
theorem lw_p1 : lw_okq (⟨"NetShape", "forgetAnswers", "()V"⟩, 4) := ⟨⟨by decide +kernel, by decide +kernel⟩, List.mem_of_getElem? (i := 12) (by decide +kernel), List.mem_of_getElem? (i := 219) (by decide +kernel), List.mem_of_getElem? (i := 220) (by decide +kernel)⟩
theorem lw_p2 : lw_okq (⟨"NetShape", "isTrace", "(I)Z"⟩, 4) := ⟨⟨by decide +kernel, by decide +kernel⟩, List.mem_of_getElem? (i := 12) (by decide +kernel), List.mem_of_getElem? (i := 235) (by decide +kernel), List.mem_of_getElem? (i := 236) (by decide +kernel)⟩
theorem lw_p3 : lw_okq (⟨"NetShape$Told", "makeOne", "(II)V"⟩, 3) := ⟨⟨by decide +kernel, by decide +kernel⟩, List.mem_of_getElem? (i := 37) (by decide +kernel), List.mem_of_getElem? (i := 272) (by decide +kernel), List.mem_of_getElem? (i := 273) (by decide +kernel)⟩
theorem lw_p4 : lw_okq (⟨"NetShape$Told", "setApart", "(II)V"⟩, 3) := ⟨⟨by decide +kernel, by decide +kernel⟩, List.mem_of_getElem? (i := 37) (by decide +kernel), List.mem_of_getElem? (i := 279) (by decide +kernel), List.mem_of_getElem? (i := 280) (by decide +kernel)⟩
theorem lw_p5 : lw_okq (⟨"NetShape$Net", "draw", "(II)Z"⟩, 4) := ⟨⟨by decide +kernel, by decide +kernel⟩, List.mem_of_getElem? (i := 53) (by decide +kernel), List.mem_of_getElem? (i := 341) (by decide +kernel), List.mem_of_getElem? (i := 342) (by decide +kernel)⟩
theorem lw_p6 : lw_okq (⟨"NetShape$Net", "silentBox", "(I)I"⟩, 4) := ⟨⟨by decide +kernel, by decide +kernel⟩, List.mem_of_getElem? (i := 53) (by decide +kernel), List.mem_of_getElem? (i := 347) (by decide +kernel), List.mem_of_getElem? (i := 348) (by decide +kernel)⟩
theorem lw_p7 : lw_okq (⟨"NetShape$Net", "join", "(II)V"⟩, 4) := ⟨⟨by decide +kernel, by decide +kernel⟩, List.mem_of_getElem? (i := 53) (by decide +kernel), List.mem_of_getElem? (i := 352) (by decide +kernel), List.mem_of_getElem? (i := 353) (by decide +kernel)⟩
theorem lw_p8 : lw_okq (⟨"NetShape$Net", "isShortest", "(I)Z"⟩, 4) := ⟨⟨by decide +kernel, by decide +kernel⟩, List.mem_of_getElem? (i := 53) (by decide +kernel), List.mem_of_getElem? (i := 360) (by decide +kernel), List.mem_of_getElem? (i := 361) (by decide +kernel)⟩
theorem lw_p9 : lw_okq (⟨"NetShape$LeastNets", "keep", "(I)V"⟩, 10) := ⟨⟨by decide +kernel, by decide +kernel⟩, List.mem_of_getElem? (i := 72) (by decide +kernel), List.mem_of_getElem? (i := 371) (by decide +kernel), List.mem_of_getElem? (i := 372) (by decide +kernel)⟩
theorem lw_p10 : lw_okq (⟨"NetShape$LeastNets", "mayTake", "(II)Z"⟩, 10) := ⟨⟨by decide +kernel, by decide +kernel⟩, List.mem_of_getElem? (i := 72) (by decide +kernel), List.mem_of_getElem? (i := 389) (by decide +kernel), List.mem_of_getElem? (i := 390) (by decide +kernel)⟩
theorem lw_p11 : lw_okq (⟨"NetShape", "boxesOfNames", "()I"⟩, 4) := ⟨⟨by decide +kernel, by decide +kernel⟩, List.mem_of_getElem? (i := 12) (by decide +kernel), List.mem_of_getElem? (i := 403) (by decide +kernel), List.mem_of_getElem? (i := 404) (by decide +kernel)⟩
theorem lw_p12 : lw_okq (⟨"NetShape", "isNet", "(I)Z"⟩, 4) := ⟨⟨by decide +kernel, by decide +kernel⟩, List.mem_of_getElem? (i := 12) (by decide +kernel), List.mem_of_getElem? (i := 422) (by decide +kernel), List.mem_of_getElem? (i := 423) (by decide +kernel)⟩
theorem lw_p13 : lw_okq (⟨"NetShape", "isTraced", "(I)Z"⟩, 4) := ⟨⟨by decide +kernel, by decide +kernel⟩, List.mem_of_getElem? (i := 12) (by decide +kernel), List.mem_of_getElem? (i := 437) (by decide +kernel), List.mem_of_getElem? (i := 438) (by decide +kernel)⟩
theorem lw_p14 : lw_okq (⟨"NetShape$Survey", "addLines", "()V"⟩, 10) := ⟨⟨by decide +kernel, by decide +kernel⟩, List.mem_of_getElem? (i := 109) (by decide +kernel), List.mem_of_getElem? (i := 467) (by decide +kernel), List.mem_of_getElem? (i := 468) (by decide +kernel)⟩
theorem lw_p15 : lw_okq (⟨"NetShape$Survey", "addWays", "(I)V"⟩, 10) := ⟨⟨by decide +kernel, by decide +kernel⟩, List.mem_of_getElem? (i := 109) (by decide +kernel), List.mem_of_getElem? (i := 475) (by decide +kernel), List.mem_of_getElem? (i := 476) (by decide +kernel)⟩
def lw_privs_1 : List (MethodName × Nat) := [(⟨"NetShape$Rows", "copy", "(II)V"⟩, 3), (⟨"NetShape", "forgetAnswers", "()V"⟩, 4), (⟨"NetShape", "isTrace", "(I)Z"⟩, 4), (⟨"NetShape$Told", "makeOne", "(II)V"⟩, 3), (⟨"NetShape$Told", "setApart", "(II)V"⟩, 3), (⟨"NetShape$Net", "draw", "(II)Z"⟩, 4), (⟨"NetShape$Net", "silentBox", "(I)I"⟩, 4), (⟨"NetShape$Net", "join", "(II)V"⟩, 4), (⟨"NetShape$Net", "isShortest", "(I)Z"⟩, 4), (⟨"NetShape$LeastNets", "keep", "(I)V"⟩, 10), (⟨"NetShape$LeastNets", "mayTake", "(II)Z"⟩, 10), (⟨"NetShape", "boxesOfNames", "()I"⟩, 4), (⟨"NetShape", "isNet", "(I)Z"⟩, 4), (⟨"NetShape", "isTraced", "(I)Z"⟩, 4), (⟨"NetShape$Survey", "addLines", "()V"⟩, 10), (⟨"NetShape$Survey", "addWays", "(I)V"⟩, 10)]
theorem lw_r1 : ∀ q ∈ lw_privs_1, lw_okq q := List.forall_mem_cons.mpr ⟨lw_p0, List.forall_mem_cons.mpr ⟨lw_p1, List.forall_mem_cons.mpr ⟨lw_p2, List.forall_mem_cons.mpr ⟨lw_p3, List.forall_mem_cons.mpr ⟨lw_p4, List.forall_mem_cons.mpr ⟨lw_p5, List.forall_mem_cons.mpr ⟨lw_p6, List.forall_mem_cons.mpr ⟨lw_p7, List.forall_mem_cons.mpr ⟨lw_p8, List.forall_mem_cons.mpr ⟨lw_p9, List.forall_mem_cons.mpr ⟨lw_p10, List.forall_mem_cons.mpr ⟨lw_p11, List.forall_mem_cons.mpr ⟨lw_p12, List.forall_mem_cons.mpr ⟨lw_p13, List.forall_mem_cons.mpr ⟨lw_p14, List.forall_mem_cons.mpr ⟨lw_p15, fun _ h => absurd h List.not_mem_nil⟩⟩⟩⟩⟩⟩⟩⟩⟩⟩⟩⟩⟩⟩⟩⟩
theorem lw_p16 : lw_okq (⟨"NetShape$Survey", "addToHeap", "(III)V"⟩, 10) := ⟨⟨by decide +kernel, by decide +kernel⟩, List.mem_of_getElem? (i := 109) (by decide +kernel), List.mem_of_getElem? (i := 481) (by decide +kernel), List.mem_of_getElem? (i := 482) (by decide +kernel)⟩
theorem lw_p17 : lw_okq (⟨"NetShape$Survey", "choosePair", "(I)V"⟩, 10) := ⟨⟨by decide +kernel, by decide +kernel⟩, List.mem_of_getElem? (i := 109) (by decide +kernel), List.mem_of_getElem? (i := 485) (by decide +kernel), List.mem_of_getElem? (i := 486) (by decide +kernel)⟩
theorem lw_p18 : lw_okq (⟨"NetShape$Survey", "choose", "(II)V"⟩, 10) := ⟨⟨by decide +kernel, by decide +kernel⟩, List.mem_of_getElem? (i := 109) (by decide +kernel), List.mem_of_getElem? (i := 489) (by decide +kernel), List.mem_of_getElem? (i := 490) (by decide +kernel)⟩
theorem lw_p19 : lw_okq (⟨"NetShape$Survey", "greatestHeap", "(II)I"⟩, 10) := ⟨⟨by decide +kernel, by decide +kernel⟩, List.mem_of_getElem? (i := 109) (by decide +kernel), List.mem_of_getElem? (i := 493) (by decide +kernel), List.mem_of_getElem? (i := 494) (by decide +kernel)⟩
theorem lw_p20 : lw_okq (⟨"NetShapeModel", "silentMany", "()I"⟩, 21) := ⟨⟨by decide +kernel, by decide +kernel⟩, List.mem_of_getElem? (i := 529) (by decide +kernel), List.mem_of_getElem? (i := 608) (by decide +kernel), List.mem_of_getElem? (i := 609) (by decide +kernel)⟩
theorem lw_p21 : lw_okq (⟨"NetShapeModel", "silentOf", "(I)I"⟩, 21) := ⟨⟨by decide +kernel, by decide +kernel⟩, List.mem_of_getElem? (i := 529) (by decide +kernel), List.mem_of_getElem? (i := 612) (by decide +kernel), List.mem_of_getElem? (i := 613) (by decide +kernel)⟩
theorem lw_p22 : lw_okq (⟨"NetShapeModel", "findNets", "()V"⟩, 21) := ⟨⟨by decide +kernel, by decide +kernel⟩, List.mem_of_getElem? (i := 529) (by decide +kernel), List.mem_of_getElem? (i := 647) (by decide +kernel), List.mem_of_getElem? (i := 648) (by decide +kernel)⟩
theorem lw_p23 : lw_okq (⟨"NetShapeModel", "boxMany", "(I)I"⟩, 21) := ⟨⟨by decide +kernel, by decide +kernel⟩, List.mem_of_getElem? (i := 529) (by decide +kernel), List.mem_of_getElem? (i := 651) (by decide +kernel), List.mem_of_getElem? (i := 652) (by decide +kernel)⟩
theorem lw_p24 : lw_okq (⟨"NetShapeModel", "isBoxThere", "(II)Z"⟩, 21) := ⟨⟨by decide +kernel, by decide +kernel⟩, List.mem_of_getElem? (i := 529) (by decide +kernel), List.mem_of_getElem? (i := 655) (by decide +kernel), List.mem_of_getElem? (i := 656) (by decide +kernel)⟩
theorem lw_p25 : lw_okq (⟨"NetShapeModel", "isThere", "(II)Z"⟩, 21) := ⟨⟨by decide +kernel, by decide +kernel⟩, List.mem_of_getElem? (i := 529) (by decide +kernel), List.mem_of_getElem? (i := 659) (by decide +kernel), List.mem_of_getElem? (i := 660) (by decide +kernel)⟩
theorem lw_p26 : lw_okq (⟨"NetShapeModel", "begin", "(I)V"⟩, 21) := ⟨⟨by decide +kernel, by decide +kernel⟩, List.mem_of_getElem? (i := 529) (by decide +kernel), List.mem_of_getElem? (i := 663) (by decide +kernel), List.mem_of_getElem? (i := 664) (by decide +kernel)⟩
theorem lw_p27 : lw_okq (⟨"NetShapeModel", "raise", "(II)Z"⟩, 21) := ⟨⟨by decide +kernel, by decide +kernel⟩, List.mem_of_getElem? (i := 529) (by decide +kernel), List.mem_of_getElem? (i := 667) (by decide +kernel), List.mem_of_getElem? (i := 668) (by decide +kernel)⟩
theorem lw_p28 : lw_okq (⟨"NetShapeModel", "newMany", "()I"⟩, 21) := ⟨⟨by decide +kernel, by decide +kernel⟩, List.mem_of_getElem? (i := 529) (by decide +kernel), List.mem_of_getElem? (i := 671) (by decide +kernel), List.mem_of_getElem? (i := 672) (by decide +kernel)⟩
theorem lw_p29 : lw_okq (⟨"NetShapeModel", "fits", "(I)Z"⟩, 21) := ⟨⟨by decide +kernel, by decide +kernel⟩, List.mem_of_getElem? (i := 529) (by decide +kernel), List.mem_of_getElem? (i := 675) (by decide +kernel), List.mem_of_getElem? (i := 676) (by decide +kernel)⟩
theorem lw_p30 : lw_okq (⟨"NetShapeModel", "layPlaces", "(I)V"⟩, 21) := ⟨⟨by decide +kernel, by decide +kernel⟩, List.mem_of_getElem? (i := 529) (by decide +kernel), List.mem_of_getElem? (i := 679) (by decide +kernel), List.mem_of_getElem? (i := 680) (by decide +kernel)⟩
theorem lw_p31 : lw_okq (⟨"NetShapeModel", "hasOnce", "(I)Z"⟩, 21) := ⟨⟨by decide +kernel, by decide +kernel⟩, List.mem_of_getElem? (i := 529) (by decide +kernel), List.mem_of_getElem? (i := 683) (by decide +kernel), List.mem_of_getElem? (i := 684) (by decide +kernel)⟩
def lw_privs_2 : List (MethodName × Nat) := [(⟨"NetShape$Survey", "addToHeap", "(III)V"⟩, 10), (⟨"NetShape$Survey", "choosePair", "(I)V"⟩, 10), (⟨"NetShape$Survey", "choose", "(II)V"⟩, 10), (⟨"NetShape$Survey", "greatestHeap", "(II)I"⟩, 10), (⟨"NetShapeModel", "silentMany", "()I"⟩, 21), (⟨"NetShapeModel", "silentOf", "(I)I"⟩, 21), (⟨"NetShapeModel", "findNets", "()V"⟩, 21), (⟨"NetShapeModel", "boxMany", "(I)I"⟩, 21), (⟨"NetShapeModel", "isBoxThere", "(II)Z"⟩, 21), (⟨"NetShapeModel", "isThere", "(II)Z"⟩, 21), (⟨"NetShapeModel", "begin", "(I)V"⟩, 21), (⟨"NetShapeModel", "raise", "(II)Z"⟩, 21), (⟨"NetShapeModel", "newMany", "()I"⟩, 21), (⟨"NetShapeModel", "fits", "(I)Z"⟩, 21), (⟨"NetShapeModel", "layPlaces", "(I)V"⟩, 21), (⟨"NetShapeModel", "hasOnce", "(I)Z"⟩, 21)]
theorem lw_r2 : ∀ q ∈ lw_privs_2, lw_okq q := List.forall_mem_cons.mpr ⟨lw_p16, List.forall_mem_cons.mpr ⟨lw_p17, List.forall_mem_cons.mpr ⟨lw_p18, List.forall_mem_cons.mpr ⟨lw_p19, List.forall_mem_cons.mpr ⟨lw_p20, List.forall_mem_cons.mpr ⟨lw_p21, List.forall_mem_cons.mpr ⟨lw_p22, List.forall_mem_cons.mpr ⟨lw_p23, List.forall_mem_cons.mpr ⟨lw_p24, List.forall_mem_cons.mpr ⟨lw_p25, List.forall_mem_cons.mpr ⟨lw_p26, List.forall_mem_cons.mpr ⟨lw_p27, List.forall_mem_cons.mpr ⟨lw_p28, List.forall_mem_cons.mpr ⟨lw_p29, List.forall_mem_cons.mpr ⟨lw_p30, List.forall_mem_cons.mpr ⟨lw_p31, fun _ h => absurd h List.not_mem_nil⟩⟩⟩⟩⟩⟩⟩⟩⟩⟩⟩⟩⟩⟩⟩⟩
theorem lw_p32 : lw_okq (⟨"NetShapeModel", "layLines", "(I)V"⟩, 21) := ⟨⟨by decide +kernel, by decide +kernel⟩, List.mem_of_getElem? (i := 529) (by decide +kernel), List.mem_of_getElem? (i := 687) (by decide +kernel), List.mem_of_getElem? (i := 688) (by decide +kernel)⟩
theorem lw_p33 : lw_okq (⟨"NetShapeModel", "lineMany", "()I"⟩, 21) := ⟨⟨by decide +kernel, by decide +kernel⟩, List.mem_of_getElem? (i := 529) (by decide +kernel), List.mem_of_getElem? (i := 691) (by decide +kernel), List.mem_of_getElem? (i := 692) (by decide +kernel)⟩
theorem lw_p34 : lw_okq (⟨"NetShapeModel", "keep", "()V"⟩, 21) := ⟨⟨by decide +kernel, by decide +kernel⟩, List.mem_of_getElem? (i := 529) (by decide +kernel), List.mem_of_getElem? (i := 695) (by decide +kernel), List.mem_of_getElem? (i := 696) (by decide +kernel)⟩
theorem lw_p35 : lw_okq (⟨"NetShapeModel", "goOn", "(I)Z"⟩, 21) := ⟨⟨by decide +kernel, by decide +kernel⟩, List.mem_of_getElem? (i := 529) (by decide +kernel), List.mem_of_getElem? (i := 699) (by decide +kernel), List.mem_of_getElem? (i := 700) (by decide +kernel)⟩
theorem lw_p36 : lw_okq (⟨"NetShapeModel", "isSeen", "(I)Z"⟩, 21) := ⟨⟨by decide +kernel, by decide +kernel⟩, List.mem_of_getElem? (i := 529) (by decide +kernel), List.mem_of_getElem? (i := 715) (by decide +kernel), List.mem_of_getElem? (i := 716) (by decide +kernel)⟩
theorem lw_p37 : lw_okq (⟨"NetShapeModel", "canFit", "(I)Z"⟩, 21) := ⟨⟨by decide +kernel, by decide +kernel⟩, List.mem_of_getElem? (i := 529) (by decide +kernel), List.mem_of_getElem? (i := 730) (by decide +kernel), List.mem_of_getElem? (i := 731) (by decide +kernel)⟩
theorem lw_p38 : lw_okq (⟨"NetShapeModel", "findNext", "()Z"⟩, 21) := ⟨⟨by decide +kernel, by decide +kernel⟩, List.mem_of_getElem? (i := 529) (by decide +kernel), List.mem_of_getElem? (i := 738) (by decide +kernel), List.mem_of_getElem? (i := 739) (by decide +kernel)⟩
theorem lw_p39 : lw_okq (⟨"NetShapeModel", "greatestHeap", "(I)I"⟩, 21) := ⟨⟨by decide +kernel, by decide +kernel⟩, List.mem_of_getElem? (i := 529) (by decide +kernel), List.mem_of_getElem? (i := 742) (by decide +kernel), List.mem_of_getElem? (i := 743) (by decide +kernel)⟩
def lw_privs_3 : List (MethodName × Nat) := [(⟨"NetShapeModel", "layLines", "(I)V"⟩, 21), (⟨"NetShapeModel", "lineMany", "()I"⟩, 21), (⟨"NetShapeModel", "keep", "()V"⟩, 21), (⟨"NetShapeModel", "goOn", "(I)Z"⟩, 21), (⟨"NetShapeModel", "isSeen", "(I)Z"⟩, 21), (⟨"NetShapeModel", "canFit", "(I)Z"⟩, 21), (⟨"NetShapeModel", "findNext", "()Z"⟩, 21), (⟨"NetShapeModel", "greatestHeap", "(I)I"⟩, 21)]
theorem lw_r3 : ∀ q ∈ lw_privs_3, lw_okq q := List.forall_mem_cons.mpr ⟨lw_p32, List.forall_mem_cons.mpr ⟨lw_p33, List.forall_mem_cons.mpr ⟨lw_p34, List.forall_mem_cons.mpr ⟨lw_p35, List.forall_mem_cons.mpr ⟨lw_p36, List.forall_mem_cons.mpr ⟨lw_p37, List.forall_mem_cons.mpr ⟨lw_p38, List.forall_mem_cons.mpr ⟨lw_p39, fun _ h => absurd h List.not_mem_nil⟩⟩⟩⟩⟩⟩⟩⟩
def lw_privs : List (MethodName × Nat) := lw_privs_1 ++ (lw_privs_2 ++ (lw_privs_3))
def lw_tbl : List Cond := k2_sels lw_privs ++ tables_1
theorem lw_privs_ok : ∀ q ∈ lw_privs, lw_okq q := by
  show ∀ q ∈ lw_privs_1 ++ (lw_privs_2 ++ (lw_privs_3)), lw_okq q
  exact List.forall_mem_append.mpr ⟨lw_r1, List.forall_mem_append.mpr ⟨lw_r2, lw_r3⟩⟩

def RX0 : String := "NetShape$LeastNets"
def TX0 : u_T := fun k => match k with
  | 0 => ("NetShape$LeastNets", "rows", "LNetShape$Rows;", true)
  | 1 => ("NetShape$LeastNets", "told", "LNetShape$Told;", true)
  | 2 => ("NetShape$LeastNets", "net", "LNetShape$Net;", true)
  | 3 => ("NetShape$LeastNets", "codes", "[I", true)
  | 4 => ("NetShape$LeastNets", "found", "Z", false)
  | 5 => ("NetShape$LeastNets", "many", "I", false)
  | 6 => ("NetShape$LeastNets", "newBoxes", "I", false)
  | 7 => ("NetShape$LeastNets", "lines", "I", false)
  | 8 => ("NetShape$LeastNets", "silents", "I", false)
  | _ => ("NetShape$LeastNets", "nameBoxes", "I", false)
def tyX0 : Nat → FieldType := fun k => match k with
  | 0 => .object "NetShape$Rows"
  | 1 => .object "NetShape$Told"
  | 2 => .object "NetShape$Net"
  | 3 => .array .int
  | 4 => .boolean
  | 5 => .int
  | 6 => .int
  | 7 => .int
  | 8 => .int
  | _ => .int
abbrev wsX00 : List Cond := u_ws RX0 TX0 10
theorem nmX0 : ∀ a, a < 10 → ∀ b, b < 10 → a ≠ b → (TX0 a).2.1 ≠ (TX0 b).2.1 := by decide +kernel
theorem tyX0_ok : ∀ k, k < 10 → parseFieldDescriptor (TX0 k).2.2.1 = some (tyX0 k) := by decide +kernel
abbrev cX0_init : ByteArray := prog_2_method_1_code
def yX0_init : MethodName := ⟨RX0, "<init>", "(LNetShape$Rows;LNetShape$Told;LNetShape$Net;)V"⟩
abbrev cX0_forgetFound : ByteArray := prog_2_method_2_code
def yX0_forgetFound : MethodName := ⟨RX0, "forgetFound", "()V"⟩
abbrev cX0_many : ByteArray := prog_2_method_3_code
def yX0_many : MethodName := ⟨RX0, "many", "()I"⟩
abbrev cX0_newBoxes : ByteArray := prog_2_method_4_code
def yX0_newBoxes : MethodName := ⟨RX0, "newBoxes", "()I"⟩
abbrev cX0_lines : ByteArray := prog_2_method_5_code
def yX0_lines : MethodName := ⟨RX0, "lines", "()I"⟩
abbrev cX0_code : ByteArray := prog_2_method_6_code
def yX0_code : MethodName := ⟨RX0, "code", "(I)I"⟩
abbrev cX0_someFits : ByteArray := prog_2_method_7_code
def yX0_someFits : MethodName := ⟨RX0, "someFits", "(I)Z"⟩
abbrev cX0_seek : ByteArray := prog_2_method_8_code
def yX0_seek : MethodName := ⟨RX0, "seek", "(LNetShape$LeastNets;II)V"⟩
abbrev cX0_mayTake : ByteArray := prog_2_method_9_code
def yX0_mayTake : MethodName := ⟨RX0, "mayTake", "(II)Z"⟩
abbrev cX0_keep : ByteArray := prog_2_method_10_code
def yX0_keep : MethodName := ⟨RX0, "keep", "(I)V"⟩
def RX1 : String := "NetShape$Net"
def TX1 : u_T := fun k => match k with
  | 0 => ("NetShape$Net", "rows", "LNetShape$Rows;", true)
  | 1 => ("NetShape$Net", "told", "LNetShape$Told;", true)
  | 2 => ("NetShape$Net", "silentBoxes", "[I", true)
  | _ => ("NetShape$Net", "joined", "[I", true)
def tyX1 : Nat → FieldType := fun k => match k with
  | 0 => .object "NetShape$Rows"
  | 1 => .object "NetShape$Told"
  | 2 => .array .int
  | _ => .array .int
abbrev wsX10 : List Cond := u_ws RX1 TX1 4
theorem nmX1 : ∀ a, a < 4 → ∀ b, b < 4 → a ≠ b → (TX1 a).2.1 ≠ (TX1 b).2.1 := by decide +kernel
theorem tyX1_ok : ∀ k, k < 4 → parseFieldDescriptor (TX1 k).2.2.1 = some (tyX1 k) := by decide +kernel
abbrev cX1_init : ByteArray := prog_3_method_1_code
def yX1_init : MethodName := ⟨RX1, "<init>", "(LNetShape$Rows;LNetShape$Told;)V"⟩
abbrev cX1_place : ByteArray := prog_3_method_2_code
def yX1_place : MethodName := ⟨RX1, "place", "(III)V"⟩
abbrev cX1_loosen : ByteArray := prog_3_method_3_code
def yX1_loosen : MethodName := ⟨RX1, "loosen", "(II)V"⟩
abbrev cX1_code : ByteArray := prog_3_method_4_code
def yX1_code : MethodName := ⟨RX1, "code", "()I"⟩
abbrev cX1_takeUp : ByteArray := prog_3_method_5_code
def yX1_takeUp : MethodName := ⟨RX1, "takeUp", "(I)V"⟩
abbrev cX1_fits : ByteArray := prog_3_method_6_code
def yX1_fits : MethodName := ⟨RX1, "fits", "(I)Z"⟩
abbrev cX1_isShortest : ByteArray := prog_3_method_7_code
def yX1_isShortest : MethodName := ⟨RX1, "isShortest", "(I)Z"⟩
abbrev cX1_draw : ByteArray := prog_3_method_8_code
def yX1_draw : MethodName := ⟨RX1, "draw", "(II)Z"⟩
abbrev cX1_silentBox : ByteArray := prog_3_method_9_code
def yX1_silentBox : MethodName := ⟨RX1, "silentBox", "(I)I"⟩
abbrev cX1_join : ByteArray := prog_3_method_10_code
def yX1_join : MethodName := ⟨RX1, "join", "(II)V"⟩
abbrev cX1_joinedWith : ByteArray := prog_3_method_11_code
def yX1_joinedWith : MethodName := ⟨RX1, "joinedWith", "(I)I"⟩
abbrev cX1_lines : ByteArray := prog_3_method_12_code
def yX1_lines : MethodName := ⟨RX1, "lines", "()I"⟩
abbrev cX1_way : ByteArray := prog_3_method_13_code
def yX1_way : MethodName := ⟨RX1, "way", "(II)I"⟩
def RX2 : String := "NetShape$Rows"
def TX2 : u_T := fun k => match k with
  | 0 => ("NetShape$Rows", "hops", "[I", true)
  | 1 => ("NetShape$Rows", "lengths", "[I", true)
  | _ => ("NetShape$Rows", "traces", "I", false)
def tyX2 : Nat → FieldType := fun k => match k with
  | 0 => .array .int
  | 1 => .array .int
  | _ => .int
abbrev wsX20 : List Cond := u_ws RX2 TX2 3
theorem nmX2 : ∀ a, a < 3 → ∀ b, b < 3 → a ≠ b → (TX2 a).2.1 ≠ (TX2 b).2.1 := by decide +kernel
theorem tyX2_ok : ∀ k, k < 3 → parseFieldDescriptor (TX2 k).2.2.1 = some (tyX2 k) := by decide +kernel
abbrev cX2_init : ByteArray := prog_4_method_1_code
def yX2_init : MethodName := ⟨RX2, "<init>", "()V"⟩
abbrev cX2_traces : ByteArray := prog_4_method_2_code
def yX2_traces : MethodName := ⟨RX2, "traces", "()I"⟩
abbrev cX2_all : ByteArray := prog_4_method_3_code
def yX2_all : MethodName := ⟨RX2, "all", "()I"⟩
abbrev cX2_length : ByteArray := prog_4_method_4_code
def yX2_length : MethodName := ⟨RX2, "length", "(I)I"⟩
abbrev cX2_hopAt : ByteArray := prog_4_method_5_code
def yX2_hopAt : MethodName := ⟨RX2, "hopAt", "(II)I"⟩
abbrev cX2_has : ByteArray := prog_4_method_6_code
def yX2_has : MethodName := ⟨RX2, "has", "(II)Z"⟩
abbrev cX2_silentsIn : ByteArray := prog_4_method_7_code
def yX2_silentsIn : MethodName := ⟨RX2, "silentsIn", "(I)I"⟩
abbrev cX2_silents : ByteArray := prog_4_method_8_code
def yX2_silents : MethodName := ⟨RX2, "silents", "()I"⟩
abbrev cX2_names : ByteArray := prog_4_method_9_code
def yX2_names : MethodName := ⟨RX2, "names", "()I"⟩
abbrev cX2_append : ByteArray := prog_4_method_10_code
def yX2_append : MethodName := ⟨RX2, "append", "(II)V"⟩
abbrev cX2_empty : ByteArray := prog_4_method_11_code
def yX2_empty : MethodName := ⟨RX2, "empty", "(I)V"⟩
abbrev cX2_keepHand : ByteArray := prog_4_method_12_code
def yX2_keepHand : MethodName := ⟨RX2, "keepHand", "()V"⟩
abbrev cX2_remove : ByteArray := prog_4_method_13_code
def yX2_remove : MethodName := ⟨RX2, "remove", "(I)V"⟩
abbrev cX2_copy : ByteArray := prog_4_method_14_code
def yX2_copy : MethodName := ⟨RX2, "copy", "(II)V"⟩
def RX3 : String := "NetShape$Survey"
def TX3 : u_T := fun k => match k with
  | 0 => ("NetShape$Survey", "rows", "LNetShape$Rows;", true)
  | 1 => ("NetShape$Survey", "told", "LNetShape$Told;", true)
  | 2 => ("NetShape$Survey", "net", "LNetShape$Net;", true)
  | 3 => ("NetShape$Survey", "least", "LNetShape$LeastNets;", true)
  | 4 => ("NetShape$Survey", "everJoined", "[I", true)
  | 5 => ("NetShape$Survey", "alwaysJoined", "[I", true)
  | 6 => ("NetShape$Survey", "heaps", "[I", true)
  | 7 => ("NetShape$Survey", "made", "Z", false)
  | 8 => ("NetShape$Survey", "bestPair", "I", false)
  | _ => ("NetShape$Survey", "bestHeap", "I", false)
def tyX3 : Nat → FieldType := fun k => match k with
  | 0 => .object "NetShape$Rows"
  | 1 => .object "NetShape$Told"
  | 2 => .object "NetShape$Net"
  | 3 => .object "NetShape$LeastNets"
  | 4 => .array .int
  | 5 => .array .int
  | 6 => .array .int
  | 7 => .boolean
  | 8 => .int
  | _ => .int
abbrev wsX30 : List Cond := u_ws RX3 TX3 10
theorem nmX3 : ∀ a, a < 10 → ∀ b, b < 10 → a ≠ b → (TX3 a).2.1 ≠ (TX3 b).2.1 := by decide +kernel
theorem tyX3_ok : ∀ k, k < 10 → parseFieldDescriptor (TX3 k).2.2.1 = some (tyX3 k) := by decide +kernel
abbrev cX3_init : ByteArray := prog_5_method_1_code
def yX3_init : MethodName := ⟨RX3, "<init>", "(LNetShape$Rows;LNetShape$Told;LNetShape$Net;LNetShape$LeastNets;)V"⟩
abbrev cX3_forgetMade : ByteArray := prog_5_method_2_code
def yX3_forgetMade : MethodName := ⟨RX3, "forgetMade", "()V"⟩
abbrev cX3_bestPair : ByteArray := prog_5_method_3_code
def yX3_bestPair : MethodName := ⟨RX3, "bestPair", "()I"⟩
abbrev cX3_bestHeap : ByteArray := prog_5_method_4_code
def yX3_bestHeap : MethodName := ⟨RX3, "bestHeap", "()I"⟩
abbrev cX3_wayIn : ByteArray := prog_5_method_5_code
def yX3_wayIn : MethodName := ⟨RX3, "wayIn", "(III)I"⟩
abbrev cX3_lineBetween : ByteArray := prog_5_method_6_code
def yX3_lineBetween : MethodName := ⟨RX3, "lineBetween", "(II)I"⟩
abbrev cX3_make : ByteArray := prog_5_method_7_code
def yX3_make : MethodName := ⟨RX3, "make", "()V"⟩
abbrev cX3_addLines : ByteArray := prog_5_method_8_code
def yX3_addLines : MethodName := ⟨RX3, "addLines", "()V"⟩
abbrev cX3_addWays : ByteArray := prog_5_method_9_code
def yX3_addWays : MethodName := ⟨RX3, "addWays", "(I)V"⟩
abbrev cX3_addToHeap : ByteArray := prog_5_method_10_code
def yX3_addToHeap : MethodName := ⟨RX3, "addToHeap", "(III)V"⟩
abbrev cX3_choosePair : ByteArray := prog_5_method_11_code
def yX3_choosePair : MethodName := ⟨RX3, "choosePair", "(I)V"⟩
abbrev cX3_choose : ByteArray := prog_5_method_12_code
def yX3_choose : MethodName := ⟨RX3, "choose", "(II)V"⟩
abbrev cX3_greatestHeap : ByteArray := prog_5_method_13_code
def yX3_greatestHeap : MethodName := ⟨RX3, "greatestHeap", "(II)I"⟩
def RX4 : String := "NetShape$Told"
def TX4 : u_T := fun k => match k with
  | 0 => ("NetShape$Told", "leasts", "[I", true)
  | 1 => ("NetShape$Told", "aparts", "[I", true)
  | _ => ("NetShape$Told", "times", "I", false)
def tyX4 : Nat → FieldType := fun k => match k with
  | 0 => .array .int
  | 1 => .array .int
  | _ => .int
abbrev wsX40 : List Cond := u_ws RX4 TX4 3
theorem nmX4 : ∀ a, a < 3 → ∀ b, b < 3 → a ≠ b → (TX4 a).2.1 ≠ (TX4 b).2.1 := by decide +kernel
theorem tyX4_ok : ∀ k, k < 3 → parseFieldDescriptor (TX4 k).2.2.1 = some (tyX4 k) := by decide +kernel
abbrev cX4_init : ByteArray := prog_6_method_1_code
def yX4_init : MethodName := ⟨RX4, "<init>", "()V"⟩
abbrev cX4_times : ByteArray := prog_6_method_2_code
def yX4_times : MethodName := ⟨RX4, "times", "()I"⟩
abbrev cX4_clear : ByteArray := prog_6_method_3_code
def yX4_clear : MethodName := ⟨RX4, "clear", "()V"⟩
abbrev cX4_box : ByteArray := prog_6_method_4_code
def yX4_box : MethodName := ⟨RX4, "box", "(I)I"⟩
abbrev cX4_boxes : ByteArray := prog_6_method_5_code
def yX4_boxes : MethodName := ⟨RX4, "boxes", "(I)I"⟩
abbrev cX4_areOneBox : ByteArray := prog_6_method_6_code
def yX4_areOneBox : MethodName := ⟨RX4, "areOneBox", "(II)Z"⟩
abbrev cX4_areToldApart : ByteArray := prog_6_method_7_code
def yX4_areToldApart : MethodName := ⟨RX4, "areToldApart", "(II)Z"⟩
abbrev cX4_haveBoxesApart : ByteArray := prog_6_method_8_code
def yX4_haveBoxesApart : MethodName := ⟨RX4, "haveBoxesApart", "(II)Z"⟩
abbrev cX4_add : ByteArray := prog_6_method_9_code
def yX4_add : MethodName := ⟨RX4, "add", "(IIZ)V"⟩
abbrev cX4_makeOne : ByteArray := prog_6_method_10_code
def yX4_makeOne : MethodName := ⟨RX4, "makeOne", "(II)V"⟩
abbrev cX4_setApart : ByteArray := prog_6_method_11_code
def yX4_setApart : MethodName := ⟨RX4, "setApart", "(II)V"⟩
def RX5 : String := "NetShape"
def TX5 : u_T := fun k => match k with
  | 0 => ("NetShape", "rows", "LNetShape$Rows;", true)
  | 1 => ("NetShape", "told", "LNetShape$Told;", true)
  | 2 => ("NetShape", "least", "LNetShape$LeastNets;", true)
  | _ => ("NetShape", "survey", "LNetShape$Survey;", true)
def tyX5 : Nat → FieldType := fun k => match k with
  | 0 => .object "NetShape$Rows"
  | 1 => .object "NetShape$Told"
  | 2 => .object "NetShape$LeastNets"
  | _ => .object "NetShape$Survey"
abbrev wsX50 : List Cond := u_ws RX5 TX5 4
theorem nmX5 : ∀ a, a < 4 → ∀ b, b < 4 → a ≠ b → (TX5 a).2.1 ≠ (TX5 b).2.1 := by decide +kernel
theorem tyX5_ok : ∀ k, k < 4 → parseFieldDescriptor (TX5 k).2.2.1 = some (tyX5 k) := by decide +kernel
abbrev cX5_init : ByteArray := prog_1_method_1_code
def yX5_init : MethodName := ⟨RX5, "<init>", "()V"⟩
abbrev cX5_hop : ByteArray := prog_1_method_2_code
def yX5_hop : MethodName := ⟨RX5, "hop", "(I)I"⟩
abbrev cX5_drop : ByteArray := prog_1_method_3_code
def yX5_drop : MethodName := ⟨RX5, "drop", "()I"⟩
abbrev cX5_trace : ByteArray := prog_1_method_4_code
def yX5_trace : MethodName := ⟨RX5, "trace", "()I"⟩
abbrev cX5_forget : ByteArray := prog_1_method_5_code
def yX5_forget : MethodName := ⟨RX5, "forget", "(I)I"⟩
abbrev cX5_tell : ByteArray := prog_1_method_6_code
def yX5_tell : MethodName := ⟨RX5, "tell", "(IIZ)I"⟩
abbrev cX5_untell : ByteArray := prog_1_method_7_code
def yX5_untell : MethodName := ⟨RX5, "untell", "()I"⟩
abbrev cX5_at : ByteArray := prog_1_method_8_code
def yX5_at : MethodName := ⟨RX5, "at", "(II)I"⟩
abbrev cX5_nets : ByteArray := prog_1_method_9_code
def yX5_nets : MethodName := ⟨RX5, "nets", "()I"⟩
abbrev cX5_shape : ByteArray := prog_1_method_10_code
def yX5_shape : MethodName := ⟨RX5, "shape", "(I)I"⟩
abbrev cX5_boxOf : ByteArray := prog_1_method_11_code
def yX5_boxOf : MethodName := ⟨RX5, "boxOf", "(II)I"⟩
abbrev cX5_far : ByteArray := prog_1_method_12_code
def yX5_far : MethodName := ⟨RX5, "far", "(III)I"⟩
abbrev cX5_sure : ByteArray := prog_1_method_13_code
def yX5_sure : MethodName := ⟨RX5, "sure", "(II)I"⟩
abbrev cX5_falses : ByteArray := prog_1_method_14_code
def yX5_falses : MethodName := ⟨RX5, "falses", "()I"⟩
abbrev cX5_next : ByteArray := prog_1_method_15_code
def yX5_next : MethodName := ⟨RX5, "next", "()I"⟩
abbrev cX5_worst : ByteArray := prog_1_method_16_code
def yX5_worst : MethodName := ⟨RX5, "worst", "()I"⟩
abbrev cX5_count : ByteArray := prog_1_method_17_code
def yX5_count : MethodName := ⟨RX5, "count", "(I)I"⟩
abbrev cX5_forgetAnswers : ByteArray := prog_1_method_18_code
def yX5_forgetAnswers : MethodName := ⟨RX5, "forgetAnswers", "()V"⟩
abbrev cX5_isTrace : ByteArray := prog_1_method_19_code
def yX5_isTrace : MethodName := ⟨RX5, "isTrace", "(I)Z"⟩
abbrev cX5_isNet : ByteArray := prog_1_method_20_code
def yX5_isNet : MethodName := ⟨RX5, "isNet", "(I)Z"⟩
abbrev cX5_isTraced : ByteArray := prog_1_method_21_code
def yX5_isTraced : MethodName := ⟨RX5, "isTraced", "(I)Z"⟩
abbrev cX5_boxesOfNames : ByteArray := prog_1_method_22_code
def yX5_boxesOfNames : MethodName := ⟨RX5, "boxesOfNames", "()I"⟩
abbrev cX5_isName : ByteArray := prog_1_method_23_code
def yX5_isName : MethodName := ⟨RX5, "isName", "(I)Z"⟩
abbrev cX5_isBox : ByteArray := prog_1_method_24_code
def yX5_isBox : MethodName := ⟨RX5, "isBox", "(I)Z"⟩
abbrev cX5_hasBit : ByteArray := prog_1_method_25_code
def yX5_hasBit : MethodName := ⟨RX5, "hasBit", "(II)Z"⟩
abbrev cX5_boxIn : ByteArray := prog_1_method_26_code
def yX5_boxIn : MethodName := ⟨RX5, "boxIn", "(II)I"⟩
def RX6 : String := "NetShapeModel"
def TX6 : u_T := fun k => match k with
  | 0 => ("NetShapeModel", "traces", "I", false)
  | 1 => ("NetShapeModel", "size", "[I", true)
  | 2 => ("NetShapeModel", "hops", "[I", true)
  | 3 => ("NetShapeModel", "handSize", "I", false)
  | 4 => ("NetShapeModel", "hand", "[I", true)
  | 5 => ("NetShapeModel", "box", "[I", true)
  | 6 => ("NetShapeModel", "apart", "[Z", true)
  | 7 => ("NetShapeModel", "tells", "I", false)
  | 8 => ("NetShapeModel", "choice", "[I", true)
  | 9 => ("NetShapeModel", "place", "[I", true)
  | 10 => ("NetShapeModel", "line", "[Z", true)
  | 11 => ("NetShapeModel", "far", "[I", true)
  | 12 => ("NetShapeModel", "silents", "I", false)
  | 13 => ("NetShapeModel", "nets", "I", false)
  | 14 => ("NetShapeModel", "fewestBoxes", "I", false)
  | 15 => ("NetShapeModel", "fewestLines", "I", false)
  | 16 => ("NetShapeModel", "boxes", "[I", true)
  | 17 => ("NetShapeModel", "fars", "[I", true)
  | 18 => ("NetShapeModel", "lines", "[Z", true)
  | 19 => ("NetShapeModel", "bestPair", "I", false)
  | _ => ("NetShapeModel", "bestHeap", "I", false)
def tyX6 : Nat → FieldType := fun k => match k with
  | 0 => .int
  | 1 => .array .int
  | 2 => .array .int
  | 3 => .int
  | 4 => .array .int
  | 5 => .array .int
  | 6 => .array .boolean
  | 7 => .int
  | 8 => .array .int
  | 9 => .array .int
  | 10 => .array .boolean
  | 11 => .array .int
  | 12 => .int
  | 13 => .int
  | 14 => .int
  | 15 => .int
  | 16 => .array .int
  | 17 => .array .int
  | 18 => .array .boolean
  | 19 => .int
  | _ => .int
abbrev wsX60 : List Cond := u_ws RX6 TX6 21
theorem nmX6 : ∀ a, a < 21 → ∀ b, b < 21 → a ≠ b → (TX6 a).2.1 ≠ (TX6 b).2.1 := by decide +kernel
theorem tyX6_ok : ∀ k, k < 21 → parseFieldDescriptor (TX6 k).2.2.1 = some (tyX6 k) := by decide +kernel
abbrev cX6_init : ByteArray := prog_8_method_1_code
def yX6_init : MethodName := ⟨RX6, "<init>", "()V"⟩
abbrev cX6_in : ByteArray := prog_8_method_2_code
def yX6_in : MethodName := ⟨RX6, "in", "(III)Z"⟩
abbrev cX6_isName : ByteArray := prog_8_method_3_code
def yX6_isName : MethodName := ⟨RX6, "isName", "(I)Z"⟩
abbrev cX6_silentOf : ByteArray := prog_8_method_4_code
def yX6_silentOf : MethodName := ⟨RX6, "silentOf", "(I)I"⟩
abbrev cX6_silentMany : ByteArray := prog_8_method_5_code
def yX6_silentMany : MethodName := ⟨RX6, "silentMany", "()I"⟩
abbrev cX6_hop : ByteArray := prog_8_method_6_code
def yX6_hop : MethodName := ⟨RX6, "hop", "(I)I"⟩
abbrev cX6_drop : ByteArray := prog_8_method_7_code
def yX6_drop : MethodName := ⟨RX6, "drop", "()I"⟩
abbrev cX6_trace : ByteArray := prog_8_method_8_code
def yX6_trace : MethodName := ⟨RX6, "trace", "()I"⟩
abbrev cX6_forget : ByteArray := prog_8_method_9_code
def yX6_forget : MethodName := ⟨RX6, "forget", "(I)I"⟩
abbrev cX6_tell : ByteArray := prog_8_method_10_code
def yX6_tell : MethodName := ⟨RX6, "tell", "(IIZ)I"⟩
abbrev cX6_untell : ByteArray := prog_8_method_11_code
def yX6_untell : MethodName := ⟨RX6, "untell", "()I"⟩
abbrev cX6_at : ByteArray := prog_8_method_12_code
def yX6_at : MethodName := ⟨RX6, "at", "(II)I"⟩
abbrev cX6_isThere : ByteArray := prog_8_method_13_code
def yX6_isThere : MethodName := ⟨RX6, "isThere", "(II)Z"⟩
abbrev cX6_isBoxThere : ByteArray := prog_8_method_14_code
def yX6_isBoxThere : MethodName := ⟨RX6, "isBoxThere", "(II)Z"⟩
abbrev cX6_boxMany : ByteArray := prog_8_method_15_code
def yX6_boxMany : MethodName := ⟨RX6, "boxMany", "(I)I"⟩
abbrev cX6_layPlaces : ByteArray := prog_8_method_16_code
def yX6_layPlaces : MethodName := ⟨RX6, "layPlaces", "(I)V"⟩
abbrev cX6_layLines : ByteArray := prog_8_method_17_code
def yX6_layLines : MethodName := ⟨RX6, "layLines", "(I)V"⟩
abbrev cX6_hasOnce : ByteArray := prog_8_method_18_code
def yX6_hasOnce : MethodName := ⟨RX6, "hasOnce", "(I)Z"⟩
abbrev cX6_fits : ByteArray := prog_8_method_19_code
def yX6_fits : MethodName := ⟨RX6, "fits", "(I)Z"⟩
abbrev cX6_begin : ByteArray := prog_8_method_20_code
def yX6_begin : MethodName := ⟨RX6, "begin", "(I)V"⟩
abbrev cX6_raise : ByteArray := prog_8_method_21_code
def yX6_raise : MethodName := ⟨RX6, "raise", "(II)Z"⟩
abbrev cX6_goOn : ByteArray := prog_8_method_22_code
def yX6_goOn : MethodName := ⟨RX6, "goOn", "(I)Z"⟩
abbrev cX6_newMany : ByteArray := prog_8_method_23_code
def yX6_newMany : MethodName := ⟨RX6, "newMany", "()I"⟩
abbrev cX6_lineMany : ByteArray := prog_8_method_24_code
def yX6_lineMany : MethodName := ⟨RX6, "lineMany", "()I"⟩
abbrev cX6_keep : ByteArray := prog_8_method_25_code
def yX6_keep : MethodName := ⟨RX6, "keep", "()V"⟩
abbrev cX6_findNets : ByteArray := prog_8_method_26_code
def yX6_findNets : MethodName := ⟨RX6, "findNets", "()V"⟩
abbrev cX6_nets : ByteArray := prog_8_method_27_code
def yX6_nets : MethodName := ⟨RX6, "nets", "()I"⟩
abbrev cX6_shape : ByteArray := prog_8_method_28_code
def yX6_shape : MethodName := ⟨RX6, "shape", "(I)I"⟩
abbrev cX6_boxOf : ByteArray := prog_8_method_29_code
def yX6_boxOf : MethodName := ⟨RX6, "boxOf", "(II)I"⟩
abbrev cX6_isSeen : ByteArray := prog_8_method_30_code
def yX6_isSeen : MethodName := ⟨RX6, "isSeen", "(I)Z"⟩
abbrev cX6_far : ByteArray := prog_8_method_31_code
def yX6_far : MethodName := ⟨RX6, "far", "(III)I"⟩
abbrev cX6_sure : ByteArray := prog_8_method_32_code
def yX6_sure : MethodName := ⟨RX6, "sure", "(II)I"⟩
abbrev cX6_canFit : ByteArray := prog_8_method_33_code
def yX6_canFit : MethodName := ⟨RX6, "canFit", "(I)Z"⟩
abbrev cX6_ones : ByteArray := prog_8_method_34_code
def yX6_ones : MethodName := ⟨RX6, "ones", "(I)I"⟩
abbrev cX6_falses : ByteArray := prog_8_method_35_code
def yX6_falses : MethodName := ⟨RX6, "falses", "()I"⟩
abbrev cX6_greatestHeap : ByteArray := prog_8_method_36_code
def yX6_greatestHeap : MethodName := ⟨RX6, "greatestHeap", "(I)I"⟩
abbrev cX6_findNext : ByteArray := prog_8_method_37_code
def yX6_findNext : MethodName := ⟨RX6, "findNext", "()Z"⟩
abbrev cX6_next : ByteArray := prog_8_method_38_code
def yX6_next : MethodName := ⟨RX6, "next", "()I"⟩
abbrev cX6_worst : ByteArray := prog_8_method_39_code
def yX6_worst : MethodName := ⟨RX6, "worst", "()I"⟩
abbrev cX6_count : ByteArray := prog_8_method_40_code
def yX6_count : MethodName := ⟨RX6, "count", "(I)I"⟩
def RJ6 : String := "java/lang/Integer"
def TJ6 : u_T := fun k => match k with
  | _ => ("", "", "", false)
def tyJ6 : Nat → FieldType := fun k => match k with
  | _ => .int
abbrev wsJ60 : List Cond := u_ws RJ6 TJ6 0
theorem nmJ6 : ∀ a, a < 0 → ∀ b, b < 0 → a ≠ b → (TJ6 a).2.1 ≠ (TJ6 b).2.1 := by decide +kernel
theorem tyJ6_ok : ∀ k, k < 0 → parseFieldDescriptor (TJ6 k).2.2.1 = some (tyJ6 k) := by decide +kernel
abbrev cJ6_bitCount_0f7a4 : ByteArray := prog_9_method_49_code
def yJ6_bitCount_0f7a4 : MethodName := ⟨RJ6, "bitCount", "(I)I"⟩
def RJ9 : String := "java/lang/Math"
def TJ9 : u_T := fun k => match k with
  | _ => ("", "", "", false)
def tyJ9 : Nat → FieldType := fun k => match k with
  | _ => .int
abbrev wsJ90 : List Cond := u_ws RJ9 TJ9 0
theorem nmJ9 : ∀ a, a < 0 → ∀ b, b < 0 → a ≠ b → (TJ9 a).2.1 ≠ (TJ9 b).2.1 := by decide +kernel
theorem tyJ9_ok : ∀ k, k < 0 → parseFieldDescriptor (TJ9 k).2.2.1 = some (tyJ9 k) := by decide +kernel
abbrev cJ9_max_7cf53 : ByteArray := prog_10_method_65_code
def yJ9_max_7cf53 : MethodName := ⟨RJ9, "max", "(II)I"⟩
abbrev cJ9_min_7cf53 : ByteArray := prog_10_method_69_code
def yJ9_min_7cf53 : MethodName := ⟨RJ9, "min", "(II)I"⟩
def RJ7 : String := "java/util/Arrays"
def TJ7 : u_T := fun k => match k with
  | _ => ("", "", "", false)
def tyJ7 : Nat → FieldType := fun k => match k with
  | _ => .int
abbrev wsJ70 : List Cond := u_ws RJ7 TJ7 0
theorem nmJ7 : ∀ a, a < 0 → ∀ b, b < 0 → a ≠ b → (TJ7 a).2.1 ≠ (TJ7 b).2.1 := by decide +kernel
theorem tyJ7_ok : ∀ k, k < 0 → parseFieldDescriptor (TJ7 k).2.2.1 = some (tyJ7 k) := by decide +kernel
abbrev cJ7_fill_53178 : ByteArray := prog_11_method_103_code
def yJ7_fill_53178 : MethodName := ⟨RJ7, "fill", "([II)V"⟩
def RL : String := "NetShapeLaw"
abbrev cL_law : ByteArray := code
def yL_law : MethodName := ⟨RL, "law", "([I)Z"⟩
abbrev vwCl : List vw_C := [(RX0, TX0, 10), (RX1, TX1, 4), (RX2, TX2, 3), (RX3, TX3, 10), (RX4, TX4, 3), (RX5, TX5, 4), (RX6, TX6, 21)]
end
section
/-! A PURE MACHINE over a fixed layout of cells: numbers are Int, memory is cell -> place (an Int) -> Int; 'xs' is one instruction as a predicate transformer, 'xw' many. Then: what it says holds of the machine itself. -/
abbrev xV : Type := Int ⊕ Nat
abbrev xM : Type := Nat → Int → Int
abbrev xL : Type := List (Option xV)
abbrev xD : Type := (Nat × List (Option Nat)) ⊕ (Nat × Nat)
abbrev xG : Type := Nat → xL → List xV → xM → Prop
abbrev xR : Type := Int → xM → Prop
abbrev xT : Type := List xV → xM → xR → Prop
/-- by the pool's number: static, how many values it takes, void, what it asks -/
abbrev xCal : Type := List (Nat × Bool × Nat × Bool × xT)
abbrev xFld : Type := List (Nat × Nat × Int × Nat)
abbrev xCst : Type := List (Nat × Int)
def xi (v : Int) : Int32 := Int32.ofInt v
def rg (v : Int) : Prop := -2147483648 ≤ v ∧ v < 2147483648
def xup (M : xM) (c : Nat) (k : Int) (v : Int) : xM := fun c' k' => if c' = c ∧ k' = k then v else M c' k'
def xlk {α : Type} : List (Nat × α) → Nat → Option α
  | [], _ => none
  | q :: r, k => bif Nat.beq q.1 k then some q.2 else xlk r k
theorem xlk_mem {α : Type} {l : List (Nat × α)} {k : Nat} {v : α} (h : xlk l k = some v) : (k, v) ∈ l := by
  induction l with
  | nil => cases h
  | cons q r ih =>
    obtain ⟨a, b⟩ := q
    simp only [xlk] at h
    cases hb : Nat.beq a k with
    | true =>
      rw [hb] at h
      cases h
      have := Nat.eq_of_beq_eq_true hb
      subst this
      exact List.mem_cons_self
    | false =>
      rw [hb] at h
      exact List.mem_cons_of_mem _ (ih h)
def xbr (cnd : ClassFile.Cond) (a b : Int) (tt ff : Prop) : Prop := match cnd with
  | .eq => (a = b → tt) ∧ (a ≠ b → ff)
  | .ne => (a ≠ b → tt) ∧ (a = b → ff)
  | .lt => (a < b → tt) ∧ (b ≤ a → ff)
  | .ge => (b ≤ a → tt) ∧ (a < b → ff)
  | .gt => (b < a → tt) ∧ (a ≤ b → ff)
  | .le => (a ≤ b → tt) ∧ (b < a → ff)
def xtab (x : Int) (go : Nat → Prop) : Int → List Nat → Prop
  | _, [] => True
  | v, o :: r => (x = v → go o) ∧ xtab x go (v + 1) r
def xb01 (b : Nat) (x : Int) (P : Prop) : Prop := match b with
  | 0 => P
  | 1 => (x = 0 ∨ x = 1) ∧ P
  | _ => False
/-- one instruction -/
def xs (L : List xD) (fld : xFld) (cals : xCal) (cst : xCst) (rt : Nat) (Rt : xR) (go : xG) (ins : Instr) (tg : List Nat) (pc : Nat) (lv : xL) (st : List xV) (M : xM) : Prop := match ins with
  | .iconst n => go (pc + 1) lv (.inl n :: st) M
  | .bipush n => go (pc + 2) lv (.inl n :: st) M
  | .sipush n => go (pc + 3) lv (.inl n :: st) M
  | .ldc_w k => match xlk cst k with
    | some v => go (pc + 3) lv (.inl v :: st) M
    | none => False
  | .iload_n k => match lv[k.val]? with
    | some (some (.inl x)) => go (pc + 1) lv (.inl x :: st) M
    | _ => False
  | .iload k => match lv[k]? with
    | some (some (.inl x)) => go (pc + 2) lv (.inl x :: st) M
    | _ => False
  | .aload_n k => match lv[k.val]? with
    | some (some (.inr x)) => go (pc + 1) lv (.inr x :: st) M
    | _ => False
  | .istore_n k => match st with
    | .inl x :: r => bif Nat.blt k.val lv.length then go (pc + 1) (lv.set k.val (some (.inl x))) r M else False
    | _ => False
  | .istore k => match st with
    | .inl x :: r => bif Nat.blt k lv.length then go (pc + 2) (lv.set k (some (.inl x))) r M else False
    | _ => False
  | .iinc k n => match lv[k]? with
    | some (some (.inl x)) => go (pc + 3) (lv.set k (some (.inl (x + n)))) st M
    | _ => False
  | .iadd => match st with
    | .inl b :: .inl a :: r => go (pc + 1) lv (.inl (a + b) :: r) M
    | _ => False
  | .isub => match st with
    | .inl b :: .inl a :: r => go (pc + 1) lv (.inl (a - b) :: r) M
    | _ => False
  | .imul => match st with
    | .inl b :: .inl a :: r => go (pc + 1) lv (.inl (a * b) :: r) M
    | _ => False
  | .idiv => match st with
    | .inl b :: .inl a :: r => (0 ≤ a ∧ a < 2147483648 ∧ 0 < b ∧ b < 2147483648) ∧ go (pc + 1) lv (.inl (a / b) :: r) M
    | _ => False
  | .irem => match st with
    | .inl b :: .inl a :: r => (0 ≤ a ∧ a < 2147483648 ∧ 0 < b ∧ b < 2147483648) ∧ go (pc + 1) lv (.inl (a % b) :: r) M
    | _ => False
  | .iand => match st with
    | .inl b :: .inl a :: r => go (pc + 1) lv (.inl (xi a &&& xi b).toInt :: r) M
    | _ => False
  | .ior => match st with
    | .inl b :: .inl a :: r => go (pc + 1) lv (.inl (xi a ||| xi b).toInt :: r) M
    | _ => False
  | .ixor => match st with
    | .inl b :: .inl a :: r => go (pc + 1) lv (.inl (xi a ^^^ xi b).toInt :: r) M
    | _ => False
  | .ishl => match st with
    | .inl b :: .inl a :: r => go (pc + 1) lv (.inl (xi a <<< (xi b &&& 31)).toInt :: r) M
    | _ => False
  | .ishr => match st with
    | .inl b :: .inl a :: r => go (pc + 1) lv (.inl (xi a >>> (xi b &&& 31)).toInt :: r) M
    | _ => False
  | .iushr => match st with
    | .inl b :: .inl a :: r => go (pc + 1) lv (.inl (((xi a).toUInt32 >>> ((xi b).toUInt32 &&& Int32.toUInt32 31)).toInt32).toInt :: r) M
    | _ => False
  | .dup => match st with
    | v :: r => go (pc + 1) lv (v :: v :: r) M
    | _ => False
  | .dup2 => match st with
    | v :: w :: r => go (pc + 1) lv (v :: w :: v :: w :: r) M
    | _ => False
  | .pop => match st with
    | _ :: r => go (pc + 1) lv r M
    | _ => False
  | .goto _ => match tg with
    | t :: _ => go t lv st M
    | [] => False
  | .ifCond cnd _ => match st with
    | .inl a :: r => match tg with
      | t :: _ => rg a ∧ xbr cnd a 0 (go t lv r M) (go (pc + 3) lv r M)
      | [] => False
    | _ => False
  | .if_icmp cnd _ => match st with
    | .inl b :: .inl a :: r => match tg with
      | t :: _ => rg a ∧ rg b ∧ xbr cnd a b (go t lv r M) (go (pc + 3) lv r M)
      | [] => False
    | _ => False
  | .tableswitch _ lo hi _ => match st with
    | .inl x :: r => match tg with
      | t :: ts => rg x ∧ (x < lo → go t lv r M) ∧ (hi < x → go t lv r M) ∧ xtab x (fun o => go o lv r M) lo ts
      | [] => False
    | _ => False
  | .getfield idx => match st with
    | .inr c :: r => match xlk fld idx with
      | some (ci, k, _) => match L[c]? with
        | some (.inl (ci', fs)) => bif Nat.beq ci' ci then (match fs[k.toNat]? with
          | some (some c') => go (pc + 3) lv (.inr c' :: r) M
          | some none => go (pc + 3) lv (.inl (M c k) :: r) M
          | none => False) else False
        | _ => False
      | none => False
    | _ => False
  | .putfield idx => match st with
    | .inl x :: .inr c :: r => match xlk fld idx with
      | some (ci, k, b) => match L[c]? with
        | some (.inl (ci', fs)) => bif Nat.beq ci' ci then (match fs[k.toNat]? with
          | some none => xb01 b x (go (pc + 3) lv r (xup M c k x))
          | _ => False) else False
        | _ => False
      | none => False
    | _ => False
  | .iaload => match st with
    | .inl i :: .inr c :: r => match L[c]? with
      | some (.inr (0, n)) => (0 ≤ i ∧ i < (n : Int)) ∧ go (pc + 1) lv (.inl (M c i) :: r) M
      | _ => False
    | _ => False
  | .baload => match st with
    | .inl i :: .inr c :: r => match L[c]? with
      | some (.inr (1, n)) => (0 ≤ i ∧ i < (n : Int)) ∧ go (pc + 1) lv (.inl (M c i) :: r) M
      | _ => False
    | _ => False
  | .iastore => match st with
    | .inl x :: .inl i :: .inr c :: r => match L[c]? with
      | some (.inr (0, n)) => (0 ≤ i ∧ i < (n : Int)) ∧ go (pc + 1) lv r (xup M c i x)
      | _ => False
    | _ => False
  | .bastore => match st with
    | .inl x :: .inl i :: .inr c :: r => match L[c]? with
      | some (.inr (1, n)) => (0 ≤ i ∧ i < (n : Int)) ∧ (x = 0 ∨ x = 1) ∧ go (pc + 1) lv r (xup M c i x)
      | _ => False
    | _ => False
  | .arraylength => match st with
    | .inr c :: r => match L[c]? with
      | some (.inr (0, n)) => go (pc + 1) lv (.inl (n : Int) :: r) M
      | _ => False
    | _ => False
  | .invokevirtual idx => match xlk cals idx with
    | some (false, n, vd, tr) => bif Nat.ble n st.length && Nat.ble st.length (n + 8) then tr (st.take n).reverse M (fun x M' => go (pc + 3) lv (bif vd then st.drop n else .inl x :: st.drop n) M') else False
    | _ => False
  | .invokestatic idx => match xlk cals idx with
    | some (true, n, vd, tr) => bif Nat.ble n st.length && Nat.ble st.length (n + 8) then tr (st.take n).reverse M (fun x M' => go (pc + 3) lv (bif vd then st.drop n else .inl x :: st.drop n) M') else False
    | _ => False
  | .ireturn => match st with
    | [.inl x] => match rt with
      | 1 => Rt x M
      | 2 => (x = 0 ∨ x = 1) ∧ Rt x M
      | _ => False
    | _ => False
  | .return_ => match st with
    | [] => match rt with
      | 0 => Rt 0 M
      | _ => False
    | _ => False
  | _ => False
/-- many instructions, up to a cut -/
def xw (L : List xD) (fld : xFld) (cals : xCal) (cst : xCst) (rt : Nat) (Rt : xR) (I : Nat → Option (Instr × List Nat)) (cut : Nat → Bool) (K : xG) : Nat → xG
  | 0 => fun _ _ _ _ => False
  | n + 1 => fun pc lv st M => match I pc with
    | some (ins, tg) => xs L fld cals cst rt Rt (fun pc' lv' st' M' => bif cut pc' then K pc' lv' st' M' else xw L fld cals cst rt Rt I cut K n pc' lv' st' M') ins tg pc lv st M
    | none => False
/-- what a row of the table must bear out beside the decoded instruction: the targets, small numbers -/
def xtg (ins : Instr) (tg : List Nat) (pc : Nat) : Bool := match ins with
  | .bipush n => decide (-128 ≤ n) && decide (n < 128)
  | .sipush n => decide (-32768 ≤ n) && decide (n < 32768)
  | .goto off => match tg with
    | t :: _ => decide ((pc : Int) + off = (t : Int))
    | [] => true
  | .ifCond _ off => match tg with
    | t :: _ => decide ((pc : Int) + off = (t : Int))
    | [] => true
  | .if_icmp _ off => match tg with
    | t :: _ => decide ((pc : Int) + off = (t : Int))
    | [] => true
  | .tableswitch d lo hi offs => match tg with
    | t :: ts => decide ((pc : Int) + d = (t : Int)) && decide (hi = lo + offs.size - 1) && decide (offs.toList.map (fun o => (pc : Int) + o) = ts.map (fun (t : Nat) => (t : Int)))
    | [] => true
  | _ => true
/-- an instruction's length; 0: any -/
def xlen : Instr → Nat
  | .bipush _ => 2
  | .sipush _ => 3
  | .ldc_w _ => 3
  | .iload _ => 2
  | .istore _ => 2
  | .iinc _ _ => 3
  | .goto _ => 3
  | .ifCond _ _ => 3
  | .if_icmp _ _ => 3
  | .getfield _ => 3
  | .putfield _ => 3
  | .invokevirtual _ => 3
  | .invokestatic _ => 3
  | .tableswitch _ _ _ _ => 0
  | _ => 1
end
section
/-! the pure machine is right: its worlds, and a row an instruction -/
def xtb : List Cond := lw_tbl.filter goodWord
def xNest : List (String × Nat × MethodName × String) := [("NetShape$Told", 28, ⟨"NetShape", "hasBit", "(II)Z"⟩, "NetShape"), ("NetShape$Net", 58, ⟨"NetShape", "hasBit", "(II)Z"⟩, "NetShape"), ("NetShape$Net", 92, ⟨"NetShape", "isBox", "(I)Z"⟩, "NetShape"), ("NetShape$LeastNets", 93, ⟨"NetShape", "hasBit", "(II)Z"⟩, "NetShape"), ("NetShape$Net", 36, ⟨"NetShape", "boxIn", "(II)I"⟩, "NetShape"), ("NetShape$Survey", 62, ⟨"NetShape", "hasBit", "(II)Z"⟩, "NetShape"), ("NetShape$Survey", 58, ⟨"NetShape", "isBox", "(I)Z"⟩, "NetShape")]
def xN (U : State) : Prop := ∀ q ∈ xNest, va_Nw (.methodLinkNest q.1 q.2.1 q.2.2.1 q.2.2.2) U
theorem xN.warm {s U : State} (hW : s.WarmedH U.vm) (h : xN s) : xN U := fun q hq => va_Nw.warmM hW (h q hq)
theorem xN.same {s U : State} (hv : s.vm = U.vm) (h : xN s) : xN U := fun q hq => va_Nw.same rfl hv (h q hq)
def xv (ad : Nat → Nat) : xV → Value
  | .inl x => .int (xi x)
  | .inr a => .ref (ad a)
theorem xv_cat (ad : Nat → Nat) (v : xV) : (xv ad v).category = 1 := by cases v <;> rfl
def xfv (ad : Nat → Nat) (M : xM) (c k : Nat) : Option Nat → Value
  | some a => .ref (ad a)
  | none => .int (xi (M c (k : Int)))
def xe (T : Nat → ClassId) (ad : Nat → Nat) (M : xM) (c : Nat) : xD → va_E
  | .inl q => .inr (q.1, q.2.mapIdx (fun k r => xfv ad M c k r))
  | .inr q => .inl (T q.1, q.2, .inl (fun j => xi (M c (j : Int))))
def xW (T : Nat → ClassId) (ad : Nat → Nat) (L : List xD) (M : xM) : va_W := L.mapIdx (fun c d => (ad c, xe T ad M c d))
theorem xW_get {T : Nat → ClassId} {ad : Nat → Nat} {L : List xD} {M : xM} {c : Nat} {d : xD} (h : L[c]? = some d) : (xW T ad L M)[c]? = some (ad c, xe T ad M c d) := by
  simp [xW, h]
theorem xW_inv {T : Nat → ClassId} {ad : Nat → Nat} {L : List xD} {M : xM} {c : Nat} {q : Nat × va_E} (h : (xW T ad L M)[c]? = some q) : c < L.length ∧ q.1 = ad c := by
  simp only [xW, List.getElem?_mapIdx] at h
  cases hd : L[c]? with
  | none => rw [hd] at h; cases h
  | some d =>
    rw [hd] at h
    cases h
    exact ⟨(List.getElem?_eq_some_iff.mp hd).1, rfl⟩
theorem xup_ne {M : xM} {c : Nat} {k : Int} {x : Int} {c' : Nat} (h : c' ≠ c) : xup M c k x c' = M c' := by
  funext j
  simp [xup, h]
theorem xe_ne {T : Nat → ClassId} {ad : Nat → Nat} {M : xM} {c : Nat} {k : Int} {x : Int} {c' : Nat} (h : c' ≠ c) (d : xD) : xe T ad (xup M c k x) c' d = xe T ad M c' d := by
  cases d with
  | inl q =>
    simp only [xe, Sum.inr.injEq, Prod.mk.injEq, true_and]
    apply List.ext_getElem?
    intro j
    simp only [List.getElem?_mapIdx]
    cases q.2[j]? with
    | none => rfl
    | some r => cases r <;> simp [xfv, xup_ne h]
  | inr q => simp only [xe, xup_ne h]
theorem xW_put {T : Nat → ClassId} {ad : Nat → Nat} {L : List xD} {M : xM} {c : Nat} {k : Int} {x : Int} {d : xD} (h : L[c]? = some d) {e' : va_E} (he : xe T ad (xup M c k x) c d = e') : xW T ad L (xup M c k x) = (xW T ad L M).set c (ad c, e') := by
  apply List.ext_getElem?
  intro j
  rw [List.getElem?_set]
  by_cases hj : c = j
  · subst hj
    have hlt := (List.getElem?_eq_some_iff.mp h).1
    simp only [xW, List.getElem?_mapIdx, h, List.length_mapIdx, hlt, if_true, Option.map_some, he]
  · rw [if_neg hj]
    simp only [xW, List.getElem?_mapIdx]
    cases L[j]? with
    | none => rfl
    | some d' => simp only [Option.map_some, xe_ne (fun z => hj z.symm)]
theorem xe_put_obj {T : Nat → ClassId} {ad : Nat → Nat} {M : xM} {c k ci : Nat} {x : Int} {fs : List (Option Nat)} (hk : fs[k]? = some none) : xe T ad (xup M c (k : Int) x) c (.inl (ci, fs)) = .inr (ci, (fs.mapIdx (fun j r => xfv ad M c j r)).set k (.int (xi x))) := by
  simp only [xe, Sum.inr.injEq, Prod.mk.injEq, true_and]
  apply List.ext_getElem?
  intro j
  rw [List.getElem?_set]
  by_cases hj : k = j
  · subst hj
    have hlt := (List.getElem?_eq_some_iff.mp hk).1
    simp only [List.length_mapIdx, hlt, if_true, List.getElem?_mapIdx, hk, Option.map_some, xfv, xup, and_self]
  · rw [if_neg hj]
    simp only [List.getElem?_mapIdx]
    have hj' : ¬ ((j : Int) = (k : Int)) := by omega
    cases fs[j]? with
    | none => rfl
    | some r => cases r <;> simp [xfv, xup, hj']
theorem xe_put_arr {T : Nat → ClassId} {ad : Nat → Nat} {M : xM} {c k : Nat} {t n : Nat} {x : Int} : xe T ad (xup M c (k : Int) x) c (.inr (t, n)) = .inl (T t, n, .inl (upd (fun j => xi (M c (j : Int))) k (xi x))) := by
  simp only [xe, Sum.inl.injEq, Prod.mk.injEq, true_and]
  funext j
  by_cases hj : j = k
  · simp [xup, upd, hj]
  · have hj' : ¬ ((j : Int) = (k : Int)) := by omega
    simp [xup, upd, hj, hj']
def xA (ad : Nat → Nat) (L : List xD) : Nat → Prop := fun q => ∃ c, c < L.length ∧ q = ad c
def xOk (ad : Nat → Nat) (L : List xD) : Prop := (∀ i j, i < L.length → j < L.length → ad i = ad j → i = j) ∧ ∀ (c t n : Nat), L[c]? = some (.inr (t, n)) → n < 2147483648
theorem xW_D {T : Nat → ClassId} {ad : Nat → Nat} {L : List xD} (M : xM) (h : xOk ad L) : va_D (xA ad L) (xW T ad L M) := by
  refine ⟨fun i j p q hi hj he => ?_, fun k q hk => ?_⟩
  · obtain ⟨h1, e1⟩ := xW_inv hi
    obtain ⟨h2, e2⟩ := xW_inv hj
    exact h.1 i j h1 h2 (by rw [← e1, ← e2]; exact he)
  · obtain ⟨h1, e1⟩ := xW_inv hk
    exact ⟨k, h1, e1⟩
def xU (D : va_G) (T : Nat → ClassId) (ad : Nat → Nat) (L : List xD) (M : xM) (U : State) : Prop := va_P D vwCl (xW T ad L M) U.heap ∧ va_K D vwCl [(T 0, .int), (T 1, .boolean)] U ∧ xN U
def xrv (vd : Bool) (r : Int) : Option Value := bif vd then none else some (.int (xi r))
def xQ (D : va_G) (T : Nat → ClassId) (ad : Nat → Nat) (L : List xD) (vd : Bool) (Post : xR) : Array Value → State → Outcome → State → Prop := fun _ st oc t => (∃ (r : Int) (M : xM), oc = .returned (xrv vd r) ∧ Post r M ∧ xU D T ad L M t) ∧ va_F (xA ad L) st t
def xl (ad : Nat → Nat) (ls : Array Slot) (nL : Nat) (lv : xL) : Prop := lv.length = nL ∧ ∃ l, lv_has ls nL l ∧ ∀ (i : Nat) (v : xV), lv[i]? = some (some v) → (i, xv ad v) ∈ l
theorem xl.at {ad : Nat → Nat} {ls : Array Slot} {nL : Nat} {lv : xL} (h : xl ad ls nL lv) {i : Nat} {v : xV} (hi : lv[i]? = some (some v)) : ls[i]? = some (.val (xv ad v)) := by
  obtain ⟨-, l, hl, hm⟩ := h
  exact hl.2.2 _ (hm i v hi)
theorem xl.set {ad : Nat → Nat} {nL : Nat} {lv : xL} {l : List (Nat × Value)} (hlen : lv.length = nL) (hm : ∀ (i : Nat) (v : xV), lv[i]? = some (some v) → (i, xv ad v) ∈ l) {i : Nat} {x : xV} {ls' : Array Slot} (h' : lv_has ls' nL ((i, xv ad x) :: l.filter (fun q => !(q.1 == i) && !(q.1 + 1 == i && q.2.category == 2)))) : xl ad ls' nL (lv.set i (some x)) := by
  refine ⟨by rw [List.length_set]; exact hlen, _, h', fun j v hj => ?_⟩
  rw [List.getElem?_set] at hj
  by_cases hij : i = j
  · subst hij
    by_cases hlt : i < lv.length
    · simp only [hlt, if_true] at hj
      cases hj
      exact List.mem_cons_self
    · simp [hlt] at hj
  · rw [if_neg hij] at hj
    refine List.mem_cons_of_mem _ (List.mem_filter.mpr ⟨hm j v hj, ?_⟩)
    have h1 : (j == i) = false := by simp; omega
    have h2 : ((xv ad v).category == 2) = false := by rw [xv_cat]; rfl
    simp [h1, h2]
def xFOk (own : String) (q : Nat × Nat × Int × Nat) : Prop := ∃ (C : String) (Tt : u_T) (N : Nat) (ty0 : Nat → FieldType), vwCl[q.2.1]? = some (C, Tt, N) ∧ 0 ≤ q.2.2.1 ∧ q.2.2.1.toNat < N ∧ (∀ w ∈ u_ws C Tt N, w ∈ xtb) ∧ Cond.fieldLink own q.1 (Tt q.2.2.1.toNat).1 (Tt q.2.2.1.toNat).2.1 (Tt q.2.2.1.toNat).2.2.1 ∈ xtb ∧ (∀ k, k < N → parseFieldDescriptor (Tt k).2.2.1 = some (ty0 k)) ∧ (∀ a, a < N → ∀ b, b < N → a ≠ b → (Tt a).2.1 ≠ (Tt b).2.1) ∧ (q.2.2.2 = 0 → (Tt q.2.2.1.toNat).2.2.2 = false ∧ ty0 q.2.2.1.toNat = .int) ∧ (q.2.2.2 = 1 → (Tt q.2.2.1.toNat).2.2.2 = false ∧ ty0 q.2.2.1.toNat = .boolean)
def xKOk (own : String) (q : Nat × Int) : Prop := Cond.constant own q.1 (xi q.2) ∈ xtb
theorem xi_bipush {n : Int} (h : -128 ≤ n ∧ n < 128) : (Int8.ofInt n).toInt32 = xi n := by
  apply Int32.toInt_inj.mp
  rw [Int8.toInt_toInt32, Int8.toInt_ofInt_of_le (by omega) (by omega), xi, Int32.toInt_ofInt_of_le (by omega) (by omega)]
theorem xi_sipush {n : Int} (h : -32768 ≤ n ∧ n < 32768) : (Int16.ofInt n).toInt32 = xi n := by
  apply Int32.toInt_inj.mp
  rw [Int16.toInt_toInt32, Int16.toInt_ofInt_of_le (by omega) (by omega), xi, Int32.toInt_ofInt_of_le (by omega) (by omega)]
theorem xi_add (a b : Int) : xi a + xi b = xi (a + b) := (Int32.ofInt_add a b).symm
theorem xi_sub (a b : Int) : xi a - xi b = xi (a - b) := (Int32.ofInt_sub a b).symm
theorem xi_mul (a b : Int) : xi a * xi b = xi (a * b) := (Int32.ofInt_mul a b).symm
theorem xi_to (x : Int32) : xi x.toInt = x := Int32.ofInt_toInt x
theorem to_xi {v : Int} (h : rg v) : (xi v).toInt = v := Int32.toInt_ofInt_of_le (by have := h.1; omega) (by have := h.2; omega)
theorem xi_lt {a b : Int} (ha : rg a) (hb : rg b) : xi a < xi b ↔ a < b := by rw [Int32.lt_iff_toInt_lt, to_xi ha, to_xi hb]
theorem xi_le {a b : Int} (ha : rg a) (hb : rg b) : xi a ≤ xi b ↔ a ≤ b := by rw [Int32.le_iff_toInt_le, to_xi ha, to_xi hb]
theorem xi_eq {a b : Int} (ha : rg a) (hb : rg b) : xi a = xi b ↔ a = b := by rw [← Int32.toInt_inj, to_xi ha, to_xi hb]
theorem rg0 : rg 0 := by constructor <;> omega
theorem xi0 : xi 0 = 0 := rfl
theorem xi_nI (n : Nat) : xi (n : Int) = nI n := Int32.ofInt_eq_ofNat
theorem xi_clamp {i : Int} {n : Nat} (h : 0 ≤ i ∧ i < (n : Int)) (hn : n < 2147483648) : (xi i).toNatClampNeg = i.toNat := by
  obtain ⟨k, rfl⟩ : ∃ k : Nat, i = k := ⟨i.toNat, by omega⟩
  rw [xi_nI, nI_clamp (by omega)]
  rfl
theorem xi_in {i : Int} {n : Nat} (h : 0 ≤ i ∧ i < (n : Int)) (hn : n < 2147483648) : vp_in (xi i) n := by
  obtain ⟨k, rfl⟩ : ∃ k : Nat, i = k := ⟨i.toNat, by omega⟩
  rw [xi_nI]
  exact vp_in_nI (by omega) (by omega)
theorem xi_div {a b : Int} (h : 0 ≤ a ∧ a < 2147483648 ∧ 0 < b ∧ b < 2147483648) : xi a / xi b = xi (a / b) := by
  obtain ⟨k, rfl⟩ : ∃ k : Nat, a = k := ⟨a.toNat, by omega⟩
  obtain ⟨d, rfl⟩ : ∃ d : Nat, b = d := ⟨b.toNat, by omega⟩
  rw [xi_nI, xi_nI, pk_div (by omega) (by omega) (by omega), ← xi_nI]
  rfl
theorem xi_rem {a b : Int} (h : 0 ≤ a ∧ a < 2147483648 ∧ 0 < b ∧ b < 2147483648) : xi a - xi a / xi b * xi b = xi (a % b) := by
  obtain ⟨k, rfl⟩ : ∃ k : Nat, a = k := ⟨a.toNat, by omega⟩
  obtain ⟨d, rfl⟩ : ∃ d : Nat, b = d := ⟨b.toNat, by omega⟩
  rw [xi_nI, xi_nI, pk_rem (by omega) (by omega) (by omega), ← xi_nI]
  rfl
theorem xi_ne0 {b : Int} (h : 0 < b ∧ b < 2147483648) : ¬ xi b = 0 := by
  rw [← xi0, xi_eq ⟨by omega, by omega⟩ rg0]
  omega
theorem xi_nar_bool {x : Int} (h : x = 0 ∨ x = 1) : narrow .boolean (.int (xi x)) = .int (xi x) ∧ fits .boolean (.int (xi x)) = true ∧ vp_nar .boolean (xi x) = xi x := by
  rcases h with rfl | rfl <;> exact ⟨by decide +kernel, by decide +kernel, by decide +kernel⟩
end
section
/-! one instruction, many instructions: from the pure machine to the machine -/
section XS
variable {p : Program} {l : Launch} {e : Env} {R : Room} {s : State} {m : MethodId} {args : Array Value} {below : List Frame} {meth : Method} {c : Code} {Q : State → Prop}
def Wx (p : Program) (l : Launch) (e : Env) (R : Room) (s : State) (m : MethodId) (args : Array Value) (below : List Frame) (meth : Method) (c : Code) (D : va_G) (T : Nat → ClassId) (ad : Nat → Nat) (L : List xD) (nL : Nat) (Q : State → Prop) : xG := fun pc lv st M =>
  ∀ (H : Heap) (locs : List Loc) (ls : Array Slot), va_P D vwCl (xW T ad L M) H → va_S (xA ad L) s.heap H locs → xl ad ls nL lv → W p l e R s m args below meth c H locs 0 0 Q (F0 m pc ls (st.map (xv ad)))
/-- what a method's body knows -/
def xX (p : Program) (s : State) (m : MethodId) (args : Array Value) (c : Code) (D : va_G) (T : Nat → ClassId) (cc : ByteArray) (nL : Nat) (own : String) : Prop :=
  p.tables.exec = Jvm.exec ∧ c.code = cc ∧ c.maxLocals = nL ∧ s.vm.findClass own = some m.cls ∧ (∀ w ∈ xtb, w.before args s = true) ∧ va_K D vwCl [(T 0, .int), (T 1, .boolean)] s ∧ xN s
def xCOk (p : Program) (l : Launch) (e : Env) (R : Room) (s : State) (m : MethodId) (args : Array Value) (below : List Frame) (meth : Method) (c : Code) (D : va_G) (T : Nat → ClassId) (ad : Nat → Nat) (L : List xD) (nL : Nat) (Q : State → Prop) (cc : ByteArray) (q : Nat × Bool × Nat × Bool × xT) : Prop :=
  ∀ (pc : Nat) (lv : xL) (as rest : List xV) (M : xM) (Post : xR), decode cc pc = .ok (bif q.2.1 then .invokestatic q.1 else .invokevirtual q.1, 3) → as.length = q.2.2.1 → rest.length ≤ 8 → q.2.2.2.2 as M Post →
    (∀ r M', Post r M' → Wx p l e R s m args below meth c D T ad L nL Q (pc + 3) lv (bif q.2.2.2.1 then rest else .inl r :: rest) M') → Wx p l e R s m args below meth c D T ad L nL Q pc lv (as.reverse ++ rest) M
variable {D : va_G} {T : Nat → ClassId} {ad : Nat → Nat} {L : List xD} {nL : Nat} {cc : ByteArray} {own : String}
theorem xbr_ok {cnd : ClassFile.Cond} {a b : Int} {tt ff : Prop} (h : xbr cnd a b tt ff) : (cnd = .eq → (a = b → tt) ∧ (¬ a = b → ff)) ∧ (cnd = .ne → (¬ a = b → tt) ∧ (¬ ¬ a = b → ff)) ∧ (cnd = .lt → (a < b → tt) ∧ (¬ a < b → ff)) ∧ (cnd = .ge → (b ≤ a → tt) ∧ (¬ b ≤ a → ff)) ∧ (cnd = .gt → (b < a → tt) ∧ (¬ b < a → ff)) ∧ (cnd = .le → (a ≤ b → tt) ∧ (¬ a ≤ b → ff)) := by
  refine ⟨?_, ?_, ?_, ?_, ?_, ?_⟩ <;> intro hc <;> subst hc <;> simp only [xbr] at h <;> refine ⟨fun q => h.1 q, fun q => h.2 ?_⟩ <;> first | exact q | (exact Classical.not_not.mp q) | omega
theorem xtab_ok {x : Int} {go : Nat → Prop} : ∀ (os : List Nat) (v : Int), xtab x go v os → ∀ (k o : Nat), os[k]? = some o → x = v + (k : Int) → go o := by
  intro os
  induction os with
  | nil => intro v _ k o hk; simp at hk
  | cons a r ih =>
    intro v h k o hk hx
    cases k with
    | zero =>
      simp at hk
      subst hk
      exact h.1 (by omega)
    | succ k =>
      simp at hk
      exact ih (v + 1) h.2 k o hk (by omega)
theorem xbif {b : Bool} {P : Prop} (h : bif b then P else False) : b = true ∧ P := by
  cases b with
  | true => exact ⟨rfl, h⟩
  | false => exact h.elim
theorem xb01_go {b : Nat} {x : Int} {P : Prop} (h : xb01 b x P) : P := by
  match b, h with
  | 0, h => exact h
  | 1, h => exact h.2
set_option maxHeartbeats 4000000 in
theorem xs_ok {fld : xFld} {cals : xCal} {cst : xCst} {rt : Nat} {Rt : xR} {go : xG} {ins : Instr} {tg : List Nat} {pc : Nat} {lv : xL} {st : List xV} {M : xM} {ret : Option FieldType}
    (hX : xX p s m args c D T cc nL own) (hlocks : meth.locks = false) (hr : meth.sig.returnType = ret) (hrt : (rt = 0 → ret = none) ∧ (rt = 1 → ret = some .int) ∧ (rt = 2 → ret = some .boolean))
    (hO : xOk ad L) (hF : ∀ q ∈ fld, xFOk own q) (hKc : ∀ q ∈ cst, xKOk own q) (hC : ∀ q ∈ cals, xCOk p l e R s m args below meth c D T ad L nL (MQ below (xQ D T ad L (decide (rt = 0)) Rt) args s 0 0 (xA ad L)) cc q)
    {len : Nat} (hdec : decode cc pc = .ok (ins, len)) (hlen : xlen ins = 0 ∨ len = xlen ins) (htg : xtg ins tg pc = true)
    (h : xs L fld cals cst rt Rt go ins tg pc lv st M) (hgo : ∀ pc' lv' st' M', go pc' lv' st' M' → Wx p l e R s m args below meth c D T ad L nL (MQ below (xQ D T ad L (decide (rt = 0)) Rt) args s 0 0 (xA ad L)) pc' lv' st' M') :
    Wx p l e R s m args below meth c D T ad L nL (MQ below (xQ D T ad L (decide (rt = 0)) Rt) args s 0 0 (xA ad L)) pc lv st M := by
  obtain ⟨hx, hb, hml, hown, hts, hK, hN⟩ := id hX
  unfold xs at h
  split at h
  -- iconst
  · have hl1 : len = 1 := by rcases hlen with q | q <;> first | exact q | cases q
    subst hl1
    intro H locs ls hP hS hl
    exact lv_iconst hx hb hdec rfl (hgo _ _ _ _ h H locs ls hP hS hl)
  -- bipush
  · have hl1 : len = 2 := by rcases hlen with q | q <;> first | exact q | cases q
    subst hl1
    intro H locs ls hP hS hl
    exact lv_bipush hx hb hdec (xi_bipush (by simpa [xtg] using htg)) (hgo _ _ _ _ h H locs ls hP hS hl)
  -- sipush
  · have hl1 : len = 3 := by rcases hlen with q | q <;> first | exact q | cases q
    subst hl1
    intro H locs ls hP hS hl
    exact lv_sipush hx hb hdec (xi_sipush (by simpa [xtg] using htg)) (hgo _ _ _ _ h H locs ls hP hS hl)
  -- ldc_w
  · have hl1 : len = 3 := by rcases hlen with q | q <;> first | exact q | cases q
    subst hl1
    split at h
    · rename_i v hv
      intro H locs ls hP hS hl
      exact lv_ldcw hx hb hown (hts _ (hKc _ (xlk_mem hv))) hdec (hgo _ _ _ _ h H locs ls hP hS hl)
    · exact h.elim
  -- iload_n
  · have hl1 : len = 1 := by rcases hlen with q | q <;> first | exact q | cases q
    subst hl1
    split at h
    · rename_i x hv
      intro H locs ls hP hS hl
      exact lv_iload_n hx hb hdec rfl (hl.at hv) (hgo _ _ _ _ h H locs ls hP hS hl)
    · exact h.elim
  -- iload
  · have hl1 : len = 2 := by rcases hlen with q | q <;> first | exact q | cases q
    subst hl1
    split at h
    · rename_i x hv
      intro H locs ls hP hS hl
      exact lv_iload hx hb hdec (hl.at hv) (hgo _ _ _ _ h H locs ls hP hS hl)
    · exact h.elim
  -- aload_n
  · have hl1 : len = 1 := by rcases hlen with q | q <;> first | exact q | cases q
    subst hl1
    split at h
    · rename_i x hv
      intro H locs ls hP hS hl
      exact lv_aload_n hx hb hdec rfl (hl.at hv) (hgo _ _ _ _ h H locs ls hP hS hl)
    · exact h.elim
  -- istore_n
  · have hl1 : len = 1 := by rcases hlen with q | q <;> first | exact q | cases q
    subst hl1
    split at h
    · rename_i x r
      obtain ⟨hk, h⟩ := xbif h
      have hk := (Nat.blt_eq ..).mp hk
      intro H locs ls hP hS hl
      obtain ⟨hlen', l1, hl1, hm⟩ := hl
      exact lv_istore_n hx hb hdec rfl hl1 (by rw [← hlen']; exact hk) rfl (fun ls' h' => hgo _ _ _ _ h H locs ls' hP hS (xl.set (x := .inl _) hlen' hm h'))
    · exact h.elim
  -- istore
  · have hl1 : len = 2 := by rcases hlen with q | q <;> first | exact q | cases q
    subst hl1
    split at h
    · rename_i x r
      obtain ⟨hk, h⟩ := xbif h
      have hk := (Nat.blt_eq ..).mp hk
      intro H locs ls hP hS hl
      obtain ⟨hlen', l1, hl1, hm⟩ := hl
      exact lv_istore hx hb hdec hl1 (by rw [← hlen']; exact hk) rfl (fun ls' h' => hgo _ _ _ _ h H locs ls' hP hS (xl.set (x := .inl _) hlen' hm h'))
    · exact h.elim
  -- iinc
  · rename_i k n
    have hl1 : len = 3 := by rcases hlen with q | q <;> first | exact q | cases q
    subst hl1
    split at h
    · rename_i x hv
      intro H locs ls hP hS hl
      obtain ⟨hlen', l1, hl1, hm⟩ := hl
      obtain ⟨j, hj⟩ := List.getElem?_of_mem (hm _ _ hv)
      have hlt := (List.getElem?_eq_some_iff.mp hv).1
      exact lv_iinc (v := xi (x + n)) hx hb hdec hl1 hj (xi_add x n) (by rw [← hlen']; exact hlt) rfl (fun ls' h' => hgo _ _ _ _ h H locs ls' hP hS (xl.set (x := .inl _) hlen' hm h'))
    · exact h.elim
  -- iadd
  · have hl1 : len = 1 := by rcases hlen with q | q <;> first | exact q | cases q
    subst hl1
    split at h
    · intro H locs ls hP hS hl
      refine lv_iadd hx hb hdec ?_
      rw [xi_add]
      exact hgo _ _ _ _ h H locs ls hP hS hl
    · exact h.elim
  -- isub
  · have hl1 : len = 1 := by rcases hlen with q | q <;> first | exact q | cases q
    subst hl1
    split at h
    · intro H locs ls hP hS hl
      refine lv_isub hx hb hdec ?_
      rw [xi_sub]
      exact hgo _ _ _ _ h H locs ls hP hS hl
    · exact h.elim
  -- imul
  · have hl1 : len = 1 := by rcases hlen with q | q <;> first | exact q | cases q
    subst hl1
    split at h
    · intro H locs ls hP hS hl
      refine lv_imul hx hb hdec ?_
      rw [xi_mul]
      exact hgo _ _ _ _ h H locs ls hP hS hl
    · exact h.elim
  -- idiv
  · have hl1 : len = 1 := by rcases hlen with q | q <;> first | exact q | cases q
    subst hl1
    split at h
    · intro H locs ls hP hS hl
      refine lv_idiv hx hb hdec (xi_ne0 ⟨h.1.2.2.1, h.1.2.2.2⟩) ?_
      rw [xi_div h.1]
      exact hgo _ _ _ _ h.2 H locs ls hP hS hl
    · exact h.elim
  -- irem
  · have hl1 : len = 1 := by rcases hlen with q | q <;> first | exact q | cases q
    subst hl1
    split at h
    · intro H locs ls hP hS hl
      refine lv_irem hx hb hdec (xi_ne0 ⟨h.1.2.2.1, h.1.2.2.2⟩) ?_
      rw [xi_rem h.1]
      exact hgo _ _ _ _ h.2 H locs ls hP hS hl
    · exact h.elim
  -- iand
  · have hl1 : len = 1 := by rcases hlen with q | q <;> first | exact q | cases q
    subst hl1
    split at h
    · intro H locs ls hP hS hl
      refine lv_iand hx hb hdec ?_
      have h2 := hgo _ _ _ _ h H locs ls hP hS hl
      simp only [List.map_cons, xv, xi_to] at h2
      exact h2
    · exact h.elim
  -- ior
  · have hl1 : len = 1 := by rcases hlen with q | q <;> first | exact q | cases q
    subst hl1
    split at h
    · intro H locs ls hP hS hl
      refine lv_ior hx hb hdec ?_
      have h2 := hgo _ _ _ _ h H locs ls hP hS hl
      simp only [List.map_cons, xv, xi_to] at h2
      exact h2
    · exact h.elim
  -- ixor
  · have hl1 : len = 1 := by rcases hlen with q | q <;> first | exact q | cases q
    subst hl1
    split at h
    · intro H locs ls hP hS hl
      refine lv_ixor hx hb hdec ?_
      have h2 := hgo _ _ _ _ h H locs ls hP hS hl
      simp only [List.map_cons, xv, xi_to] at h2
      exact h2
    · exact h.elim
  -- ishl
  · have hl1 : len = 1 := by rcases hlen with q | q <;> first | exact q | cases q
    subst hl1
    split at h
    · intro H locs ls hP hS hl
      refine lv_ishl hx hb hdec ?_
      have h2 := hgo _ _ _ _ h H locs ls hP hS hl
      simp only [List.map_cons, xv, xi_to] at h2
      exact h2
    · exact h.elim
  -- ishr
  · have hl1 : len = 1 := by rcases hlen with q | q <;> first | exact q | cases q
    subst hl1
    split at h
    · intro H locs ls hP hS hl
      refine lv_ishr hx hb hdec ?_
      have h2 := hgo _ _ _ _ h H locs ls hP hS hl
      simp only [List.map_cons, xv, xi_to] at h2
      exact h2
    · exact h.elim
  -- iushr
  · have hl1 : len = 1 := by rcases hlen with q | q <;> first | exact q | cases q
    subst hl1
    split at h
    · intro H locs ls hP hS hl
      refine lv_iushr hx hb hdec rfl ?_
      have h2 := hgo _ _ _ _ h H locs ls hP hS hl
      simp only [List.map_cons, xv, xi_to] at h2
      exact h2
    · exact h.elim
  -- dup
  · have hl1 : len = 1 := by rcases hlen with q | q <;> first | exact q | cases q
    subst hl1
    split at h
    · intro H locs ls hP hS hl
      exact lv_dup hx hb hdec (xv_cat ad _) (hgo _ _ _ _ h H locs ls hP hS hl)
    · exact h.elim
  -- dup2
  · have hl1 : len = 1 := by rcases hlen with q | q <;> first | exact q | cases q
    subst hl1
    split at h
    · intro H locs ls hP hS hl
      exact lv_dup2_11 hx hb hdec (xv_cat ad _) (xv_cat ad _) (hgo _ _ _ _ h H locs ls hP hS hl)
    · exact h.elim
  -- pop
  · have hl1 : len = 1 := by rcases hlen with q | q <;> first | exact q | cases q
    subst hl1
    split at h
    · intro H locs ls hP hS hl
      exact lv_pop hx hb hdec (xv_cat ad _) (hgo _ _ _ _ h H locs ls hP hS hl)
    · exact h.elim
  -- goto
  · have hl1 : len = 3 := by rcases hlen with q | q <;> first | exact q | cases q
    subst hl1
    split at h
    · intro H locs ls hP hS hl
      exact lv_goto hx hb hdec (by simpa [xtg] using htg) (hgo _ _ _ _ h H locs ls hP hS hl)
    · exact h.elim
  -- ifCond
  · rename_i cnd off
    have hl1 : len = 3 := by rcases hlen with q | q <;> first | exact q | cases q
    subst hl1
    split at h
    · rename_i a r
      split at h
      case h_2 => exact h.elim
      rename_i t tr
      obtain ⟨ha, hbr⟩ := h
      have h0 : (pc : Int) + off = (t : Int) := by simpa [xtg] using htg
      obtain ⟨b1, b2, b3, b4, b5, b6⟩ := xbr_ok hbr
      intro H locs ls hP hS hl
      cases cnd with
      | eq => exact lv_if_eq hx hb hdec h0 (fun q => hgo _ _ _ _ ((b1 rfl).1 ((xi_eq ha rg0).mp q)) H locs ls hP hS hl) (fun q => hgo _ _ _ _ ((b1 rfl).2 (fun z => q ((xi_eq ha rg0).mpr z))) H locs ls hP hS hl)
      | ne => exact lv_if_ne hx hb hdec h0 (fun q => hgo _ _ _ _ ((b2 rfl).1 (fun z => q ((xi_eq ha rg0).mpr z))) H locs ls hP hS hl) (fun q => hgo _ _ _ _ ((b2 rfl).2 (fun z => z ((xi_eq ha rg0).mp q))) H locs ls hP hS hl)
      | lt => exact lv_if_lt hx hb hdec h0 (fun q => hgo _ _ _ _ ((b3 rfl).1 ((xi_lt ha rg0).mp q)) H locs ls hP hS hl) (fun q => hgo _ _ _ _ ((b3 rfl).2 (fun z => q ((xi_lt ha rg0).mpr z))) H locs ls hP hS hl)
      | ge => exact lv_if_ge hx hb hdec h0 (fun q => hgo _ _ _ _ ((b4 rfl).1 ((xi_le rg0 ha).mp q)) H locs ls hP hS hl) (fun q => hgo _ _ _ _ ((b4 rfl).2 (fun z => q ((xi_le rg0 ha).mpr z))) H locs ls hP hS hl)
      | gt => exact lv_if_gt hx hb hdec h0 (fun q => hgo _ _ _ _ ((b5 rfl).1 ((xi_lt rg0 ha).mp q)) H locs ls hP hS hl) (fun q => hgo _ _ _ _ ((b5 rfl).2 (fun z => q ((xi_lt rg0 ha).mpr z))) H locs ls hP hS hl)
      | le => exact lv_if_le hx hb hdec h0 (fun q => hgo _ _ _ _ ((b6 rfl).1 ((xi_le ha rg0).mp q)) H locs ls hP hS hl) (fun q => hgo _ _ _ _ ((b6 rfl).2 (fun z => q ((xi_le ha rg0).mpr z))) H locs ls hP hS hl)
    · exact h.elim
  -- if_icmp
  · rename_i cnd off
    have hl1 : len = 3 := by rcases hlen with q | q <;> first | exact q | cases q
    subst hl1
    split at h
    · rename_i b a r
      split at h
      case h_2 => exact h.elim
      rename_i t tr
      obtain ⟨ha, hb', hbr⟩ := h
      have h0 : (pc : Int) + off = (t : Int) := by simpa [xtg] using htg
      obtain ⟨b1, b2, b3, b4, b5, b6⟩ := xbr_ok hbr
      intro H locs ls hP hS hl
      cases cnd with
      | eq => exact lv_icmp_eq hx hb hdec h0 (fun q => hgo _ _ _ _ ((b1 rfl).1 ((xi_eq ha hb').mp q)) H locs ls hP hS hl) (fun q => hgo _ _ _ _ ((b1 rfl).2 (fun z => q ((xi_eq ha hb').mpr z))) H locs ls hP hS hl)
      | ne => exact lv_icmp_ne hx hb hdec h0 (fun q => hgo _ _ _ _ ((b2 rfl).1 (fun z => q ((xi_eq ha hb').mpr z))) H locs ls hP hS hl) (fun q => hgo _ _ _ _ ((b2 rfl).2 (fun z => z ((xi_eq ha hb').mp q))) H locs ls hP hS hl)
      | lt => exact lv_icmp_lt hx hb hdec h0 (fun q => hgo _ _ _ _ ((b3 rfl).1 ((xi_lt ha hb').mp q)) H locs ls hP hS hl) (fun q => hgo _ _ _ _ ((b3 rfl).2 (fun z => q ((xi_lt ha hb').mpr z))) H locs ls hP hS hl)
      | ge => exact lv_icmp_ge hx hb hdec h0 (fun q => hgo _ _ _ _ ((b4 rfl).1 ((xi_le hb' ha).mp q)) H locs ls hP hS hl) (fun q => hgo _ _ _ _ ((b4 rfl).2 (fun z => q ((xi_le hb' ha).mpr z))) H locs ls hP hS hl)
      | gt => exact lv_icmp_gt hx hb hdec h0 (fun q => hgo _ _ _ _ ((b5 rfl).1 ((xi_lt hb' ha).mp q)) H locs ls hP hS hl) (fun q => hgo _ _ _ _ ((b5 rfl).2 (fun z => q ((xi_lt hb' ha).mpr z))) H locs ls hP hS hl)
      | le => exact lv_icmp_le hx hb hdec h0 (fun q => hgo _ _ _ _ ((b6 rfl).1 ((xi_le ha hb').mp q)) H locs ls hP hS hl) (fun q => hgo _ _ _ _ ((b6 rfl).2 (fun z => q ((xi_le ha hb').mpr z))) H locs ls hP hS hl)
    · exact h.elim
  -- tableswitch
  · rename_i d lo hi offs
    split at h
    · rename_i x r
      split at h
      case h_2 => exact h.elim
      rename_i t ts
      obtain ⟨hg, h1, h2, h3⟩ := h
      have hq : ((pc : Int) + d = (t : Int) ∧ hi = lo + offs.size - 1) ∧ offs.toList.map (fun o => (pc : Int) + o) = ts.map (fun (t : Nat) => (t : Int)) := by
        simpa [xtg, Bool.and_eq_true, decide_eq_true_eq, -List.map_inj_left, -Array.toList_map] using htg
      obtain ⟨⟨q3, hhi⟩, q5⟩ := hq
      intro H locs ls hP hS hl
      by_cases q1 : x < lo
      · exact lv_tableOut hx hb hdec (Or.inl (by rw [to_xi hg]; exact q1)) q3 (hgo _ _ _ _ (h1 q1) H locs ls hP hS hl)
      · by_cases q2 : hi < x
        · exact lv_tableOut hx hb hdec (Or.inr (by rw [to_xi hg]; exact q2)) q3 (hgo _ _ _ _ (h2 q2) H locs ls hP hS hl)
        · have hk : (x - lo).toNat < offs.size := by omega
          have ho : offs[(x - lo).toNat]? = some offs[(x - lo).toNat] := Array.getElem?_eq_getElem hk
          have hts2 : (ts.map (fun (t : Nat) => (t : Int)))[(x - lo).toNat]? = some ((pc : Int) + offs[(x - lo).toNat]) := by
            rw [← q5, List.getElem?_map, Array.getElem?_toList, ho]
            rfl
          rw [List.getElem?_map] at hts2
          cases ht2 : ts[(x - lo).toNat]? with
          | none => rw [ht2] at hts2; cases hts2
          | some t2 =>
            rw [ht2] at hts2
            have e2 : (pc : Int) + offs[(x - lo).toNat] = (t2 : Int) := (Option.some.inj hts2).symm
            have h4 := xtab_ok ts lo h3 (x - lo).toNat t2 ht2 (by omega)
            exact lv_tableIn hx hb hdec (by rw [to_xi hg]; exact q1) (by rw [to_xi hg]; exact q2) (by rw [to_xi hg]; exact ho) e2 (hgo _ _ _ _ h4 H locs ls hP hS hl)
    · exact h.elim
  -- getfield
  · have hl1 : len = 3 := by rcases hlen with q | q <;> first | exact q | cases q
    subst hl1
    split at h
    · split at h
      · rename_i ci k b hfl
        split at h
        · rename_i ci' fs hLc
          replace h := xbif h
          obtain ⟨hci, h⟩ := h
          have hci := Nat.eq_of_beq_eq_true hci
          subst hci
          obtain ⟨C, Tt, N, ty0, g1, g0, g2, g3, g4, g5, g6, -, -⟩ := hF _ (xlk_mem hfl)
          obtain ⟨k, rfl⟩ : ∃ n : Nat, k = (n : Int) := ⟨k.toNat, (Int.toNat_of_nonneg g0).symm⟩
          intro H locs ls hP hS hl
          split at h
          · rename_i c' hk
            rw [Int.toNat_natCast] at hk
            exact va_get hx hb hts g3 hown hK hP _ (xW_get hLc) g1 k g2 (hts _ g4) (fun _ z => z) (v := .ref (ad c')) (by simp [hk, xfv]) hdec (hgo _ _ _ _ h H locs ls hP hS hl)
          · rename_i hk
            rw [Int.toNat_natCast] at hk
            exact va_get hx hb hts g3 hown hK hP _ (xW_get hLc) g1 k g2 (hts _ g4) (fun _ z => z) (v := .int (xi (M _ k))) (by simp [hk, xfv]) hdec (hgo _ _ _ _ h H locs ls hP hS hl)
          · exact h.elim
        · exact h.elim
      · exact h.elim
    · exact h.elim
  -- putfield
  · have hl1 : len = 3 := by rcases hlen with q | q <;> first | exact q | cases q
    subst hl1
    split at h
    · rename_i x c0 r
      split at h
      · rename_i ci k b hfl
        split at h
        · rename_i ci' fs hLc
          replace h := xbif h
          obtain ⟨hci, h⟩ := h
          have hci := Nat.eq_of_beq_eq_true hci
          subst hci
          obtain ⟨C, Tt, N, ty0, g1, g0, g2, g3, g4, g5, g6, g7, g8⟩ := hF _ (xlk_mem hfl)
          obtain ⟨k, rfl⟩ : ∃ n : Nat, k = (n : Int) := ⟨k.toNat, (Int.toNat_of_nonneg g0).symm⟩
          intro H locs ls hP hS hl
          split at h
          · rename_i hk
            rw [Int.toNat_natCast] at hk
            have hlt := (List.getElem?_eq_some_iff.mp hk).1
            have fin : ∃ ty, (Tt k).2.2.2 = false ∧ parseFieldDescriptor (Tt k).2.2.1 = some ty ∧ narrow ty (.int (xi x)) = .int (xi x) ∧ fits ty (.int (xi x)) = true := by
              match b, h with
              | 0, _ => exact ⟨.int, (g7 rfl).1, by rw [← (g7 rfl).2]; exact g5 _ g2, rfl, rfl⟩
              | 1, h1 => exact ⟨.boolean, (g8 rfl).1, by rw [← (g8 rfl).2]; exact g5 _ g2, (xi_nar_bool h1.1).1, (xi_nar_bool h1.1).2.1⟩
            obtain ⟨ty, f1, f2, f3, f4⟩ := fin
            refine va_put hx hb hts g3 ty0 g5 g6 hown hK hP (xW_D M hO) hS _ (xW_get hLc) g1 k g2 (hts _ g4) (fun _ z => z) f1 f2 f3 f4 (by simpa using hlt) hdec (fun H1 locs1 hP1 hD1 hS1 => ?_)
            exact hgo _ _ _ _ (xb01_go h) H1 locs1 ls (by rw [xW_put hLc (xe_put_obj hk)]; exact hP1) hS1 hl
          · exact h.elim
        · exact h.elim
      · exact h.elim
    · exact h.elim
  -- iaload
  · have hl1 : len = 1 := by rcases hlen with q | q <;> first | exact q | cases q
    subst hl1
    split at h
    · rename_i i c0 r
      split at h
      · rename_i n hLc
        intro H locs ls hP hS hl
        have hn := hO.2 _ _ _ hLc
        have hi0 := h.1
        obtain ⟨i, rfl⟩ : ∃ n : Nat, i = (n : Int) := ⟨i.toNat, (Int.toNat_of_nonneg h.1.1).symm⟩
        refine va_iald hx hb hK hP _ 0 (xW_get hLc) rfl (xi_in h.1 hn) hdec ?_
        rw [xi_clamp h.1 hn]
        exact hgo _ _ _ _ h.2 H locs ls hP hS hl
      · exact h.elim
    · exact h.elim
  -- baload
  · have hl1 : len = 1 := by rcases hlen with q | q <;> first | exact q | cases q
    subst hl1
    split at h
    · rename_i i c0 r
      split at h
      · rename_i n hLc
        intro H locs ls hP hS hl
        have hn := hO.2 _ _ _ hLc
        have hi0 := h.1
        obtain ⟨i, rfl⟩ : ∃ n : Nat, i = (n : Int) := ⟨i.toNat, (Int.toNat_of_nonneg h.1.1).symm⟩
        refine va_zald hx hb hK hP _ 1 (xW_get hLc) rfl (xi_in h.1 hn) hdec ?_
        rw [xi_clamp h.1 hn]
        exact hgo _ _ _ _ h.2 H locs ls hP hS hl
      · exact h.elim
    · exact h.elim
  -- iastore
  · have hl1 : len = 1 := by rcases hlen with q | q <;> first | exact q | cases q
    subst hl1
    split at h
    · rename_i x i c0 r
      split at h
      · rename_i n hLc
        intro H locs ls hP hS hl
        have hn := hO.2 _ _ _ hLc
        have hi0 := h.1
        obtain ⟨i, rfl⟩ : ∃ n : Nat, i = (n : Int) := ⟨i.toNat, (Int.toNat_of_nonneg h.1.1).symm⟩
        refine va_iast hx hb hK hP (xW_D M hO) hS _ 0 (xW_get hLc) rfl (xi_in h.1 hn) hdec (fun H1 locs1 hP1 hD1 hS1 => ?_)
        rw [xi_clamp h.1 hn] at hP1
        exact hgo _ _ _ _ h.2 H1 locs1 ls (by rw [xW_put hLc xe_put_arr]; exact hP1) hS1 hl
      · exact h.elim
    · exact h.elim
  -- bastore
  · have hl1 : len = 1 := by rcases hlen with q | q <;> first | exact q | cases q
    subst hl1
    split at h
    · rename_i x i c0 r
      split at h
      · rename_i n hLc
        intro H locs ls hP hS hl
        have hn := hO.2 _ _ _ hLc
        have hi0 := h.1
        obtain ⟨i, rfl⟩ : ∃ n : Nat, i = (n : Int) := ⟨i.toNat, (Int.toNat_of_nonneg h.1.1).symm⟩
        refine va_zast hx hb hK hP (xW_D M hO) hS _ 1 (xW_get hLc) rfl (xi_in h.1 hn) hdec (fun H1 locs1 hP1 hD1 hS1 => ?_)
        rw [xi_clamp h.1 hn, (xi_nar_bool h.2.1).2.2] at hP1
        exact hgo _ _ _ _ h.2.2 H1 locs1 ls (by rw [xW_put hLc xe_put_arr]; exact hP1) hS1 hl
      · exact h.elim
    · exact h.elim
  -- arraylength
  · have hl1 : len = 1 := by rcases hlen with q | q <;> first | exact q | cases q
    subst hl1
    split at h
    · split at h
      · rename_i n hLc
        intro H locs ls hP hS hl
        exact va_alen hx hb hK hP _ 0 (xW_get hLc) rfl (xi_nI n).symm hdec (hgo _ _ _ _ h H locs ls hP hS hl)
      · exact h.elim
    · exact h.elim
  -- invokevirtual
  · have hl1 : len = 3 := by rcases hlen with q | q <;> first | exact q | cases q
    subst hl1
    split at h
    · rename_i n vd tr hcal
      obtain ⟨h12, h3⟩ := xbif h
      obtain ⟨h1, h2⟩ := Bool.and_eq_true_iff.mp h12
      have h1 := Nat.le_of_ble_eq_true h1
      have h2 := Nat.le_of_ble_eq_true h2
      have hq := hC _ (xlk_mem hcal) pc lv (st.take n).reverse (st.drop n) M _ hdec (by simp; omega) (by simp; omega) h3 (fun r M' hp => hgo _ _ _ _ hp)
      rwa [List.reverse_reverse, List.take_append_drop] at hq
    · exact h.elim
  -- invokestatic
  · have hl1 : len = 3 := by rcases hlen with q | q <;> first | exact q | cases q
    subst hl1
    split at h
    · rename_i n vd tr hcal
      obtain ⟨h12, h3⟩ := xbif h
      obtain ⟨h1, h2⟩ := Bool.and_eq_true_iff.mp h12
      have h1 := Nat.le_of_ble_eq_true h1
      have h2 := Nat.le_of_ble_eq_true h2
      have hq := hC _ (xlk_mem hcal) pc lv (st.take n).reverse (st.drop n) M _ hdec (by simp; omega) (by simp; omega) h3 (fun r M' hp => hgo _ _ _ _ hp)
      rwa [List.reverse_reverse, List.take_append_drop] at hq
    · exact h.elim
  -- ireturn
  · have hl1 : len = 1 := by rcases hlen with q | q <;> first | exact q | cases q
    subst hl1
    split at h
    · rename_i x
      split at h
      · intro H locs ls hP hS hl
        exact W.zret (ty := .int) hx hb (hr.trans (hrt.2.1 rfl)) rfl (fun t ht hW => ⟨⟨x, M, rfl, h, by rw [ht]; exact hP, va_K.moved hW.alike hK, hN.warm hW⟩, hS.F ht⟩) hS.2.2 hdec
      · intro H locs ls hP hS hl
        exact W.zret (ty := .boolean) hx hb (hr.trans (hrt.2.2 rfl)) (xi_nar_bool h.1).1 (fun t ht hW => ⟨⟨x, M, rfl, h.2, by rw [ht]; exact hP, va_K.moved hW.alike hK, hN.warm hW⟩, hS.F ht⟩) hS.2.2 hdec
      · exact h.elim
    · exact h.elim
  -- return
  · have hl1 : len = 1 := by rcases hlen with q | q <;> first | exact q | cases q
    subst hl1
    split at h
    · split at h
      · intro H locs ls hP hS hl
        exact W.vret hx hb (hr.trans (hrt.1 rfl)) (fun t ht hW => ⟨⟨0, M, rfl, h, by rw [ht]; exact hP, va_K.moved hW.alike hK, hN.warm hW⟩, hS.F ht⟩) hS.2.2 hdec
      · exact h.elim
    · exact h.elim
  -- none
  · exact h.elim
end XS
end
section
/-! loops, calls, contracts of the pure machine -/
section XM
variable {p : Program} {l : Launch} {e : Env} {R : Room} {s : State} {m : MethodId} {args : Array Value} {below : List Frame} {meth : Method} {c : Code}
variable {D : va_G} {T : Nat → ClassId} {ad : Nat → Nat} {L : List xD} {nL : Nat} {cc : ByteArray} {own : String}
/-- the rows of a method's code -/
def xIOk (cc : ByteArray) (I : Nat → Option (Instr × List Nat)) : Prop := ∀ (pc : Nat) (ins : Instr) (tg : List Nat), I pc = some (ins, tg) → ∃ len, decode cc pc = .ok (ins, len) ∧ (xlen ins = 0 ∨ len = xlen ins) ∧ xtg ins tg pc = true
def xIchk (cc : ByteArray) (I : Nat → Option (Instr × List Nat)) (pc : Nat) : Bool := match I pc with
  | none => true
  | some (ins, tg) => match decode cc pc with
    | .ok q => decide (q.1 = ins) && (decide (xlen ins = 0) || decide (q.2 = xlen ins)) && xtg ins tg pc
    | .error _ => false
theorem xIOk_of {cc : ByteArray} {I : Nat → Option (Instr × List Nat)} {N : Nat} (h1 : ∀ pc, N ≤ pc → I pc = none) (h2 : (List.range N).all (xIchk cc I) = true) : xIOk cc I := by
  intro pc ins tg hi
  by_cases hN : N ≤ pc
  · rw [h1 pc hN] at hi; cases hi
  · have h3 := List.all_eq_true.mp h2 pc (List.mem_range.mpr (by omega))
    unfold xIchk at h3
    rw [hi] at h3
    dsimp only at h3
    split at h3
    · rename_i q hq
      obtain ⟨a, b⟩ := q
      simp only [Bool.and_eq_true, Bool.or_eq_true, decide_eq_true_eq] at h3
      obtain ⟨⟨rfl, h4⟩, h5⟩ := h3
      exact ⟨b, hq, h4, h5⟩
    · cases h3
theorem xw_ok {fld : xFld} {cals : xCal} {cst : xCst} {rt : Nat} {Rt : xR} {ret : Option FieldType} {I : Nat → Option (Instr × List Nat)} {cut : Nat → Bool} {K : xG}
    (hX : xX p s m args c D T cc nL own) (hlocks : meth.locks = false) (hr : meth.sig.returnType = ret) (hrt : (rt = 0 → ret = none) ∧ (rt = 1 → ret = some .int) ∧ (rt = 2 → ret = some .boolean))
    (hO : xOk ad L) (hF : ∀ q ∈ fld, xFOk own q) (hKc : ∀ q ∈ cst, xKOk own q) (hC : ∀ q ∈ cals, xCOk p l e R s m args below meth c D T ad L nL (MQ below (xQ D T ad L (decide (rt = 0)) Rt) args s 0 0 (xA ad L)) cc q)
    (hI : xIOk cc I) (hK : ∀ pc lv st M, K pc lv st M → Wx p l e R s m args below meth c D T ad L nL (MQ below (xQ D T ad L (decide (rt = 0)) Rt) args s 0 0 (xA ad L)) pc lv st M) :
    ∀ (n pc : Nat) (lv : xL) (st : List xV) (M : xM), xw L fld cals cst rt Rt I cut K n pc lv st M → Wx p l e R s m args below meth c D T ad L nL (MQ below (xQ D T ad L (decide (rt = 0)) Rt) args s 0 0 (xA ad L)) pc lv st M := by
  intro n
  induction n with
  | zero => intro pc lv st M h; exact h.elim
  | succ n ih =>
    intro pc lv st M h
    unfold xw at h
    split at h
    · rename_i ins tg hins
      obtain ⟨len, hd, hl, ht⟩ := hI _ _ _ hins
      refine xs_ok hX hlocks hr hrt hO hF hKc hC hd hl ht h (fun pc' lv' st' M' hg => ?_)
      cases hc : cut pc' with
      | true => rw [hc] at hg; exact hK _ _ _ _ hg
      | false => rw [hc] at hg; exact ih _ _ _ _ hg
    · exact h.elim
def xrm (h : Nat) : Room := { frames := h, cells := 0, slots := 0, locals := 40 * h }
/-- a method's contract: for every post that the transformer gives, the method comes to it -/
def xMet (l : Launch) (D : va_G) (T : Nat → ClassId) (ad : Nat → Nat) (L : List xD) (y : MethodName) (cc : ByteArray) (nL : Nat) (ret : Option FieldType) (vd : Bool) (h : Nat) (tr : xT) : Prop :=
  ∀ (as : List xV) (M : xM) (Post : xR), tr as M Post → Met l y (.code y cc nL ret :: xtb) (xrm h) (va_Pc (as.map (xv ad)) (xU D T ad L M)) (xQ D T ad L vd Post) 0 0 (xA ad L)
theorem xMet.mono {y : MethodName} {ret : Option FieldType} {vd : Bool} {h : Nat} {tr tr' : xT} (hm : xMet l D T ad L y cc nL ret vd h tr) (hi : ∀ as M Post, tr' as M Post → tr as M Post) : xMet l D T ad L y cc nL ret vd h tr' := fun as M Post ht => hm as M Post (hi _ _ _ ht)
/-- the names of a method: its own name, its code, its locals, its answer, how many parameters -/
def xYOk (y : MethodName) (cc : ByteArray) (nL : Nat) (ret : Option FieldType) (np : Nat) : Prop := nL ≤ 21 ∧ Cond.code y cc nL ret ∈ xtb ∧ Cond.initialized y.cls ∈ xtb ∧ (y.cls ≠ "java/lang/invoke/MethodHandle" ∧ y.cls ≠ "java/lang/invoke/VarHandle") ∧ (parseMethodDescriptor y.desc).map (fun d => d.parameters.length) = some np
def xLink (own : String) (idx : Nat) (y : MethodName) (b : Bool) : Prop := match b with
  | true => Cond.static y ∈ xtb ∧ (Cond.methodLink own idx y ∈ xtb ∨ ∃ host, (own, idx, y, host) ∈ xNest)
  | false => Cond.instanceMethod y ∈ xtb ∧ Cond.selects y.cls y y ∈ xtb ∧ Cond.methodLink own idx y ∈ xtb
def xRecv (L : List xD) (y : MethodName) (tr : xT) : Prop := ∃ (c0 ci : Nat) (fs : List (Option Nat)) (Tt : u_T) (N : Nat), L[c0]? = some (.inl (ci, fs)) ∧ vwCl[ci]? = some (y.cls, Tt, N) ∧ ∀ as M Post, tr as M Post → ∃ as', as = .inr c0 :: as'
def xCallee (l : Launch) (D : va_G) (T : Nat → ClassId) (ad : Nat → Nat) (L : List xD) (own : String) (h : Nat) (q : Nat × Bool × Nat × Bool × xT) : Prop :=
  ∃ (y : MethodName) (cc : ByteArray) (nL : Nat) (ret : Option FieldType) (hc np : Nat), hc < h ∧ xYOk y cc nL ret np ∧ xMet l D T ad L y cc nL ret q.2.2.2.1 hc q.2.2.2.2 ∧ xLink own q.1 y q.2.1 ∧ ((q.2.1 = true ∧ q.2.2.1 = np) ∨ (q.2.1 = false ∧ q.2.2.1 = np + 1 ∧ xRecv L y q.2.2.2.2))
theorem xtb_good {w : Cond} (h : w ∈ xtb) : (w.onTables && w.keeps) = true ∨ ∃ ty, w = .arrayClass ty := good_of_word (List.mem_filter.mp h).2
theorem xU.blind {M : xM} {as : List Value} : FrameBlind (va_Pc as (xU D T ad L M)) := by
  intro a U g mk q
  obtain ⟨q0, qP, qK, qN⟩ := q
  exact ⟨q0, qP, va_K.moved (u := U) (U := U.calling g mk a) (Vm.Alike.refl U.vm) qK, xN.same (U := U.calling g mk a) rfl qN⟩
theorem xcall {Q : State → Prop} {H : Heap} {locs : List Loc} {pc : Nat} {ls : Array Slot} {st0 rest : List Value} {Post : xR} {a : Array Value} {vd : Bool} (hr : va_Run p l e R s m args below meth c H locs 0 0 0 0 (F0 m pc ls st0) rest (xQ D T ad L vd Post a) (xA ad L)) (hS : va_S (xA ad L) s.heap H locs)
    (kk : ∀ (r : Int) (M : xM) (H1 : Heap) (locs1 : List Loc), Post r M → va_P D vwCl (xW T ad L M) H1 → va_S (xA ad L) s.heap H1 locs1 → W p l e R s m args below meth c H1 locs1 0 0 Q (F0 m (pc + 3) ls ((xrv vd r).toList ++ rest))) : W p l e R s m args below meth c H locs 0 0 Q (F0 m pc ls st0) := by
  intro S hT X
  obtain ⟨v, st₀, t, T', L', h0, X', hL, e1, e2, ⟨⟨r, M, hv, hp, hb⟩, hz, hk⟩, st⟩ := hr S hT X
  cases hv
  rw [h0] at hz hk
  obtain ⟨t2, a1, b1⟩ := kk r M T'.heap (locs ++ L') hp (by rw [e1]; exact hb.1)
    ⟨Nat.le_trans hS.1 (by rw [e1]; exact hz), fun q h1 h2 => by rw [e1, hk q (Nat.lt_of_lt_of_le h1 hS.1) h2]; exact hS.2.1 q h1 h2, fun q hq => by
      rcases List.mem_append.mp hq with h | h
      · exact hS.2.2 q h
      · exact hL q h⟩ T' rfl X'
  exact ⟨t2, st t2 a1, b1⟩
theorem xsum (ad : Nat → Nat) (rest : List xV) : ((rest.map (xv ad)).map fun v => v.category).sum = rest.length := by
  induction rest with
  | nil => rfl
  | cons v r ih => simp only [List.map_cons, List.sum_cons, List.length_cons, xv_cat, ih]; omega
theorem xto (ad : Nat → Nat) (vd : Bool) (r : Int) (rest : List xV) : (xrv vd r).toList ++ rest.map (xv ad) = (bif vd then rest else .inl r :: rest).map (xv ad) := by cases vd <;> rfl
set_option maxHeartbeats 4000000 in
/-- a callee's contract, at a call -/
theorem xCOk_of {Q : State → Prop} {h : Nat} {q : Nat × Bool × Nat × Bool × xT} (hX : xX p s m args c D T cc nL own) (hq : xCallee l D T ad L own h q) : xCOk p l e (xrm h) s m args below meth c D T ad L nL Q cc q := by
  obtain ⟨hx, hb, hml, hown, hts, hK, hN⟩ := id hX
  obtain ⟨y, ccy, nLy, ret, hc, np, hlt, ⟨y1, y2, y3, y4, y5⟩, hM, hlk, hk⟩ := hq
  intro pc lv as rest M Post hdec hlen hrest htr hgo H locs ls hP hS hl
  have hMt := hM as M Post htr
  have hG : ∀ w ∈ (Cond.code y ccy nLy ret :: xtb), ∀ (a' : Array Value) (U : State), s.WarmedH U.vm → w.before a' U = true := by
    intro w hw a' U hW
    have hw' : w ∈ xtb := by
      rcases List.mem_cons.mp hw with rfl | h2
      · exact y2
      · exact h2
    exact word_at hW (xtb_good hw') (hts w hw')
  have hfr : (xrm hc).frames + 1 ≤ (xrm h).frames := hlt
  have hlo : 8 + (nLy + 11) + (xrm hc).locals ≤ (xrm h).locals := by
    show 8 + (nLy + 11) + 40 * hc ≤ 40 * h
    omega
  have hsig : ∀ sig, parseMethodDescriptor y.desc = some sig → np = sig.parameters.length := fun sig hs => by
    rw [hs] at y5
    exact (Option.some.inj y5).symm
  have hpre : ∀ U : State, U.heap = H → s.WarmedH U.vm → va_Pc (as.map (xv ad)) (xU D T ad L M) (as.map (xv ad)).toArray U := fun U hU hW => ⟨rfl, by rw [hU]; exact hP, va_K.moved hW.alike hK, hN.warm hW⟩
  have hroom : 2 * (F0 m pc ls ((as.reverse ++ rest).map (xv ad))).monitorRoom + ((rest.map (xv ad)).map fun v => v.category).sum ≤ 8 := lv_room (by rw [xsum]; exact hrest)
  have hstk : (as.reverse ++ rest).map (xv ad) = (as.map (xv ad)).reverse ++ rest.map (xv ad) := by rw [List.map_append, List.map_reverse]
  have hkk : ∀ (r : Int) (M' : xM) (H1 : Heap) (locs1 : List Loc), Post r M' → va_P D vwCl (xW T ad L M') H1 → va_S (xA ad L) s.heap H1 locs1 → W p l e (xrm h) s m args below meth c H1 locs1 0 0 Q (F0 m (pc + 3) ls ((xrv q.2.2.2.1 r).toList ++ rest.map (xv ad))) := fun r M' H1 locs1 hp hP1 hS1 => by
    rw [xto]
    exact hgo r M' hp H1 locs1 ls hP1 hS1 hl
  have hsz : ls.size = nL := hl.2.choose_spec.1.1
  rcases hk with ⟨hb1, hn⟩ | ⟨hb1, hn, c0, ci, fs, Tt, N, hL0, hcl, hrec⟩
  · rw [hb1] at hdec hlk
    obtain ⟨hst, hlink⟩ := hlk
    rcases hlink with hlink | ⟨host, hlink⟩
    · refine xcall (va_runS (Ts := xtb) (own := own) (n := np) ⟨hx, hb, hml, hown, hts⟩ hMt ⟨⟨rfl, rfl, hfr, hlo, hG, List.mem_cons_self, hts _ y2, hts _ y3, y4, hsig, hts _ hlink⟩, hts _ hst⟩ ⟨xU.blind, hpre⟩ rfl (by rw [List.length_map, hlen, hn]) hsz hstk hroom hdec ⟨Nat.le_refl _, Nat.le_refl _⟩) hS hkk
    · refine xcall (va_runSN (Ts := xtb) (own := own) (host := host) (n := np) ⟨hx, hb, hml, hown, hts⟩ hMt ⟨⟨⟨rfl, rfl, hfr, hlo, hG, List.mem_cons_self⟩, hts _ y2, hts _ y3, y4, hsig, va_Nw.use rfl (hN _ hlink)⟩, hts _ hst, trivial⟩ ⟨xU.blind, hpre⟩ rfl (by rw [List.length_map, hlen, hn]) hsz hstk hroom hdec ⟨Nat.le_refl _, Nat.le_refl _⟩) hS hkk
  · rw [hb1] at hdec hlk
    obtain ⟨hin, hsel, hlink⟩ := hlk
    obtain ⟨as', rfl⟩ := hrec as M Post htr
    have hrcv := va_recv hK hP hcl (xW_get hL0)
    refine xcall (va_runV (Ts := xtb) (own := own) (C := y.cls) (n := np) (As := as'.map (xv ad)) (b := ad c0) ⟨hx, hb, hml, hown, hts⟩ hMt ⟨⟨rfl, rfl, hfr, hlo, hG, List.mem_cons_self, hts _ y2, hts _ y3, y4, hsig, hts _ hlink⟩, hts _ hin, hts _ hsel⟩ ⟨xU.blind, hrcv, hpre⟩ rfl (by simp at hlen; rw [List.length_map]; omega) hsz ?_ hroom hdec ⟨Nat.le_refl _, Nat.le_refl _⟩) hS hkk
    show ((Sum.inr c0 :: as').reverse ++ rest).map (xv ad) = _
    simp [xv]
def xlv (as : List xV) (nL : Nat) : xL := as.map some ++ List.replicate (nL - as.length) none
theorem xlv_ent {as : List xV} (h : as.length ≤ nL) : xl ad ((lg_sl (as.map (xv ad)) ++ List.replicate (nL - (lg_sl (as.map (xv ad))).length) Slot.unset).toArray) nL (xlv as nL) := by
  have e1 : lg_sl (as.map (xv ad)) = as.map (fun v => Slot.val (xv ad v)) := by
    clear h
    induction as with
    | nil => rfl
    | cons v r ih =>
      have : lg_sl ((v :: r).map (xv ad)) = (if (xv ad v).category = 2 then [Slot.val (xv ad v), .second] else [Slot.val (xv ad v)]) ++ lg_sl (r.map (xv ad)) := rfl
      rw [this, ih, xv_cat]
      rfl
  have hh := lv_entry (as.map (xv ad)) (n := nL) (by rw [e1, List.length_map]; exact h)
  refine ⟨by simp [xlv]; omega, _, hh, fun i v hi => ?_⟩
  have e2 : ∀ (as : List xV) (j i : Nat) (v : xV), as[i]? = some v → (j + i, xv ad v) ∈ lv_args j (as.map (xv ad)) := by
    intro as
    induction as with
    | nil => intro j i v h; simp at h
    | cons a r ih =>
      intro j i v h
      simp only [List.map_cons, lv_args, xv_cat]
      cases i with
      | zero =>
        simp at h
        subst h
        exact List.mem_cons_self
      | succ i =>
        simp at h
        have := ih (j + 1) i v h
        rw [show j + (i + 1) = j + 1 + i by omega]
        exact List.mem_cons_of_mem _ this
  have h3 : as[i]? = some v := by
    simp only [xlv] at hi
    by_cases hlt : i < as.length
    · rw [List.getElem?_append_left (by simpa using hlt), List.getElem?_map] at hi
      cases hv : as[i]? with
      | none => rw [hv] at hi; cases hi
      | some w => rw [hv] at hi; cases hi; rfl
    · rw [List.getElem?_append_right (by simpa using hlt)] at hi
      rw [List.getElem?_replicate] at hi
      split at hi <;> cases hi
  have := e2 as 0 i v h3
  rwa [Nat.zero_add] at this
set_option maxHeartbeats 4000000 in
/-- A METHOD: its code, its cuts with an invariant and a measure, its callees -/
theorem xmet {y : MethodName} {ret : Option FieldType} {h : Nat} {tr : xT} {fld : xFld} {cals : xCal} {cst : xCst} {rt : Nat} {I : Nat → Option (Instr × List Nat)} {cut : Nat → Bool} (hO : xOk ad L)
    (hy : plainName y.cls = true) (hrt : (rt = 0 → ret = none) ∧ (rt = 1 → ret = some .int) ∧ (rt = 2 → ret = some .boolean)) (hI : xIOk cc I) (hF : ∀ q ∈ fld, xFOk y.cls q) (hKc : ∀ q ∈ cst, xKOk y.cls q) (hC : ∀ q ∈ cals, xCallee l D T ad L y.cls h q)
    (hb : ∀ (as : List xV) (M : xM) (Post : xR), tr as M Post → as.length ≤ nL ∧ ∃ (Inv : xG) (μ : Nat → xL → List xV → xM → Nat) (f0 f1 : Nat),
      xw L fld cals cst rt Post I cut Inv f0 0 (xlv as nL) [] M ∧ ∀ pc lv st M', Inv pc lv st M' → xw L fld cals cst rt Post I cut (fun pc2 lv2 st2 M2 => Inv pc2 lv2 st2 M2 ∧ μ pc2 lv2 st2 M2 < μ pc lv st M') f1 pc lv st M') :
    xMet l D T ad L y cc nL ret (decide (rt = 0)) h tr := by
  intro as M Post htr
  obtain ⟨hlen, Inv, μ, f0, f1, h0, h1⟩ := hb as M Post htr
  refine Met.ofW (cc := cc) (maxL := nL) (ret := ret) hy rfl ?_
  intro p e s m args below meth c s₁ B hml hv
  obtain ⟨rfl, hP, hK, hN⟩ := hv
  have hts : ∀ w ∈ xtb, w.before (as.map (xv ad)).toArray s = true := fun w hw => atoms_spec (ws := Cond.code y cc nL ret :: xtb) B.pre w (List.mem_cons_of_mem _ hw)
  have hown : s.vm.findClass y.cls = some m.cls := findClass_of_methodNamed B.named
  have hX : xX p s m (as.map (xv ad)).toArray c D T cc nL y.cls := ⟨B.exec, B.bytes, hml, hown, hts, hK, hN⟩
  have hCs : ∀ q ∈ cals, xCOk p l e (xrm h) s m (as.map (xv ad)).toArray below meth c D T ad L nL (MQ below (xQ D T ad L (decide (rt = 0)) Post) (as.map (xv ad)).toArray s 0 0 (xA ad L)) cc q := fun q hq => xCOk_of hX (hC q hq)
  have hInv : ∀ (n : Nat) pc lv st M', Inv pc lv st M' → μ pc lv st M' < n → Wx p l e (xrm h) s m (as.map (xv ad)).toArray below meth c D T ad L nL (MQ below (xQ D T ad L (decide (rt = 0)) Post) (as.map (xv ad)).toArray s 0 0 (xA ad L)) pc lv st M' := by
    intro n
    induction n with
    | zero => intro pc lv st M' _ hlt; omega
    | succ n ih =>
      intro pc lv st M' hi hlt
      exact xw_ok hX B.notSynchronized B.returns hrt hO hF hKc hCs hI (fun pc2 lv2 st2 M2 hk => ih pc2 lv2 st2 M2 hk.1 (by have := hk.2; omega)) f1 pc lv st M' (h1 pc lv st M' hi)
  have hW := xw_ok hX B.notSynchronized B.returns hrt hO hF hKc hCs hI (fun pc2 lv2 st2 M2 hk => hInv _ pc2 lv2 st2 M2 hk (Nat.lt_succ_self _)) f0 0 (xlv as nL) [] M h0
  rw [lg_entry_eq]
  exact hW s.heap [] _ hP va_S.rf (xlv_ent hlen)
end XM
end
section
theorem xm {w : Cond} (i : Nat) (h : lw_tbl[i]? = some w) (g : goodWord w = true) : w ∈ xtb := List.mem_filter.mpr ⟨List.mem_of_getElem? h, g⟩
def xtree (N : Nat) (t : Nat → Option (Instr × List Nat)) : Nat → Option (Instr × List Nat) := fun pc => bif Nat.blt pc N then t pc else none
theorem xtree_none {N : Nat} {t : Nat → Option (Instr × List Nat)} {pc : Nat} (h : N ≤ pc) : xtree N t pc = none := by
  have : Nat.blt pc N = false := by
    rw [← Bool.not_eq_true, Nat.blt_eq]
    omega
  simp only [xtree, this, cond_false]
theorem inX2 : ∀ w ∈ u_ws RX2 TX2 3, w ∈ xtb := fun w h => List.mem_filter.mpr ⟨(show ∀ w ∈ u_ws RX2 TX2 3, w ∈ lw_tbl by decide +kernel) w h, (show ∀ w ∈ u_ws RX2 TX2 3, goodWord w = true by decide +kernel) w h⟩
def fldX2 : xFld := [(9, 2, 0, 2), (15, 2, 1, 2), (18, 2, 2, 0)]
theorem foX2 : ∀ q ∈ fldX2, xFOk RX2 q := List.forall_mem_cons.mpr ⟨⟨RX2, TX2, 3, tyX2, rfl, by decide, by decide, inX2, xm 65 (by decide +kernel) rfl, tyX2_ok, nmX2, by decide, by decide⟩, List.forall_mem_cons.mpr ⟨⟨RX2, TX2, 3, tyX2, rfl, by decide, by decide, inX2, xm 66 (by decide +kernel) rfl, tyX2_ok, nmX2, by decide, by decide⟩, List.forall_mem_cons.mpr ⟨⟨RX2, TX2, 3, tyX2, rfl, by decide, by decide, inX2, xm 67 (by decide +kernel) rfl, tyX2_ok, nmX2, by decide, by decide⟩, fun _ h => absurd h List.not_mem_nil⟩⟩⟩
set_option maxRecDepth 100000 in
def iX2_traces : Nat → Option (Instr × List Nat) := xtree 5 (fun pc => (bif Nat.blt pc 1 then (bif Nat.beq pc 0 then some (.aload_n 0, []) else none) else (bif Nat.blt pc 4 then (bif Nat.beq pc 1 then some (.getfield 18, []) else none) else (bif Nat.beq pc 4 then some (.ireturn, []) else none))))
set_option maxRecDepth 100000 in
theorem oX2_traces : xIOk cX2_traces iX2_traces := xIOk_of (N := 5) (fun pc h => xtree_none h) (by decide +kernel)
set_option maxRecDepth 100000 in
theorem yoX2_traces : xYOk yX2_traces cX2_traces 1 (some .int) 0 := ⟨by decide, xm 246 (by decide +kernel) rfl, xm 42 (by decide +kernel) rfl, by decide +kernel, by decide +kernel⟩
set_option maxRecDepth 100000 in
def iX2_all : Nat → Option (Instr × List Nat) := xtree 9 (fun pc => (bif Nat.blt pc 5 then (bif Nat.blt pc 1 then (bif Nat.beq pc 0 then some (.iconst 1, []) else none) else (bif Nat.blt pc 2 then (bif Nat.beq pc 1 then some (.aload_n 0, []) else none) else (bif Nat.beq pc 2 then some (.getfield 18, []) else none))) else (bif Nat.blt pc 7 then (bif Nat.blt pc 6 then (bif Nat.beq pc 5 then some (.ishl, []) else none) else (bif Nat.beq pc 6 then some (.iconst 1, []) else none)) else (bif Nat.blt pc 8 then (bif Nat.beq pc 7 then some (.isub, []) else none) else (bif Nat.beq pc 8 then some (.ireturn, []) else none)))))
set_option maxRecDepth 100000 in
theorem oX2_all : xIOk cX2_all iX2_all := xIOk_of (N := 9) (fun pc h => xtree_none h) (by decide +kernel)
set_option maxRecDepth 100000 in
theorem yoX2_all : xYOk yX2_all cX2_all 1 (some .int) 0 := ⟨by decide, xm 361 (by decide +kernel) rfl, xm 42 (by decide +kernel) rfl, by decide +kernel, by decide +kernel⟩
set_option maxRecDepth 100000 in
def iX2_length : Nat → Option (Instr × List Nat) := xtree 24 (fun pc => (bif Nat.blt pc 13 then (bif Nat.blt pc 5 then (bif Nat.blt pc 1 then (bif Nat.beq pc 0 then some (.iload_n 1, []) else none) else (bif Nat.blt pc 4 then (bif Nat.beq pc 1 then some (.ifCond .lt 21, [22]) else none) else (bif Nat.beq pc 4 then some (.iload_n 1, []) else none))) else (bif Nat.blt pc 9 then (bif Nat.blt pc 6 then (bif Nat.beq pc 5 then some (.aload_n 0, []) else none) else (bif Nat.beq pc 6 then some (.getfield 15, []) else none)) else (bif Nat.blt pc 10 then (bif Nat.beq pc 9 then some (.arraylength, []) else none) else (bif Nat.beq pc 10 then some (.if_icmp .ge 12, [22]) else none)))) else (bif Nat.blt pc 18 then (bif Nat.blt pc 14 then (bif Nat.beq pc 13 then some (.aload_n 0, []) else none) else (bif Nat.blt pc 17 then (bif Nat.beq pc 14 then some (.getfield 15, []) else none) else (bif Nat.beq pc 17 then some (.iload_n 1, []) else none))) else (bif Nat.blt pc 22 then (bif Nat.blt pc 19 then (bif Nat.beq pc 18 then some (.iaload, []) else none) else (bif Nat.beq pc 19 then some (.goto 4, [23]) else none)) else (bif Nat.blt pc 23 then (bif Nat.beq pc 22 then some (.iconst 0, []) else none) else (bif Nat.beq pc 23 then some (.ireturn, []) else none))))))
set_option maxRecDepth 100000 in
theorem oX2_length : xIOk cX2_length iX2_length := xIOk_of (N := 24) (fun pc h => xtree_none h) (by decide +kernel)
set_option maxRecDepth 100000 in
theorem yoX2_length : xYOk yX2_length cX2_length 2 (some .int) 1 := ⟨by decide, xm 212 (by decide +kernel) rfl, xm 42 (by decide +kernel) rfl, by decide +kernel, by decide +kernel⟩
set_option maxRecDepth 100000 in
def iX2_hopAt : Nat → Option (Instr × List Nat) := xtree 41 (fun pc => (bif Nat.blt pc 18 then (bif Nat.blt pc 7 then (bif Nat.blt pc 4 then (bif Nat.blt pc 1 then (bif Nat.beq pc 0 then some (.iload_n 1, []) else none) else (bif Nat.blt pc 3 then (bif Nat.beq pc 1 then some (.bipush 6, []) else none) else (bif Nat.beq pc 3 then some (.imul, []) else none))) else (bif Nat.blt pc 5 then (bif Nat.beq pc 4 then some (.iload_n 2, []) else none) else (bif Nat.blt pc 6 then (bif Nat.beq pc 5 then some (.iadd, []) else none) else (bif Nat.beq pc 6 then some (.istore_n 3, []) else none)))) else (bif Nat.blt pc 12 then (bif Nat.blt pc 8 then (bif Nat.beq pc 7 then some (.iload_n 2, []) else none) else (bif Nat.blt pc 11 then (bif Nat.beq pc 8 then some (.ifCond .lt 31, [39]) else none) else (bif Nat.beq pc 11 then some (.iload_n 2, []) else none))) else (bif Nat.blt pc 14 then (bif Nat.beq pc 12 then some (.bipush 6, []) else none) else (bif Nat.blt pc 17 then (bif Nat.beq pc 14 then some (.if_icmp .ge 25, [39]) else none) else (bif Nat.beq pc 17 then some (.iload_n 3, []) else none))))) else (bif Nat.blt pc 30 then (bif Nat.blt pc 23 then (bif Nat.blt pc 21 then (bif Nat.beq pc 18 then some (.ifCond .lt 21, [39]) else none) else (bif Nat.blt pc 22 then (bif Nat.beq pc 21 then some (.iload_n 3, []) else none) else (bif Nat.beq pc 22 then some (.aload_n 0, []) else none))) else (bif Nat.blt pc 26 then (bif Nat.beq pc 23 then some (.getfield 9, []) else none) else (bif Nat.blt pc 27 then (bif Nat.beq pc 26 then some (.arraylength, []) else none) else (bif Nat.beq pc 27 then some (.if_icmp .ge 12, [39]) else none)))) else (bif Nat.blt pc 35 then (bif Nat.blt pc 31 then (bif Nat.beq pc 30 then some (.aload_n 0, []) else none) else (bif Nat.blt pc 34 then (bif Nat.beq pc 31 then some (.getfield 9, []) else none) else (bif Nat.beq pc 34 then some (.iload_n 3, []) else none))) else (bif Nat.blt pc 39 then (bif Nat.blt pc 36 then (bif Nat.beq pc 35 then some (.iaload, []) else none) else (bif Nat.beq pc 36 then some (.goto 4, [40]) else none)) else (bif Nat.blt pc 40 then (bif Nat.beq pc 39 then some (.iconst (-1), []) else none) else (bif Nat.beq pc 40 then some (.ireturn, []) else none)))))))
set_option maxRecDepth 100000 in
theorem oX2_hopAt : xIOk cX2_hopAt iX2_hopAt := xIOk_of (N := 41) (fun pc h => xtree_none h) (by decide +kernel)
set_option maxRecDepth 100000 in
theorem yoX2_hopAt : xYOk yX2_hopAt cX2_hopAt 4 (some .int) 2 := ⟨by decide, xm 216 (by decide +kernel) rfl, xm 42 (by decide +kernel) rfl, by decide +kernel, by decide +kernel⟩
set_option maxRecDepth 100000 in
def iX2_has : Nat → Option (Instr × List Nat) := xtree 31 (fun pc => (bif Nat.blt pc 13 then (bif Nat.blt pc 4 then (bif Nat.blt pc 2 then (bif Nat.blt pc 1 then (bif Nat.beq pc 0 then some (.iconst 0, []) else none) else (bif Nat.beq pc 1 then some (.istore_n 3, []) else none)) else (bif Nat.blt pc 3 then (bif Nat.beq pc 2 then some (.iload_n 3, []) else none) else (bif Nat.beq pc 3 then some (.aload_n 0, []) else none))) else (bif Nat.blt pc 8 then (bif Nat.blt pc 5 then (bif Nat.beq pc 4 then some (.iload_n 1, []) else none) else (bif Nat.beq pc 5 then some (.invokevirtual 22, []) else none)) else (bif Nat.blt pc 11 then (bif Nat.beq pc 8 then some (.if_icmp .ge 21, [29]) else none) else (bif Nat.blt pc 12 then (bif Nat.beq pc 11 then some (.aload_n 0, []) else none) else (bif Nat.beq pc 12 then some (.iload_n 1, []) else none))))) else (bif Nat.blt pc 22 then (bif Nat.blt pc 17 then (bif Nat.blt pc 14 then (bif Nat.beq pc 13 then some (.iload_n 3, []) else none) else (bif Nat.beq pc 14 then some (.invokevirtual 26, []) else none)) else (bif Nat.blt pc 18 then (bif Nat.beq pc 17 then some (.iload_n 2, []) else none) else (bif Nat.blt pc 21 then (bif Nat.beq pc 18 then some (.if_icmp .ne 5, [23]) else none) else (bif Nat.beq pc 21 then some (.iconst 1, []) else none)))) else (bif Nat.blt pc 26 then (bif Nat.blt pc 23 then (bif Nat.beq pc 22 then some (.ireturn, []) else none) else (bif Nat.beq pc 23 then some (.iinc 3 1, []) else none)) else (bif Nat.blt pc 29 then (bif Nat.beq pc 26 then some (.goto (-24), [2]) else none) else (bif Nat.blt pc 30 then (bif Nat.beq pc 29 then some (.iconst 0, []) else none) else (bif Nat.beq pc 30 then some (.ireturn, []) else none)))))))
set_option maxRecDepth 100000 in
theorem oX2_has : xIOk cX2_has iX2_has := xIOk_of (N := 31) (fun pc h => xtree_none h) (by decide +kernel)
set_option maxRecDepth 100000 in
theorem yoX2_has : xYOk yX2_has cX2_has 4 (some .boolean) 2 := ⟨by decide, xm 208 (by decide +kernel) rfl, xm 42 (by decide +kernel) rfl, by decide +kernel, by decide +kernel⟩
set_option maxRecDepth 100000 in
def iX2_silentsIn : Nat → Option (Instr × List Nat) := xtree 34 (fun pc => (bif Nat.blt pc 14 then (bif Nat.blt pc 5 then (bif Nat.blt pc 2 then (bif Nat.blt pc 1 then (bif Nat.beq pc 0 then some (.iconst 0, []) else none) else (bif Nat.beq pc 1 then some (.istore_n 2, []) else none)) else (bif Nat.blt pc 3 then (bif Nat.beq pc 2 then some (.iconst 0, []) else none) else (bif Nat.blt pc 4 then (bif Nat.beq pc 3 then some (.istore_n 3, []) else none) else (bif Nat.beq pc 4 then some (.iload_n 3, []) else none)))) else (bif Nat.blt pc 7 then (bif Nat.blt pc 6 then (bif Nat.beq pc 5 then some (.aload_n 0, []) else none) else (bif Nat.beq pc 6 then some (.iload_n 1, []) else none)) else (bif Nat.blt pc 10 then (bif Nat.beq pc 7 then some (.invokevirtual 22, []) else none) else (bif Nat.blt pc 13 then (bif Nat.beq pc 10 then some (.if_icmp .ge 22, [32]) else none) else (bif Nat.beq pc 13 then some (.aload_n 0, []) else none))))) else (bif Nat.blt pc 23 then (bif Nat.blt pc 16 then (bif Nat.blt pc 15 then (bif Nat.beq pc 14 then some (.iload_n 1, []) else none) else (bif Nat.beq pc 15 then some (.iload_n 3, []) else none)) else (bif Nat.blt pc 19 then (bif Nat.beq pc 16 then some (.invokevirtual 26, []) else none) else (bif Nat.blt pc 20 then (bif Nat.beq pc 19 then some (.iconst (-1), []) else none) else (bif Nat.beq pc 20 then some (.if_icmp .ne 6, [26]) else none)))) else (bif Nat.blt pc 29 then (bif Nat.blt pc 26 then (bif Nat.beq pc 23 then some (.iinc 2 1, []) else none) else (bif Nat.beq pc 26 then some (.iinc 3 1, []) else none)) else (bif Nat.blt pc 32 then (bif Nat.beq pc 29 then some (.goto (-25), [4]) else none) else (bif Nat.blt pc 33 then (bif Nat.beq pc 32 then some (.iload_n 2, []) else none) else (bif Nat.beq pc 33 then some (.ireturn, []) else none)))))))
set_option maxRecDepth 100000 in
theorem oX2_silentsIn : xIOk cX2_silentsIn iX2_silentsIn := xIOk_of (N := 34) (fun pc h => xtree_none h) (by decide +kernel)
set_option maxRecDepth 100000 in
theorem yoX2_silentsIn : xYOk yX2_silentsIn cX2_silentsIn 4 (some .int) 1 := ⟨by decide, xm 225 (by decide +kernel) rfl, xm 42 (by decide +kernel) rfl, by decide +kernel, by decide +kernel⟩
set_option maxRecDepth 100000 in
def iX2_silents : Nat → Option (Instr × List Nat) := xtree 28 (fun pc => (bif Nat.blt pc 13 then (bif Nat.blt pc 4 then (bif Nat.blt pc 2 then (bif Nat.blt pc 1 then (bif Nat.beq pc 0 then some (.iconst 0, []) else none) else (bif Nat.beq pc 1 then some (.istore_n 1, []) else none)) else (bif Nat.blt pc 3 then (bif Nat.beq pc 2 then some (.iconst 0, []) else none) else (bif Nat.beq pc 3 then some (.istore_n 2, []) else none))) else (bif Nat.blt pc 6 then (bif Nat.blt pc 5 then (bif Nat.beq pc 4 then some (.iload_n 2, []) else none) else (bif Nat.beq pc 5 then some (.aload_n 0, []) else none)) else (bif Nat.blt pc 9 then (bif Nat.beq pc 6 then some (.getfield 18, []) else none) else (bif Nat.blt pc 12 then (bif Nat.beq pc 9 then some (.if_icmp .ge 17, [26]) else none) else (bif Nat.beq pc 12 then some (.iload_n 1, []) else none))))) else (bif Nat.blt pc 19 then (bif Nat.blt pc 15 then (bif Nat.blt pc 14 then (bif Nat.beq pc 13 then some (.aload_n 0, []) else none) else (bif Nat.beq pc 14 then some (.iload_n 2, []) else none)) else (bif Nat.blt pc 18 then (bif Nat.beq pc 15 then some (.invokevirtual 30, []) else none) else (bif Nat.beq pc 18 then some (.iadd, []) else none))) else (bif Nat.blt pc 23 then (bif Nat.blt pc 20 then (bif Nat.beq pc 19 then some (.istore_n 1, []) else none) else (bif Nat.beq pc 20 then some (.iinc 2 1, []) else none)) else (bif Nat.blt pc 26 then (bif Nat.beq pc 23 then some (.goto (-19), [4]) else none) else (bif Nat.blt pc 27 then (bif Nat.beq pc 26 then some (.iload_n 1, []) else none) else (bif Nat.beq pc 27 then some (.ireturn, []) else none)))))))
set_option maxRecDepth 100000 in
theorem oX2_silents : xIOk cX2_silents iX2_silents := xIOk_of (N := 28) (fun pc h => xtree_none h) (by decide +kernel)
set_option maxRecDepth 100000 in
theorem yoX2_silents : xYOk yX2_silents cX2_silents 3 (some .int) 0 := ⟨by decide, xm 221 (by decide +kernel) rfl, xm 42 (by decide +kernel) rfl, by decide +kernel, by decide +kernel⟩
set_option maxRecDepth 100000 in
def iX2_names : Nat → Option (Instr × List Nat) := xtree 62 (fun pc => (bif Nat.blt pc 26 then (bif Nat.blt pc 13 then (bif Nat.blt pc 4 then (bif Nat.blt pc 2 then (bif Nat.blt pc 1 then (bif Nat.beq pc 0 then some (.iconst 0, []) else none) else (bif Nat.beq pc 1 then some (.istore_n 1, []) else none)) else (bif Nat.blt pc 3 then (bif Nat.beq pc 2 then some (.iconst 0, []) else none) else (bif Nat.beq pc 3 then some (.istore_n 2, []) else none))) else (bif Nat.blt pc 6 then (bif Nat.blt pc 5 then (bif Nat.beq pc 4 then some (.iload_n 2, []) else none) else (bif Nat.beq pc 5 then some (.aload_n 0, []) else none)) else (bif Nat.blt pc 9 then (bif Nat.beq pc 6 then some (.getfield 18, []) else none) else (bif Nat.blt pc 12 then (bif Nat.beq pc 9 then some (.if_icmp .ge 51, [60]) else none) else (bif Nat.beq pc 12 then some (.iconst 0, []) else none))))) else (bif Nat.blt pc 17 then (bif Nat.blt pc 15 then (bif Nat.blt pc 14 then (bif Nat.beq pc 13 then some (.istore_n 3, []) else none) else (bif Nat.beq pc 14 then some (.iload_n 3, []) else none)) else (bif Nat.blt pc 16 then (bif Nat.beq pc 15 then some (.aload_n 0, []) else none) else (bif Nat.beq pc 16 then some (.iload_n 2, []) else none))) else (bif Nat.blt pc 23 then (bif Nat.blt pc 20 then (bif Nat.beq pc 17 then some (.invokevirtual 22, []) else none) else (bif Nat.beq pc 20 then some (.if_icmp .ge 34, [54]) else none)) else (bif Nat.blt pc 24 then (bif Nat.beq pc 23 then some (.aload_n 0, []) else none) else (bif Nat.blt pc 25 then (bif Nat.beq pc 24 then some (.iload_n 2, []) else none) else (bif Nat.beq pc 25 then some (.iload_n 3, []) else none)))))) else (bif Nat.blt pc 43 then (bif Nat.blt pc 34 then (bif Nat.blt pc 31 then (bif Nat.blt pc 29 then (bif Nat.beq pc 26 then some (.invokevirtual 26, []) else none) else (bif Nat.beq pc 29 then some (.istore 4, []) else none)) else (bif Nat.blt pc 32 then (bif Nat.beq pc 31 then some (.iload_n 1, []) else none) else (bif Nat.beq pc 32 then some (.iload 4, []) else none))) else (bif Nat.blt pc 38 then (bif Nat.blt pc 35 then (bif Nat.beq pc 34 then some (.iconst (-1), []) else none) else (bif Nat.beq pc 35 then some (.if_icmp .ne 7, [42]) else none)) else (bif Nat.blt pc 39 then (bif Nat.beq pc 38 then some (.iconst 0, []) else none) else (bif Nat.blt pc 42 then (bif Nat.beq pc 39 then some (.goto 7, [46]) else none) else (bif Nat.beq pc 42 then some (.iconst 1, []) else none))))) else (bif Nat.blt pc 51 then (bif Nat.blt pc 46 then (bif Nat.blt pc 45 then (bif Nat.beq pc 43 then some (.iload 4, []) else none) else (bif Nat.beq pc 45 then some (.ishl, []) else none)) else (bif Nat.blt pc 47 then (bif Nat.beq pc 46 then some (.ior, []) else none) else (bif Nat.blt pc 48 then (bif Nat.beq pc 47 then some (.istore_n 1, []) else none) else (bif Nat.beq pc 48 then some (.iinc 3 1, []) else none)))) else (bif Nat.blt pc 57 then (bif Nat.blt pc 54 then (bif Nat.beq pc 51 then some (.goto (-37), [14]) else none) else (bif Nat.beq pc 54 then some (.iinc 2 1, []) else none)) else (bif Nat.blt pc 60 then (bif Nat.beq pc 57 then some (.goto (-53), [4]) else none) else (bif Nat.blt pc 61 then (bif Nat.beq pc 60 then some (.iload_n 1, []) else none) else (bif Nat.beq pc 61 then some (.ireturn, []) else none))))))))
set_option maxRecDepth 100000 in
theorem oX2_names : xIOk cX2_names iX2_names := xIOk_of (N := 62) (fun pc h => xtree_none h) (by decide +kernel)
set_option maxRecDepth 100000 in
theorem yoX2_names : xYOk yX2_names cX2_names 5 (some .int) 0 := ⟨by decide, xm 353 (by decide +kernel) rfl, xm 42 (by decide +kernel) rfl, by decide +kernel, by decide +kernel⟩
set_option maxRecDepth 100000 in
def iX2_append : Nat → Option (Instr × List Nat) := xtree 61 (fun pc => (bif Nat.blt pc 30 then (bif Nat.blt pc 12 then (bif Nat.blt pc 6 then (bif Nat.blt pc 2 then (bif Nat.blt pc 1 then (bif Nat.beq pc 0 then some (.aload_n 0, []) else none) else (bif Nat.beq pc 1 then some (.iload_n 1, []) else none)) else (bif Nat.blt pc 5 then (bif Nat.beq pc 2 then some (.invokevirtual 22, []) else none) else (bif Nat.beq pc 5 then some (.istore_n 3, []) else none))) else (bif Nat.blt pc 9 then (bif Nat.blt pc 7 then (bif Nat.beq pc 6 then some (.iload_n 1, []) else none) else (bif Nat.beq pc 7 then some (.bipush 6, []) else none)) else (bif Nat.blt pc 10 then (bif Nat.beq pc 9 then some (.imul, []) else none) else (bif Nat.blt pc 11 then (bif Nat.beq pc 10 then some (.iload_n 3, []) else none) else (bif Nat.beq pc 11 then some (.iadd, []) else none))))) else (bif Nat.blt pc 20 then (bif Nat.blt pc 15 then (bif Nat.blt pc 14 then (bif Nat.beq pc 12 then some (.istore 4, []) else none) else (bif Nat.beq pc 14 then some (.iload_n 1, []) else none)) else (bif Nat.blt pc 18 then (bif Nat.beq pc 15 then some (.ifCond .lt 45, [60]) else none) else (bif Nat.blt pc 19 then (bif Nat.beq pc 18 then some (.iload_n 1, []) else none) else (bif Nat.beq pc 19 then some (.aload_n 0, []) else none)))) else (bif Nat.blt pc 24 then (bif Nat.blt pc 23 then (bif Nat.beq pc 20 then some (.getfield 15, []) else none) else (bif Nat.beq pc 23 then some (.arraylength, []) else none)) else (bif Nat.blt pc 27 then (bif Nat.beq pc 24 then some (.if_icmp .ge 36, [60]) else none) else (bif Nat.blt pc 28 then (bif Nat.beq pc 27 then some (.iload_n 3, []) else none) else (bif Nat.beq pc 28 then some (.bipush 6, []) else none)))))) else (bif Nat.blt pc 49 then (bif Nat.blt pc 39 then (bif Nat.blt pc 35 then (bif Nat.blt pc 33 then (bif Nat.beq pc 30 then some (.if_icmp .ge 30, [60]) else none) else (bif Nat.beq pc 33 then some (.iload 4, []) else none)) else (bif Nat.blt pc 36 then (bif Nat.beq pc 35 then some (.aload_n 0, []) else none) else (bif Nat.beq pc 36 then some (.getfield 9, []) else none))) else (bif Nat.blt pc 43 then (bif Nat.blt pc 40 then (bif Nat.beq pc 39 then some (.arraylength, []) else none) else (bif Nat.beq pc 40 then some (.if_icmp .ge 20, [60]) else none)) else (bif Nat.blt pc 44 then (bif Nat.beq pc 43 then some (.aload_n 0, []) else none) else (bif Nat.blt pc 47 then (bif Nat.beq pc 44 then some (.getfield 9, []) else none) else (bif Nat.beq pc 47 then some (.iload 4, []) else none))))) else (bif Nat.blt pc 56 then (bif Nat.blt pc 51 then (bif Nat.blt pc 50 then (bif Nat.beq pc 49 then some (.iload_n 2, []) else none) else (bif Nat.beq pc 50 then some (.iastore, []) else none)) else (bif Nat.blt pc 52 then (bif Nat.beq pc 51 then some (.aload_n 0, []) else none) else (bif Nat.blt pc 55 then (bif Nat.beq pc 52 then some (.getfield 15, []) else none) else (bif Nat.beq pc 55 then some (.iload_n 1, []) else none)))) else (bif Nat.blt pc 58 then (bif Nat.blt pc 57 then (bif Nat.beq pc 56 then some (.iload_n 3, []) else none) else (bif Nat.beq pc 57 then some (.iconst 1, []) else none)) else (bif Nat.blt pc 59 then (bif Nat.beq pc 58 then some (.iadd, []) else none) else (bif Nat.blt pc 60 then (bif Nat.beq pc 59 then some (.iastore, []) else none) else (bif Nat.beq pc 60 then some (.return_, []) else none))))))))
set_option maxRecDepth 100000 in
theorem oX2_append : xIOk cX2_append iX2_append := xIOk_of (N := 61) (fun pc h => xtree_none h) (by decide +kernel)
set_option maxRecDepth 100000 in
theorem yoX2_append : xYOk yX2_append cX2_append 5 none 2 := ⟨by decide, xm 230 (by decide +kernel) rfl, xm 42 (by decide +kernel) rfl, by decide +kernel, by decide +kernel⟩
set_option maxRecDepth 100000 in
def iX2_empty : Nat → Option (Instr × List Nat) := xtree 21 (fun pc => (bif Nat.blt pc 10 then (bif Nat.blt pc 5 then (bif Nat.blt pc 1 then (bif Nat.beq pc 0 then some (.iload_n 1, []) else none) else (bif Nat.blt pc 4 then (bif Nat.beq pc 1 then some (.ifCond .lt 19, [20]) else none) else (bif Nat.beq pc 4 then some (.iload_n 1, []) else none))) else (bif Nat.blt pc 6 then (bif Nat.beq pc 5 then some (.aload_n 0, []) else none) else (bif Nat.blt pc 9 then (bif Nat.beq pc 6 then some (.getfield 15, []) else none) else (bif Nat.beq pc 9 then some (.arraylength, []) else none)))) else (bif Nat.blt pc 17 then (bif Nat.blt pc 13 then (bif Nat.beq pc 10 then some (.if_icmp .ge 10, [20]) else none) else (bif Nat.blt pc 14 then (bif Nat.beq pc 13 then some (.aload_n 0, []) else none) else (bif Nat.beq pc 14 then some (.getfield 15, []) else none))) else (bif Nat.blt pc 19 then (bif Nat.blt pc 18 then (bif Nat.beq pc 17 then some (.iload_n 1, []) else none) else (bif Nat.beq pc 18 then some (.iconst 0, []) else none)) else (bif Nat.blt pc 20 then (bif Nat.beq pc 19 then some (.iastore, []) else none) else (bif Nat.beq pc 20 then some (.return_, []) else none))))))
set_option maxRecDepth 100000 in
theorem oX2_empty : xIOk cX2_empty iX2_empty := xIOk_of (N := 21) (fun pc h => xtree_none h) (by decide +kernel)
set_option maxRecDepth 100000 in
theorem yoX2_empty : xYOk yX2_empty cX2_empty 2 none 1 := ⟨by decide, xm 238 (by decide +kernel) rfl, xm 42 (by decide +kernel) rfl, by decide +kernel, by decide +kernel⟩
set_option maxRecDepth 100000 in
def iX2_keepHand : Nat → Option (Instr × List Nat) := xtree 36 (fun pc => (bif Nat.blt pc 19 then (bif Nat.blt pc 9 then (bif Nat.blt pc 4 then (bif Nat.blt pc 1 then (bif Nat.beq pc 0 then some (.aload_n 0, []) else none) else (bif Nat.beq pc 1 then some (.getfield 18, []) else none)) else (bif Nat.blt pc 6 then (bif Nat.beq pc 4 then some (.bipush 6, []) else none) else (bif Nat.beq pc 6 then some (.if_icmp .ge 29, [35]) else none))) else (bif Nat.blt pc 12 then (bif Nat.blt pc 10 then (bif Nat.beq pc 9 then some (.aload_n 0, []) else none) else (bif Nat.beq pc 10 then some (.bipush 6, []) else none)) else (bif Nat.blt pc 13 then (bif Nat.beq pc 12 then some (.aload_n 0, []) else none) else (bif Nat.blt pc 16 then (bif Nat.beq pc 13 then some (.getfield 18, []) else none) else (bif Nat.beq pc 16 then some (.invokevirtual 33, []) else none))))) else (bif Nat.blt pc 27 then (bif Nat.blt pc 22 then (bif Nat.blt pc 20 then (bif Nat.beq pc 19 then some (.aload_n 0, []) else none) else (bif Nat.beq pc 20 then some (.bipush 6, []) else none)) else (bif Nat.blt pc 25 then (bif Nat.beq pc 22 then some (.invokevirtual 37, []) else none) else (bif Nat.blt pc 26 then (bif Nat.beq pc 25 then some (.aload_n 0, []) else none) else (bif Nat.beq pc 26 then some (.dup, []) else none)))) else (bif Nat.blt pc 31 then (bif Nat.blt pc 30 then (bif Nat.beq pc 27 then some (.getfield 18, []) else none) else (bif Nat.beq pc 30 then some (.iconst 1, []) else none)) else (bif Nat.blt pc 32 then (bif Nat.beq pc 31 then some (.iadd, []) else none) else (bif Nat.blt pc 35 then (bif Nat.beq pc 32 then some (.putfield 18, []) else none) else (bif Nat.beq pc 35 then some (.return_, []) else none)))))))
set_option maxRecDepth 100000 in
theorem oX2_keepHand : xIOk cX2_keepHand iX2_keepHand := xIOk_of (N := 36) (fun pc h => xtree_none h) (by decide +kernel)
set_option maxRecDepth 100000 in
theorem yoX2_keepHand : xYOk yX2_keepHand cX2_keepHand 1 none 0 := ⟨by decide, xm 251 (by decide +kernel) rfl, xm 42 (by decide +kernel) rfl, by decide +kernel, by decide +kernel⟩
set_option maxRecDepth 100000 in
def iX2_remove : Nat → Option (Instr × List Nat) := xtree 49 (fun pc => (bif Nat.blt pc 24 then (bif Nat.blt pc 13 then (bif Nat.blt pc 5 then (bif Nat.blt pc 1 then (bif Nat.beq pc 0 then some (.iload_n 1, []) else none) else (bif Nat.blt pc 4 then (bif Nat.beq pc 1 then some (.ifCond .lt 47, [48]) else none) else (bif Nat.beq pc 4 then some (.iload_n 1, []) else none))) else (bif Nat.blt pc 9 then (bif Nat.blt pc 6 then (bif Nat.beq pc 5 then some (.aload_n 0, []) else none) else (bif Nat.beq pc 6 then some (.getfield 18, []) else none)) else (bif Nat.blt pc 12 then (bif Nat.beq pc 9 then some (.if_icmp .ge 39, [48]) else none) else (bif Nat.beq pc 12 then some (.iload_n 1, []) else none)))) else (bif Nat.blt pc 16 then (bif Nat.blt pc 14 then (bif Nat.beq pc 13 then some (.istore_n 2, []) else none) else (bif Nat.blt pc 15 then (bif Nat.beq pc 14 then some (.iload_n 2, []) else none) else (bif Nat.beq pc 15 then some (.iconst 1, []) else none))) else (bif Nat.blt pc 18 then (bif Nat.blt pc 17 then (bif Nat.beq pc 16 then some (.iadd, []) else none) else (bif Nat.beq pc 17 then some (.aload_n 0, []) else none)) else (bif Nat.blt pc 21 then (bif Nat.beq pc 18 then some (.getfield 18, []) else none) else (bif Nat.beq pc 21 then some (.if_icmp .ge 17, [38]) else none))))) else (bif Nat.blt pc 35 then (bif Nat.blt pc 27 then (bif Nat.blt pc 25 then (bif Nat.beq pc 24 then some (.aload_n 0, []) else none) else (bif Nat.blt pc 26 then (bif Nat.beq pc 25 then some (.iload_n 2, []) else none) else (bif Nat.beq pc 26 then some (.iconst 1, []) else none))) else (bif Nat.blt pc 29 then (bif Nat.blt pc 28 then (bif Nat.beq pc 27 then some (.iadd, []) else none) else (bif Nat.beq pc 28 then some (.iload_n 2, []) else none)) else (bif Nat.blt pc 32 then (bif Nat.beq pc 29 then some (.invokevirtual 33, []) else none) else (bif Nat.beq pc 32 then some (.iinc 2 1, []) else none)))) else (bif Nat.blt pc 43 then (bif Nat.blt pc 39 then (bif Nat.blt pc 38 then (bif Nat.beq pc 35 then some (.goto (-21), [14]) else none) else (bif Nat.beq pc 38 then some (.aload_n 0, []) else none)) else (bif Nat.blt pc 40 then (bif Nat.beq pc 39 then some (.dup, []) else none) else (bif Nat.beq pc 40 then some (.getfield 18, []) else none))) else (bif Nat.blt pc 45 then (bif Nat.blt pc 44 then (bif Nat.beq pc 43 then some (.iconst 1, []) else none) else (bif Nat.beq pc 44 then some (.isub, []) else none)) else (bif Nat.blt pc 48 then (bif Nat.beq pc 45 then some (.putfield 18, []) else none) else (bif Nat.beq pc 48 then some (.return_, []) else none)))))))
set_option maxRecDepth 100000 in
theorem oX2_remove : xIOk cX2_remove iX2_remove := xIOk_of (N := 49) (fun pc h => xtree_none h) (by decide +kernel)
set_option maxRecDepth 100000 in
theorem yoX2_remove : xYOk yX2_remove cX2_remove 3 none 1 := ⟨by decide, xm 281 (by decide +kernel) rfl, xm 42 (by decide +kernel) rfl, by decide +kernel, by decide +kernel⟩
set_option maxRecDepth 100000 in
def iX2_copy : Nat → Option (Instr × List Nat) := xtree 39 (fun pc => (bif Nat.blt pc 17 then (bif Nat.blt pc 7 then (bif Nat.blt pc 2 then (bif Nat.blt pc 1 then (bif Nat.beq pc 0 then some (.aload_n 0, []) else none) else (bif Nat.beq pc 1 then some (.iload_n 1, []) else none)) else (bif Nat.blt pc 5 then (bif Nat.beq pc 2 then some (.invokevirtual 22, []) else none) else (bif Nat.blt pc 6 then (bif Nat.beq pc 5 then some (.istore_n 3, []) else none) else (bif Nat.beq pc 6 then some (.aload_n 0, []) else none)))) else (bif Nat.blt pc 12 then (bif Nat.blt pc 8 then (bif Nat.beq pc 7 then some (.iload_n 2, []) else none) else (bif Nat.blt pc 11 then (bif Nat.beq pc 8 then some (.invokevirtual 37, []) else none) else (bif Nat.beq pc 11 then some (.iconst 0, []) else none))) else (bif Nat.blt pc 14 then (bif Nat.beq pc 12 then some (.istore 4, []) else none) else (bif Nat.blt pc 16 then (bif Nat.beq pc 14 then some (.iload 4, []) else none) else (bif Nat.beq pc 16 then some (.iload_n 3, []) else none))))) else (bif Nat.blt pc 24 then (bif Nat.blt pc 21 then (bif Nat.blt pc 20 then (bif Nat.beq pc 17 then some (.if_icmp .ge 21, [38]) else none) else (bif Nat.beq pc 20 then some (.aload_n 0, []) else none)) else (bif Nat.blt pc 22 then (bif Nat.beq pc 21 then some (.iload_n 2, []) else none) else (bif Nat.blt pc 23 then (bif Nat.beq pc 22 then some (.aload_n 0, []) else none) else (bif Nat.beq pc 23 then some (.iload_n 1, []) else none)))) else (bif Nat.blt pc 32 then (bif Nat.blt pc 26 then (bif Nat.beq pc 24 then some (.iload 4, []) else none) else (bif Nat.blt pc 29 then (bif Nat.beq pc 26 then some (.invokevirtual 26, []) else none) else (bif Nat.beq pc 29 then some (.invokevirtual 41, []) else none))) else (bif Nat.blt pc 35 then (bif Nat.beq pc 32 then some (.iinc 4 1, []) else none) else (bif Nat.blt pc 38 then (bif Nat.beq pc 35 then some (.goto (-21), [14]) else none) else (bif Nat.beq pc 38 then some (.return_, []) else none)))))))
set_option maxRecDepth 100000 in
theorem oX2_copy : xIOk cX2_copy iX2_copy := xIOk_of (N := 39) (fun pc h => xtree_none h) (by decide +kernel)
set_option maxRecDepth 100000 in
theorem yoX2_copy : xYOk yX2_copy cX2_copy 5 none 2 := ⟨by decide, xm 255 (by decide +kernel) rfl, xm 42 (by decide +kernel) rfl, by decide +kernel, by decide +kernel⟩
theorem loX2_22 : xLink RX2 22 yX2_length false := ⟨xm 210 (by decide +kernel) rfl, xm 211 (by decide +kernel) rfl, xm 209 (by decide +kernel) rfl⟩
theorem loX2_26 : xLink RX2 26 yX2_hopAt false := ⟨xm 214 (by decide +kernel) rfl, xm 215 (by decide +kernel) rfl, xm 213 (by decide +kernel) rfl⟩
theorem loX2_30 : xLink RX2 30 yX2_silentsIn false := ⟨xm 223 (by decide +kernel) rfl, xm 224 (by decide +kernel) rfl, xm 222 (by decide +kernel) rfl⟩
theorem loX2_33 : xLink RX2 33 yX2_copy false := ⟨xm 254 (by decide +kernel) rfl, xm 0 (by decide +kernel) rfl, xm 252 (by decide +kernel) rfl⟩
theorem loX2_37 : xLink RX2 37 yX2_empty false := ⟨xm 236 (by decide +kernel) rfl, xm 237 (by decide +kernel) rfl, xm 256 (by decide +kernel) rfl⟩
theorem loX2_41 : xLink RX2 41 yX2_append false := ⟨xm 228 (by decide +kernel) rfl, xm 229 (by decide +kernel) rfl, xm 257 (by decide +kernel) rfl⟩
theorem inX4 : ∀ w ∈ u_ws RX4 TX4 3, w ∈ xtb := fun w h => List.mem_filter.mpr ⟨(show ∀ w ∈ u_ws RX4 TX4 3, w ∈ lw_tbl by decide +kernel) w h, (show ∀ w ∈ u_ws RX4 TX4 3, goodWord w = true by decide +kernel) w h⟩
def fldX4 : xFld := [(9, 4, 0, 2), (15, 4, 1, 2), (18, 4, 2, 0)]
theorem foX4 : ∀ q ∈ fldX4, xFOk RX4 q := List.forall_mem_cons.mpr ⟨⟨RX4, TX4, 3, tyX4, rfl, by decide, by decide, inX4, xm 82 (by decide +kernel) rfl, tyX4_ok, nmX4, by decide, by decide⟩, List.forall_mem_cons.mpr ⟨⟨RX4, TX4, 3, tyX4, rfl, by decide, by decide, inX4, xm 83 (by decide +kernel) rfl, tyX4_ok, nmX4, by decide, by decide⟩, List.forall_mem_cons.mpr ⟨⟨RX4, TX4, 3, tyX4, rfl, by decide, by decide, inX4, xm 84 (by decide +kernel) rfl, tyX4_ok, nmX4, by decide, by decide⟩, fun _ h => absurd h List.not_mem_nil⟩⟩⟩
set_option maxRecDepth 100000 in
def iX4_times : Nat → Option (Instr × List Nat) := xtree 5 (fun pc => (bif Nat.blt pc 1 then (bif Nat.beq pc 0 then some (.aload_n 0, []) else none) else (bif Nat.blt pc 4 then (bif Nat.beq pc 1 then some (.getfield 18, []) else none) else (bif Nat.beq pc 4 then some (.ireturn, []) else none))))
set_option maxRecDepth 100000 in
theorem oX4_times : xIOk cX4_times iX4_times := xIOk_of (N := 5) (fun pc h => xtree_none h) (by decide +kernel)
set_option maxRecDepth 100000 in
theorem yoX4_times : xYOk yX4_times cX4_times 1 (some .int) 0 := ⟨by decide, xm 329 (by decide +kernel) rfl, xm 43 (by decide +kernel) rfl, by decide +kernel, by decide +kernel⟩
set_option maxRecDepth 100000 in
def iX4_clear : Nat → Option (Instr × List Nat) := xtree 38 (fun pc => (bif Nat.blt pc 17 then (bif Nat.blt pc 7 then (bif Nat.blt pc 2 then (bif Nat.blt pc 1 then (bif Nat.beq pc 0 then some (.iconst 0, []) else none) else (bif Nat.beq pc 1 then some (.istore_n 1, []) else none)) else (bif Nat.blt pc 3 then (bif Nat.beq pc 2 then some (.iload_n 1, []) else none) else (bif Nat.blt pc 4 then (bif Nat.beq pc 3 then some (.aload_n 0, []) else none) else (bif Nat.beq pc 4 then some (.getfield 9, []) else none)))) else (bif Nat.blt pc 12 then (bif Nat.blt pc 8 then (bif Nat.beq pc 7 then some (.arraylength, []) else none) else (bif Nat.blt pc 11 then (bif Nat.beq pc 8 then some (.if_icmp .ge 16, [24]) else none) else (bif Nat.beq pc 11 then some (.aload_n 0, []) else none))) else (bif Nat.blt pc 15 then (bif Nat.beq pc 12 then some (.getfield 9, []) else none) else (bif Nat.blt pc 16 then (bif Nat.beq pc 15 then some (.iload_n 1, []) else none) else (bif Nat.beq pc 16 then some (.iload_n 1, []) else none))))) else (bif Nat.blt pc 28 then (bif Nat.blt pc 21 then (bif Nat.blt pc 18 then (bif Nat.beq pc 17 then some (.iastore, []) else none) else (bif Nat.beq pc 18 then some (.iinc 1 1, []) else none)) else (bif Nat.blt pc 24 then (bif Nat.beq pc 21 then some (.goto (-19), [2]) else none) else (bif Nat.blt pc 25 then (bif Nat.beq pc 24 then some (.aload_n 0, []) else none) else (bif Nat.beq pc 25 then some (.getfield 15, []) else none)))) else (bif Nat.blt pc 33 then (bif Nat.blt pc 29 then (bif Nat.beq pc 28 then some (.iconst 0, []) else none) else (bif Nat.blt pc 32 then (bif Nat.beq pc 29 then some (.invokestatic 22, []) else none) else (bif Nat.beq pc 32 then some (.aload_n 0, []) else none))) else (bif Nat.blt pc 34 then (bif Nat.beq pc 33 then some (.iconst 0, []) else none) else (bif Nat.blt pc 37 then (bif Nat.beq pc 34 then some (.putfield 18, []) else none) else (bif Nat.beq pc 37 then some (.return_, []) else none)))))))
set_option maxRecDepth 100000 in
theorem oX4_clear : xIOk cX4_clear iX4_clear := xIOk_of (N := 38) (fun pc h => xtree_none h) (by decide +kernel)
set_option maxRecDepth 100000 in
theorem yoX4_clear : xYOk yX4_clear cX4_clear 2 none 0 := ⟨by decide, xm 333 (by decide +kernel) rfl, xm 43 (by decide +kernel) rfl, by decide +kernel, by decide +kernel⟩
set_option maxRecDepth 100000 in
def iX4_box : Nat → Option (Instr × List Nat) := xtree 24 (fun pc => (bif Nat.blt pc 13 then (bif Nat.blt pc 5 then (bif Nat.blt pc 1 then (bif Nat.beq pc 0 then some (.iload_n 1, []) else none) else (bif Nat.blt pc 4 then (bif Nat.beq pc 1 then some (.ifCond .lt 21, [22]) else none) else (bif Nat.beq pc 4 then some (.iload_n 1, []) else none))) else (bif Nat.blt pc 9 then (bif Nat.blt pc 6 then (bif Nat.beq pc 5 then some (.aload_n 0, []) else none) else (bif Nat.beq pc 6 then some (.getfield 9, []) else none)) else (bif Nat.blt pc 10 then (bif Nat.beq pc 9 then some (.arraylength, []) else none) else (bif Nat.beq pc 10 then some (.if_icmp .ge 12, [22]) else none)))) else (bif Nat.blt pc 18 then (bif Nat.blt pc 14 then (bif Nat.beq pc 13 then some (.aload_n 0, []) else none) else (bif Nat.blt pc 17 then (bif Nat.beq pc 14 then some (.getfield 9, []) else none) else (bif Nat.beq pc 17 then some (.iload_n 1, []) else none))) else (bif Nat.blt pc 22 then (bif Nat.blt pc 19 then (bif Nat.beq pc 18 then some (.iaload, []) else none) else (bif Nat.beq pc 19 then some (.goto 4, [23]) else none)) else (bif Nat.blt pc 23 then (bif Nat.beq pc 22 then some (.iconst (-1), []) else none) else (bif Nat.beq pc 23 then some (.ireturn, []) else none))))))
set_option maxRecDepth 100000 in
theorem oX4_box : xIOk cX4_box iX4_box := xIOk_of (N := 24) (fun pc h => xtree_none h) (by decide +kernel)
set_option maxRecDepth 100000 in
theorem yoX4_box : xYOk yX4_box cX4_box 2 (some .int) 1 := ⟨by decide, xm 293 (by decide +kernel) rfl, xm 43 (by decide +kernel) rfl, by decide +kernel, by decide +kernel⟩
set_option maxRecDepth 100000 in
def iX4_boxes : Nat → Option (Instr × List Nat) := xtree 40 (fun pc => (bif Nat.blt pc 19 then (bif Nat.blt pc 7 then (bif Nat.blt pc 3 then (bif Nat.blt pc 1 then (bif Nat.beq pc 0 then some (.iconst 0, []) else none) else (bif Nat.blt pc 2 then (bif Nat.beq pc 1 then some (.istore_n 2, []) else none) else (bif Nat.beq pc 2 then some (.iconst 0, []) else none))) else (bif Nat.blt pc 4 then (bif Nat.beq pc 3 then some (.istore_n 3, []) else none) else (bif Nat.blt pc 5 then (bif Nat.beq pc 4 then some (.iload_n 3, []) else none) else (bif Nat.beq pc 5 then some (.bipush 6, []) else none)))) else (bif Nat.blt pc 12 then (bif Nat.blt pc 10 then (bif Nat.beq pc 7 then some (.if_icmp .ge 31, [38]) else none) else (bif Nat.blt pc 11 then (bif Nat.beq pc 10 then some (.iload_n 2, []) else none) else (bif Nat.beq pc 11 then some (.iload_n 1, []) else none))) else (bif Nat.blt pc 13 then (bif Nat.beq pc 12 then some (.iload_n 3, []) else none) else (bif Nat.blt pc 16 then (bif Nat.beq pc 13 then some (.invokestatic 28, []) else none) else (bif Nat.beq pc 16 then some (.ifCond .eq 13, [29]) else none))))) else (bif Nat.blt pc 29 then (bif Nat.blt pc 22 then (bif Nat.blt pc 20 then (bif Nat.beq pc 19 then some (.iconst 1, []) else none) else (bif Nat.blt pc 21 then (bif Nat.beq pc 20 then some (.aload_n 0, []) else none) else (bif Nat.beq pc 21 then some (.iload_n 3, []) else none))) else (bif Nat.blt pc 25 then (bif Nat.beq pc 22 then some (.invokevirtual 32, []) else none) else (bif Nat.blt pc 26 then (bif Nat.beq pc 25 then some (.ishl, []) else none) else (bif Nat.beq pc 26 then some (.goto 4, [30]) else none)))) else (bif Nat.blt pc 32 then (bif Nat.blt pc 30 then (bif Nat.beq pc 29 then some (.iconst 0, []) else none) else (bif Nat.blt pc 31 then (bif Nat.beq pc 30 then some (.ior, []) else none) else (bif Nat.beq pc 31 then some (.istore_n 2, []) else none))) else (bif Nat.blt pc 38 then (bif Nat.blt pc 35 then (bif Nat.beq pc 32 then some (.iinc 3 1, []) else none) else (bif Nat.beq pc 35 then some (.goto (-31), [4]) else none)) else (bif Nat.blt pc 39 then (bif Nat.beq pc 38 then some (.iload_n 2, []) else none) else (bif Nat.beq pc 39 then some (.ireturn, []) else none)))))))
set_option maxRecDepth 100000 in
theorem oX4_boxes : xIOk cX4_boxes iX4_boxes := xIOk_of (N := 40) (fun pc h => xtree_none h) (by decide +kernel)
set_option maxRecDepth 100000 in
theorem yoX4_boxes : xYOk yX4_boxes cX4_boxes 4 (some .int) 1 := ⟨by decide, xm 357 (by decide +kernel) rfl, xm 43 (by decide +kernel) rfl, by decide +kernel, by decide +kernel⟩
set_option maxRecDepth 100000 in
def iX4_areOneBox : Nat → Option (Instr × List Nat) := xtree 19 (fun pc => (bif Nat.blt pc 7 then (bif Nat.blt pc 2 then (bif Nat.blt pc 1 then (bif Nat.beq pc 0 then some (.aload_n 0, []) else none) else (bif Nat.beq pc 1 then some (.iload_n 1, []) else none)) else (bif Nat.blt pc 5 then (bif Nat.beq pc 2 then some (.invokevirtual 32, []) else none) else (bif Nat.blt pc 6 then (bif Nat.beq pc 5 then some (.aload_n 0, []) else none) else (bif Nat.beq pc 6 then some (.iload_n 2, []) else none)))) else (bif Nat.blt pc 14 then (bif Nat.blt pc 10 then (bif Nat.beq pc 7 then some (.invokevirtual 32, []) else none) else (bif Nat.blt pc 13 then (bif Nat.beq pc 10 then some (.if_icmp .ne 7, [17]) else none) else (bif Nat.beq pc 13 then some (.iconst 1, []) else none))) else (bif Nat.blt pc 17 then (bif Nat.beq pc 14 then some (.goto 4, [18]) else none) else (bif Nat.blt pc 18 then (bif Nat.beq pc 17 then some (.iconst 0, []) else none) else (bif Nat.beq pc 18 then some (.ireturn, []) else none))))))
set_option maxRecDepth 100000 in
theorem oX4_areOneBox : xIOk cX4_areOneBox iX4_areOneBox := xIOk_of (N := 19) (fun pc h => xtree_none h) (by decide +kernel)
set_option maxRecDepth 100000 in
theorem yoX4_areOneBox : xYOk yX4_areOneBox cX4_areOneBox 3 (some .boolean) 2 := ⟨by decide, xm 289 (by decide +kernel) rfl, xm 43 (by decide +kernel) rfl, by decide +kernel, by decide +kernel⟩
set_option maxRecDepth 100000 in
def iX4_areToldApart : Nat → Option (Instr × List Nat) := xtree 32 (fun pc => (bif Nat.blt pc 17 then (bif Nat.blt pc 6 then (bif Nat.blt pc 4 then (bif Nat.blt pc 1 then (bif Nat.beq pc 0 then some (.iload_n 1, []) else none) else (bif Nat.beq pc 1 then some (.ifCond .lt 29, [30]) else none)) else (bif Nat.blt pc 5 then (bif Nat.beq pc 4 then some (.iload_n 1, []) else none) else (bif Nat.beq pc 5 then some (.aload_n 0, []) else none))) else (bif Nat.blt pc 10 then (bif Nat.blt pc 9 then (bif Nat.beq pc 6 then some (.getfield 15, []) else none) else (bif Nat.beq pc 9 then some (.arraylength, []) else none)) else (bif Nat.blt pc 13 then (bif Nat.beq pc 10 then some (.if_icmp .ge 20, [30]) else none) else (bif Nat.blt pc 14 then (bif Nat.beq pc 13 then some (.aload_n 0, []) else none) else (bif Nat.beq pc 14 then some (.getfield 15, []) else none))))) else (bif Nat.blt pc 23 then (bif Nat.blt pc 19 then (bif Nat.blt pc 18 then (bif Nat.beq pc 17 then some (.iload_n 1, []) else none) else (bif Nat.beq pc 18 then some (.iaload, []) else none)) else (bif Nat.blt pc 20 then (bif Nat.beq pc 19 then some (.iload_n 2, []) else none) else (bif Nat.beq pc 20 then some (.invokestatic 28, []) else none))) else (bif Nat.blt pc 27 then (bif Nat.blt pc 26 then (bif Nat.beq pc 23 then some (.ifCond .eq 7, [30]) else none) else (bif Nat.beq pc 26 then some (.iconst 1, []) else none)) else (bif Nat.blt pc 30 then (bif Nat.beq pc 27 then some (.goto 4, [31]) else none) else (bif Nat.blt pc 31 then (bif Nat.beq pc 30 then some (.iconst 0, []) else none) else (bif Nat.beq pc 31 then some (.ireturn, []) else none)))))))
set_option maxRecDepth 100000 in
theorem oX4_areToldApart : xIOk cX4_areToldApart iX4_areToldApart := xIOk_of (N := 32) (fun pc h => xtree_none h) (by decide +kernel)
set_option maxRecDepth 100000 in
theorem yoX4_areToldApart : xYOk yX4_areToldApart cX4_areToldApart 3 (some .boolean) 2 := ⟨by decide, xm 297 (by decide +kernel) rfl, xm 43 (by decide +kernel) rfl, by decide +kernel, by decide +kernel⟩
set_option maxRecDepth 100000 in
def iX4_haveBoxesApart : Nat → Option (Instr × List Nat) := xtree 63 (fun pc => (bif Nat.blt pc 28 then (bif Nat.blt pc 13 then (bif Nat.blt pc 5 then (bif Nat.blt pc 2 then (bif Nat.blt pc 1 then (bif Nat.beq pc 0 then some (.iconst 0, []) else none) else (bif Nat.beq pc 1 then some (.istore_n 3, []) else none)) else (bif Nat.blt pc 3 then (bif Nat.beq pc 2 then some (.iload_n 3, []) else none) else (bif Nat.beq pc 3 then some (.bipush 6, []) else none))) else (bif Nat.blt pc 9 then (bif Nat.blt pc 8 then (bif Nat.beq pc 5 then some (.if_icmp .ge 56, [61]) else none) else (bif Nat.beq pc 8 then some (.iconst 0, []) else none)) else (bif Nat.blt pc 11 then (bif Nat.beq pc 9 then some (.istore 4, []) else none) else (bif Nat.beq pc 11 then some (.iload 4, []) else none)))) else (bif Nat.blt pc 20 then (bif Nat.blt pc 18 then (bif Nat.blt pc 15 then (bif Nat.beq pc 13 then some (.bipush 6, []) else none) else (bif Nat.beq pc 15 then some (.if_icmp .ge 40, [55]) else none)) else (bif Nat.blt pc 19 then (bif Nat.beq pc 18 then some (.aload_n 0, []) else none) else (bif Nat.beq pc 19 then some (.iload_n 1, []) else none))) else (bif Nat.blt pc 24 then (bif Nat.blt pc 21 then (bif Nat.beq pc 20 then some (.iload_n 3, []) else none) else (bif Nat.beq pc 21 then some (.invokevirtual 36, []) else none)) else (bif Nat.blt pc 27 then (bif Nat.beq pc 24 then some (.ifCond .eq 25, [49]) else none) else (bif Nat.beq pc 27 then some (.aload_n 0, []) else none))))) else (bif Nat.blt pc 44 then (bif Nat.blt pc 37 then (bif Nat.blt pc 31 then (bif Nat.blt pc 29 then (bif Nat.beq pc 28 then some (.iload_n 2, []) else none) else (bif Nat.beq pc 29 then some (.iload 4, []) else none)) else (bif Nat.blt pc 34 then (bif Nat.beq pc 31 then some (.invokevirtual 36, []) else none) else (bif Nat.beq pc 34 then some (.ifCond .eq 15, [49]) else none))) else (bif Nat.blt pc 39 then (bif Nat.blt pc 38 then (bif Nat.beq pc 37 then some (.aload_n 0, []) else none) else (bif Nat.beq pc 38 then some (.iload_n 3, []) else none)) else (bif Nat.blt pc 41 then (bif Nat.beq pc 39 then some (.iload 4, []) else none) else (bif Nat.beq pc 41 then some (.invokevirtual 39, []) else none)))) else (bif Nat.blt pc 52 then (bif Nat.blt pc 48 then (bif Nat.blt pc 47 then (bif Nat.beq pc 44 then some (.ifCond .eq 5, [49]) else none) else (bif Nat.beq pc 47 then some (.iconst 1, []) else none)) else (bif Nat.blt pc 49 then (bif Nat.beq pc 48 then some (.ireturn, []) else none) else (bif Nat.beq pc 49 then some (.iinc 4 1, []) else none))) else (bif Nat.blt pc 58 then (bif Nat.blt pc 55 then (bif Nat.beq pc 52 then some (.goto (-41), [11]) else none) else (bif Nat.beq pc 55 then some (.iinc 3 1, []) else none)) else (bif Nat.blt pc 61 then (bif Nat.beq pc 58 then some (.goto (-56), [2]) else none) else (bif Nat.blt pc 62 then (bif Nat.beq pc 61 then some (.iconst 0, []) else none) else (bif Nat.beq pc 62 then some (.ireturn, []) else none))))))))
set_option maxRecDepth 100000 in
theorem oX4_haveBoxesApart : xIOk cX4_haveBoxesApart iX4_haveBoxesApart := xIOk_of (N := 63) (fun pc h => xtree_none h) (by decide +kernel)
set_option maxRecDepth 100000 in
theorem yoX4_haveBoxesApart : xYOk yX4_haveBoxesApart cX4_haveBoxesApart 5 (some .boolean) 2 := ⟨by decide, xm 304 (by decide +kernel) rfl, xm 43 (by decide +kernel) rfl, by decide +kernel, by decide +kernel⟩
set_option maxRecDepth 100000 in
def iX4_add : Nat → Option (Instr × List Nat) := xtree 44 (fun pc => (bif Nat.blt pc 23 then (bif Nat.blt pc 10 then (bif Nat.blt pc 5 then (bif Nat.blt pc 1 then (bif Nat.beq pc 0 then some (.iload_n 3, []) else none) else (bif Nat.blt pc 4 then (bif Nat.beq pc 1 then some (.ifCond .eq 20, [21]) else none) else (bif Nat.beq pc 4 then some (.aload_n 0, []) else none))) else (bif Nat.blt pc 6 then (bif Nat.beq pc 5 then some (.aload_n 0, []) else none) else (bif Nat.blt pc 7 then (bif Nat.beq pc 6 then some (.iload_n 1, []) else none) else (bif Nat.beq pc 7 then some (.invokevirtual 32, []) else none)))) else (bif Nat.blt pc 15 then (bif Nat.blt pc 11 then (bif Nat.beq pc 10 then some (.aload_n 0, []) else none) else (bif Nat.blt pc 12 then (bif Nat.beq pc 11 then some (.iload_n 2, []) else none) else (bif Nat.beq pc 12 then some (.invokevirtual 32, []) else none))) else (bif Nat.blt pc 21 then (bif Nat.blt pc 18 then (bif Nat.beq pc 15 then some (.invokevirtual 42, []) else none) else (bif Nat.beq pc 18 then some (.goto 15, [33]) else none)) else (bif Nat.blt pc 22 then (bif Nat.beq pc 21 then some (.aload_n 0, []) else none) else (bif Nat.beq pc 22 then some (.iload_n 1, []) else none))))) else (bif Nat.blt pc 33 then (bif Nat.blt pc 28 then (bif Nat.blt pc 24 then (bif Nat.beq pc 23 then some (.iload_n 2, []) else none) else (bif Nat.blt pc 27 then (bif Nat.beq pc 24 then some (.invokevirtual 46, []) else none) else (bif Nat.beq pc 27 then some (.aload_n 0, []) else none))) else (bif Nat.blt pc 29 then (bif Nat.beq pc 28 then some (.iload_n 2, []) else none) else (bif Nat.blt pc 30 then (bif Nat.beq pc 29 then some (.iload_n 1, []) else none) else (bif Nat.beq pc 30 then some (.invokevirtual 46, []) else none)))) else (bif Nat.blt pc 38 then (bif Nat.blt pc 34 then (bif Nat.beq pc 33 then some (.aload_n 0, []) else none) else (bif Nat.blt pc 35 then (bif Nat.beq pc 34 then some (.dup, []) else none) else (bif Nat.beq pc 35 then some (.getfield 18, []) else none))) else (bif Nat.blt pc 40 then (bif Nat.blt pc 39 then (bif Nat.beq pc 38 then some (.iconst 1, []) else none) else (bif Nat.beq pc 39 then some (.iadd, []) else none)) else (bif Nat.blt pc 43 then (bif Nat.beq pc 40 then some (.putfield 18, []) else none) else (bif Nat.beq pc 43 then some (.return_, []) else none)))))))
set_option maxRecDepth 100000 in
theorem oX4_add : xIOk cX4_add iX4_add := xIOk_of (N := 44) (fun pc h => xtree_none h) (by decide +kernel)
set_option maxRecDepth 100000 in
theorem yoX4_add : xYOk yX4_add cX4_add 4 none 3 := ⟨by decide, xm 310 (by decide +kernel) rfl, xm 43 (by decide +kernel) rfl, by decide +kernel, by decide +kernel⟩
set_option maxRecDepth 100000 in
def iX4_makeOne : Nat → Option (Instr × List Nat) := xtree 49 (fun pc => (bif Nat.blt pc 22 then (bif Nat.blt pc 11 then (bif Nat.blt pc 3 then (bif Nat.blt pc 1 then (bif Nat.beq pc 0 then some (.iconst 0, []) else none) else (bif Nat.blt pc 2 then (bif Nat.beq pc 1 then some (.istore_n 3, []) else none) else (bif Nat.beq pc 2 then some (.iload_n 3, []) else none))) else (bif Nat.blt pc 7 then (bif Nat.blt pc 4 then (bif Nat.beq pc 3 then some (.aload_n 0, []) else none) else (bif Nat.beq pc 4 then some (.getfield 9, []) else none)) else (bif Nat.blt pc 8 then (bif Nat.beq pc 7 then some (.arraylength, []) else none) else (bif Nat.beq pc 8 then some (.if_icmp .ge 40, [48]) else none)))) else (bif Nat.blt pc 16 then (bif Nat.blt pc 12 then (bif Nat.beq pc 11 then some (.aload_n 0, []) else none) else (bif Nat.blt pc 15 then (bif Nat.beq pc 12 then some (.getfield 9, []) else none) else (bif Nat.beq pc 15 then some (.iload_n 3, []) else none))) else (bif Nat.blt pc 18 then (bif Nat.blt pc 17 then (bif Nat.beq pc 16 then some (.iaload, []) else none) else (bif Nat.beq pc 17 then some (.iload_n 1, []) else none)) else (bif Nat.blt pc 21 then (bif Nat.beq pc 18 then some (.if_icmp .eq 13, [31]) else none) else (bif Nat.beq pc 21 then some (.aload_n 0, []) else none))))) else (bif Nat.blt pc 35 then (bif Nat.blt pc 27 then (bif Nat.blt pc 25 then (bif Nat.beq pc 22 then some (.getfield 9, []) else none) else (bif Nat.blt pc 26 then (bif Nat.beq pc 25 then some (.iload_n 3, []) else none) else (bif Nat.beq pc 26 then some (.iaload, []) else none))) else (bif Nat.blt pc 31 then (bif Nat.blt pc 28 then (bif Nat.beq pc 27 then some (.iload_n 2, []) else none) else (bif Nat.beq pc 28 then some (.if_icmp .ne 14, [42]) else none)) else (bif Nat.blt pc 32 then (bif Nat.beq pc 31 then some (.aload_n 0, []) else none) else (bif Nat.beq pc 32 then some (.getfield 9, []) else none)))) else (bif Nat.blt pc 41 then (bif Nat.blt pc 37 then (bif Nat.blt pc 36 then (bif Nat.beq pc 35 then some (.iload_n 3, []) else none) else (bif Nat.beq pc 36 then some (.iload_n 1, []) else none)) else (bif Nat.blt pc 38 then (bif Nat.beq pc 37 then some (.iload_n 2, []) else none) else (bif Nat.beq pc 38 then some (.invokestatic 49, []) else none))) else (bif Nat.blt pc 45 then (bif Nat.blt pc 42 then (bif Nat.beq pc 41 then some (.iastore, []) else none) else (bif Nat.beq pc 42 then some (.iinc 3 1, []) else none)) else (bif Nat.blt pc 48 then (bif Nat.beq pc 45 then some (.goto (-43), [2]) else none) else (bif Nat.beq pc 48 then some (.return_, []) else none)))))))
set_option maxRecDepth 100000 in
theorem oX4_makeOne : xIOk cX4_makeOne iX4_makeOne := xIOk_of (N := 49) (fun pc h => xtree_none h) (by decide +kernel)
set_option maxRecDepth 100000 in
theorem yoX4_makeOne : xYOk yX4_makeOne cX4_makeOne 4 none 2 := ⟨by decide, xm 314 (by decide +kernel) rfl, xm 43 (by decide +kernel) rfl, by decide +kernel, by decide +kernel⟩
set_option maxRecDepth 100000 in
def iX4_setApart : Nat → Option (Instr × List Nat) := xtree 26 (fun pc => (bif Nat.blt pc 17 then (bif Nat.blt pc 6 then (bif Nat.blt pc 4 then (bif Nat.blt pc 1 then (bif Nat.beq pc 0 then some (.iload_n 1, []) else none) else (bif Nat.beq pc 1 then some (.ifCond .lt 24, [25]) else none)) else (bif Nat.blt pc 5 then (bif Nat.beq pc 4 then some (.iload_n 1, []) else none) else (bif Nat.beq pc 5 then some (.aload_n 0, []) else none))) else (bif Nat.blt pc 10 then (bif Nat.blt pc 9 then (bif Nat.beq pc 6 then some (.getfield 15, []) else none) else (bif Nat.beq pc 9 then some (.arraylength, []) else none)) else (bif Nat.blt pc 13 then (bif Nat.beq pc 10 then some (.if_icmp .ge 15, [25]) else none) else (bif Nat.blt pc 14 then (bif Nat.beq pc 13 then some (.aload_n 0, []) else none) else (bif Nat.beq pc 14 then some (.getfield 15, []) else none))))) else (bif Nat.blt pc 21 then (bif Nat.blt pc 19 then (bif Nat.blt pc 18 then (bif Nat.beq pc 17 then some (.iload_n 1, []) else none) else (bif Nat.beq pc 18 then some (.dup2, []) else none)) else (bif Nat.blt pc 20 then (bif Nat.beq pc 19 then some (.iaload, []) else none) else (bif Nat.beq pc 20 then some (.iconst 1, []) else none))) else (bif Nat.blt pc 23 then (bif Nat.blt pc 22 then (bif Nat.beq pc 21 then some (.iload_n 2, []) else none) else (bif Nat.beq pc 22 then some (.ishl, []) else none)) else (bif Nat.blt pc 24 then (bif Nat.beq pc 23 then some (.ior, []) else none) else (bif Nat.blt pc 25 then (bif Nat.beq pc 24 then some (.iastore, []) else none) else (bif Nat.beq pc 25 then some (.return_, []) else none)))))))
set_option maxRecDepth 100000 in
theorem oX4_setApart : xIOk cX4_setApart iX4_setApart := xIOk_of (N := 26) (fun pc h => xtree_none h) (by decide +kernel)
set_option maxRecDepth 100000 in
theorem yoX4_setApart : xYOk yX4_setApart cX4_setApart 3 none 2 := ⟨by decide, xm 321 (by decide +kernel) rfl, xm 43 (by decide +kernel) rfl, by decide +kernel, by decide +kernel⟩
theorem loX4_22 : xLink RX4 22 yJ7_fill_53178 true := ⟨xm 335 (by decide +kernel) rfl, Or.inl (xm 334 (by decide +kernel) rfl)⟩
theorem loX4_28 : xLink RX4 28 yX5_hasBit true := ⟨xm 299 (by decide +kernel) rfl, Or.inr ⟨"NetShape", by decide +kernel⟩⟩
theorem loX4_32 : xLink RX4 32 yX4_box false := ⟨xm 291 (by decide +kernel) rfl, xm 292 (by decide +kernel) rfl, xm 290 (by decide +kernel) rfl⟩
theorem loX4_36 : xLink RX4 36 yX4_areOneBox false := ⟨xm 287 (by decide +kernel) rfl, xm 288 (by decide +kernel) rfl, xm 305 (by decide +kernel) rfl⟩
theorem loX4_39 : xLink RX4 39 yX4_areToldApart false := ⟨xm 295 (by decide +kernel) rfl, xm 296 (by decide +kernel) rfl, xm 306 (by decide +kernel) rfl⟩
theorem loX4_42 : xLink RX4 42 yX4_makeOne false := ⟨xm 313 (by decide +kernel) rfl, xm 3 (by decide +kernel) rfl, xm 311 (by decide +kernel) rfl⟩
theorem loX4_46 : xLink RX4 46 yX4_setApart false := ⟨xm 320 (by decide +kernel) rfl, xm 4 (by decide +kernel) rfl, xm 318 (by decide +kernel) rfl⟩
theorem loX4_49 : xLink RX4 49 yJ9_min_7cf53 true := ⟨xm 316 (by decide +kernel) rfl, Or.inl (xm 315 (by decide +kernel) rfl)⟩
theorem inX1 : ∀ w ∈ u_ws RX1 TX1 4, w ∈ xtb := fun w h => List.mem_filter.mpr ⟨(show ∀ w ∈ u_ws RX1 TX1 4, w ∈ lw_tbl by decide +kernel) w h, (show ∀ w ∈ u_ws RX1 TX1 4, goodWord w = true by decide +kernel) w h⟩
def fldX1 : xFld := [(18, 1, 0, 2), (22, 1, 1, 2), (9, 1, 2, 2), (15, 1, 3, 2)]
theorem foX1 : ∀ q ∈ fldX1, xFOk RX1 q := List.forall_mem_cons.mpr ⟨⟨RX1, TX1, 4, tyX1, rfl, by decide, by decide, inX1, xm 98 (by decide +kernel) rfl, tyX1_ok, nmX1, by decide, by decide⟩, List.forall_mem_cons.mpr ⟨⟨RX1, TX1, 4, tyX1, rfl, by decide, by decide, inX1, xm 99 (by decide +kernel) rfl, tyX1_ok, nmX1, by decide, by decide⟩, List.forall_mem_cons.mpr ⟨⟨RX1, TX1, 4, tyX1, rfl, by decide, by decide, inX1, xm 100 (by decide +kernel) rfl, tyX1_ok, nmX1, by decide, by decide⟩, List.forall_mem_cons.mpr ⟨⟨RX1, TX1, 4, tyX1, rfl, by decide, by decide, inX1, xm 101 (by decide +kernel) rfl, tyX1_ok, nmX1, by decide, by decide⟩, fun _ h => absurd h List.not_mem_nil⟩⟩⟩⟩
set_option maxRecDepth 100000 in
def iX1_place : Nat → Option (Instr × List Nat) := xtree 29 (fun pc => (bif Nat.blt pc 17 then (bif Nat.blt pc 6 then (bif Nat.blt pc 4 then (bif Nat.blt pc 1 then (bif Nat.beq pc 0 then some (.iload_n 1, []) else none) else (bif Nat.beq pc 1 then some (.ifCond .lt 27, [28]) else none)) else (bif Nat.blt pc 5 then (bif Nat.beq pc 4 then some (.iload_n 1, []) else none) else (bif Nat.beq pc 5 then some (.aload_n 0, []) else none))) else (bif Nat.blt pc 10 then (bif Nat.blt pc 9 then (bif Nat.beq pc 6 then some (.getfield 9, []) else none) else (bif Nat.beq pc 9 then some (.arraylength, []) else none)) else (bif Nat.blt pc 13 then (bif Nat.beq pc 10 then some (.if_icmp .ge 18, [28]) else none) else (bif Nat.blt pc 14 then (bif Nat.beq pc 13 then some (.aload_n 0, []) else none) else (bif Nat.beq pc 14 then some (.getfield 9, []) else none))))) else (bif Nat.blt pc 22 then (bif Nat.blt pc 19 then (bif Nat.blt pc 18 then (bif Nat.beq pc 17 then some (.iload_n 1, []) else none) else (bif Nat.beq pc 18 then some (.iload_n 2, []) else none)) else (bif Nat.blt pc 20 then (bif Nat.beq pc 19 then some (.iastore, []) else none) else (bif Nat.blt pc 21 then (bif Nat.beq pc 20 then some (.aload_n 0, []) else none) else (bif Nat.beq pc 21 then some (.iload_n 1, []) else none)))) else (bif Nat.blt pc 24 then (bif Nat.blt pc 23 then (bif Nat.beq pc 22 then some (.iconst 1, []) else none) else (bif Nat.beq pc 23 then some (.iadd, []) else none)) else (bif Nat.blt pc 25 then (bif Nat.beq pc 24 then some (.iload_n 3, []) else none) else (bif Nat.blt pc 28 then (bif Nat.beq pc 25 then some (.invokevirtual 26, []) else none) else (bif Nat.beq pc 28 then some (.return_, []) else none)))))))
set_option maxRecDepth 100000 in
theorem oX1_place : xIOk cX1_place iX1_place := xIOk_of (N := 29) (fun pc h => xtree_none h) (by decide +kernel)
set_option maxRecDepth 100000 in
theorem yoX1_place : xYOk yX1_place cX1_place 4 none 3 := ⟨by decide, xm 436 (by decide +kernel) rfl, xm 44 (by decide +kernel) rfl, by decide +kernel, by decide +kernel⟩
set_option maxRecDepth 100000 in
def iX1_loosen : Nat → Option (Instr × List Nat) := xtree 36 (fun pc => (bif Nat.blt pc 19 then (bif Nat.blt pc 7 then (bif Nat.blt pc 2 then (bif Nat.blt pc 1 then (bif Nat.beq pc 0 then some (.iload_n 1, []) else none) else (bif Nat.beq pc 1 then some (.iconst 0, []) else none)) else (bif Nat.blt pc 5 then (bif Nat.beq pc 2 then some (.invokestatic 30, []) else none) else (bif Nat.blt pc 6 then (bif Nat.beq pc 5 then some (.istore_n 3, []) else none) else (bif Nat.beq pc 6 then some (.iload_n 3, []) else none)))) else (bif Nat.blt pc 12 then (bif Nat.blt pc 8 then (bif Nat.beq pc 7 then some (.aload_n 0, []) else none) else (bif Nat.blt pc 11 then (bif Nat.beq pc 8 then some (.getfield 9, []) else none) else (bif Nat.beq pc 11 then some (.arraylength, []) else none))) else (bif Nat.blt pc 15 then (bif Nat.beq pc 12 then some (.if_icmp .ge 23, [35]) else none) else (bif Nat.blt pc 16 then (bif Nat.beq pc 15 then some (.aload_n 0, []) else none) else (bif Nat.beq pc 16 then some (.getfield 9, []) else none))))) else (bif Nat.blt pc 26 then (bif Nat.blt pc 23 then (bif Nat.blt pc 20 then (bif Nat.beq pc 19 then some (.iload_n 3, []) else none) else (bif Nat.blt pc 22 then (bif Nat.beq pc 20 then some (.bipush 6, []) else none) else (bif Nat.beq pc 22 then some (.iload_n 2, []) else none))) else (bif Nat.blt pc 24 then (bif Nat.beq pc 23 then some (.iadd, []) else none) else (bif Nat.blt pc 25 then (bif Nat.beq pc 24 then some (.iload_n 3, []) else none) else (bif Nat.beq pc 25 then some (.iadd, []) else none)))) else (bif Nat.blt pc 29 then (bif Nat.blt pc 27 then (bif Nat.beq pc 26 then some (.iload_n 1, []) else none) else (bif Nat.blt pc 28 then (bif Nat.beq pc 27 then some (.isub, []) else none) else (bif Nat.beq pc 28 then some (.iastore, []) else none))) else (bif Nat.blt pc 32 then (bif Nat.beq pc 29 then some (.iinc 3 1, []) else none) else (bif Nat.blt pc 35 then (bif Nat.beq pc 32 then some (.goto (-26), [6]) else none) else (bif Nat.beq pc 35 then some (.return_, []) else none)))))))
set_option maxRecDepth 100000 in
theorem oX1_loosen : xIOk cX1_loosen iX1_loosen := xIOk_of (N := 36) (fun pc h => xtree_none h) (by decide +kernel)
set_option maxRecDepth 100000 in
theorem yoX1_loosen : xYOk yX1_loosen cX1_loosen 4 none 2 := ⟨by decide, xm 369 (by decide +kernel) rfl, xm 44 (by decide +kernel) rfl, by decide +kernel, by decide +kernel⟩
set_option maxRecDepth 100000 in
def iX1_code : Nat → Option (Instr × List Nat) := xtree 34 (fun pc => (bif Nat.blt pc 18 then (bif Nat.blt pc 6 then (bif Nat.blt pc 3 then (bif Nat.blt pc 1 then (bif Nat.beq pc 0 then some (.iconst 0, []) else none) else (bif Nat.blt pc 2 then (bif Nat.beq pc 1 then some (.istore_n 1, []) else none) else (bif Nat.beq pc 2 then some (.iconst 0, []) else none))) else (bif Nat.blt pc 4 then (bif Nat.beq pc 3 then some (.istore_n 2, []) else none) else (bif Nat.blt pc 5 then (bif Nat.beq pc 4 then some (.iload_n 2, []) else none) else (bif Nat.beq pc 5 then some (.aload_n 0, []) else none)))) else (bif Nat.blt pc 13 then (bif Nat.blt pc 9 then (bif Nat.beq pc 6 then some (.getfield 9, []) else none) else (bif Nat.blt pc 10 then (bif Nat.beq pc 9 then some (.arraylength, []) else none) else (bif Nat.beq pc 10 then some (.if_icmp .ge 22, [32]) else none))) else (bif Nat.blt pc 14 then (bif Nat.beq pc 13 then some (.iload_n 1, []) else none) else (bif Nat.blt pc 15 then (bif Nat.beq pc 14 then some (.aload_n 0, []) else none) else (bif Nat.beq pc 15 then some (.getfield 9, []) else none))))) else (bif Nat.blt pc 24 then (bif Nat.blt pc 21 then (bif Nat.blt pc 19 then (bif Nat.beq pc 18 then some (.iload_n 2, []) else none) else (bif Nat.blt pc 20 then (bif Nat.beq pc 19 then some (.iaload, []) else none) else (bif Nat.beq pc 20 then some (.iload_n 2, []) else none))) else (bif Nat.blt pc 22 then (bif Nat.beq pc 21 then some (.iconst 4, []) else none) else (bif Nat.blt pc 23 then (bif Nat.beq pc 22 then some (.imul, []) else none) else (bif Nat.beq pc 23 then some (.ishl, []) else none)))) else (bif Nat.blt pc 29 then (bif Nat.blt pc 25 then (bif Nat.beq pc 24 then some (.ior, []) else none) else (bif Nat.blt pc 26 then (bif Nat.beq pc 25 then some (.istore_n 1, []) else none) else (bif Nat.beq pc 26 then some (.iinc 2 1, []) else none))) else (bif Nat.blt pc 32 then (bif Nat.beq pc 29 then some (.goto (-25), [4]) else none) else (bif Nat.blt pc 33 then (bif Nat.beq pc 32 then some (.iload_n 1, []) else none) else (bif Nat.beq pc 33 then some (.ireturn, []) else none)))))))
set_option maxRecDepth 100000 in
theorem oX1_code : xIOk cX1_code iX1_code := xIOk_of (N := 34) (fun pc h => xtree_none h) (by decide +kernel)
set_option maxRecDepth 100000 in
theorem yoX1_code : xYOk yX1_code cX1_code 3 (some .int) 0 := ⟨by decide, xm 427 (by decide +kernel) rfl, xm 44 (by decide +kernel) rfl, by decide +kernel, by decide +kernel⟩
set_option maxRecDepth 100000 in
def iX1_takeUp : Nat → Option (Instr × List Nat) := xtree 41 (fun pc => (bif Nat.blt pc 17 then (bif Nat.blt pc 7 then (bif Nat.blt pc 2 then (bif Nat.blt pc 1 then (bif Nat.beq pc 0 then some (.iconst 0, []) else none) else (bif Nat.beq pc 1 then some (.istore_n 2, []) else none)) else (bif Nat.blt pc 3 then (bif Nat.beq pc 2 then some (.iload_n 2, []) else none) else (bif Nat.blt pc 4 then (bif Nat.beq pc 3 then some (.aload_n 0, []) else none) else (bif Nat.beq pc 4 then some (.getfield 9, []) else none)))) else (bif Nat.blt pc 12 then (bif Nat.blt pc 8 then (bif Nat.beq pc 7 then some (.arraylength, []) else none) else (bif Nat.blt pc 11 then (bif Nat.beq pc 8 then some (.if_icmp .ge 20, [28]) else none) else (bif Nat.beq pc 11 then some (.aload_n 0, []) else none))) else (bif Nat.blt pc 15 then (bif Nat.beq pc 12 then some (.getfield 9, []) else none) else (bif Nat.blt pc 16 then (bif Nat.beq pc 15 then some (.iload_n 2, []) else none) else (bif Nat.beq pc 16 then some (.iload_n 1, []) else none))))) else (bif Nat.blt pc 29 then (bif Nat.blt pc 22 then (bif Nat.blt pc 18 then (bif Nat.beq pc 17 then some (.iload_n 2, []) else none) else (bif Nat.blt pc 21 then (bif Nat.beq pc 18 then some (.invokestatic 36, []) else none) else (bif Nat.beq pc 21 then some (.iastore, []) else none))) else (bif Nat.blt pc 25 then (bif Nat.beq pc 22 then some (.iinc 2 1, []) else none) else (bif Nat.blt pc 28 then (bif Nat.beq pc 25 then some (.goto (-23), [2]) else none) else (bif Nat.beq pc 28 then some (.aload_n 0, []) else none)))) else (bif Nat.blt pc 36 then (bif Nat.blt pc 30 then (bif Nat.beq pc 29 then some (.aload_n 0, []) else none) else (bif Nat.blt pc 33 then (bif Nat.beq pc 30 then some (.getfield 18, []) else none) else (bif Nat.beq pc 33 then some (.invokevirtual 39, []) else none))) else (bif Nat.blt pc 39 then (bif Nat.beq pc 36 then some (.invokevirtual 45, []) else none) else (bif Nat.blt pc 40 then (bif Nat.beq pc 39 then some (.pop, []) else none) else (bif Nat.beq pc 40 then some (.return_, []) else none)))))))
set_option maxRecDepth 100000 in
theorem oX1_takeUp : xIOk cX1_takeUp iX1_takeUp := xIOk_of (N := 41) (fun pc h => xtree_none h) (by decide +kernel)
set_option maxRecDepth 100000 in
theorem yoX1_takeUp : xYOk yX1_takeUp cX1_takeUp 3 none 1 := ⟨by decide, xm 489 (by decide +kernel) rfl, xm 44 (by decide +kernel) rfl, by decide +kernel, by decide +kernel⟩
set_option maxRecDepth 100000 in
def iX1_fits : Nat → Option (Instr × List Nat) := xtree 98 (fun pc => (bif Nat.blt pc 47 then (bif Nat.blt pc 23 then (bif Nat.blt pc 10 then (bif Nat.blt pc 5 then (bif Nat.blt pc 1 then (bif Nat.beq pc 0 then some (.aload_n 0, []) else none) else (bif Nat.blt pc 4 then (bif Nat.beq pc 1 then some (.getfield 15, []) else none) else (bif Nat.beq pc 4 then some (.iconst 0, []) else none))) else (bif Nat.blt pc 8 then (bif Nat.beq pc 5 then some (.invokestatic 49, []) else none) else (bif Nat.blt pc 9 then (bif Nat.beq pc 8 then some (.iconst 0, []) else none) else (bif Nat.beq pc 9 then some (.istore_n 2, []) else none)))) else (bif Nat.blt pc 13 then (bif Nat.blt pc 11 then (bif Nat.beq pc 10 then some (.iconst 0, []) else none) else (bif Nat.blt pc 12 then (bif Nat.beq pc 11 then some (.istore_n 3, []) else none) else (bif Nat.beq pc 12 then some (.iload_n 3, []) else none))) else (bif Nat.blt pc 17 then (bif Nat.blt pc 14 then (bif Nat.beq pc 13 then some (.aload_n 0, []) else none) else (bif Nat.beq pc 14 then some (.getfield 18, []) else none)) else (bif Nat.blt pc 20 then (bif Nat.beq pc 17 then some (.invokevirtual 55, []) else none) else (bif Nat.beq pc 20 then some (.if_icmp .ge 39, [59]) else none))))) else (bif Nat.blt pc 34 then (bif Nat.blt pc 28 then (bif Nat.blt pc 24 then (bif Nat.beq pc 23 then some (.iload_n 1, []) else none) else (bif Nat.blt pc 25 then (bif Nat.beq pc 24 then some (.iload_n 3, []) else none) else (bif Nat.beq pc 25 then some (.invokestatic 58, []) else none))) else (bif Nat.blt pc 32 then (bif Nat.blt pc 31 then (bif Nat.beq pc 28 then some (.ifCond .eq 14, [42]) else none) else (bif Nat.beq pc 31 then some (.aload_n 0, []) else none)) else (bif Nat.blt pc 33 then (bif Nat.beq pc 32 then some (.iload_n 3, []) else none) else (bif Nat.beq pc 33 then some (.iload_n 2, []) else none)))) else (bif Nat.blt pc 41 then (bif Nat.blt pc 37 then (bif Nat.beq pc 34 then some (.invokevirtual 62, []) else none) else (bif Nat.blt pc 40 then (bif Nat.beq pc 37 then some (.ifCond .ne 5, [42]) else none) else (bif Nat.beq pc 40 then some (.iconst 0, []) else none))) else (bif Nat.blt pc 43 then (bif Nat.blt pc 42 then (bif Nat.beq pc 41 then some (.ireturn, []) else none) else (bif Nat.beq pc 42 then some (.iload_n 2, []) else none)) else (bif Nat.blt pc 44 then (bif Nat.beq pc 43 then some (.aload_n 0, []) else none) else (bif Nat.beq pc 44 then some (.getfield 18, []) else none)))))) else (bif Nat.blt pc 72 then (bif Nat.blt pc 59 then (bif Nat.blt pc 52 then (bif Nat.blt pc 48 then (bif Nat.beq pc 47 then some (.iload_n 3, []) else none) else (bif Nat.blt pc 51 then (bif Nat.beq pc 48 then some (.invokevirtual 65, []) else none) else (bif Nat.beq pc 51 then some (.iadd, []) else none))) else (bif Nat.blt pc 53 then (bif Nat.beq pc 52 then some (.istore_n 2, []) else none) else (bif Nat.blt pc 56 then (bif Nat.beq pc 53 then some (.iinc 3 1, []) else none) else (bif Nat.beq pc 56 then some (.goto (-44), [12]) else none)))) else (bif Nat.blt pc 62 then (bif Nat.blt pc 60 then (bif Nat.beq pc 59 then some (.iconst 0, []) else none) else (bif Nat.blt pc 61 then (bif Nat.beq pc 60 then some (.istore_n 3, []) else none) else (bif Nat.beq pc 61 then some (.iload_n 3, []) else none))) else (bif Nat.blt pc 66 then (bif Nat.blt pc 63 then (bif Nat.beq pc 62 then some (.aload_n 0, []) else none) else (bif Nat.beq pc 63 then some (.getfield 18, []) else none)) else (bif Nat.blt pc 69 then (bif Nat.beq pc 66 then some (.invokevirtual 55, []) else none) else (bif Nat.beq pc 69 then some (.if_icmp .ge 27, [96]) else none))))) else (bif Nat.blt pc 85 then (bif Nat.blt pc 77 then (bif Nat.blt pc 73 then (bif Nat.beq pc 72 then some (.iload_n 1, []) else none) else (bif Nat.blt pc 74 then (bif Nat.beq pc 73 then some (.iload_n 3, []) else none) else (bif Nat.beq pc 74 then some (.invokestatic 58, []) else none))) else (bif Nat.blt pc 81 then (bif Nat.blt pc 80 then (bif Nat.beq pc 77 then some (.ifCond .eq 13, [90]) else none) else (bif Nat.beq pc 80 then some (.aload_n 0, []) else none)) else (bif Nat.blt pc 82 then (bif Nat.beq pc 81 then some (.iload_n 3, []) else none) else (bif Nat.beq pc 82 then some (.invokevirtual 69, []) else none)))) else (bif Nat.blt pc 90 then (bif Nat.blt pc 88 then (bif Nat.beq pc 85 then some (.ifCond .ne 5, [90]) else none) else (bif Nat.blt pc 89 then (bif Nat.beq pc 88 then some (.iconst 0, []) else none) else (bif Nat.beq pc 89 then some (.ireturn, []) else none))) else (bif Nat.blt pc 96 then (bif Nat.blt pc 93 then (bif Nat.beq pc 90 then some (.iinc 3 1, []) else none) else (bif Nat.beq pc 93 then some (.goto (-32), [61]) else none)) else (bif Nat.blt pc 97 then (bif Nat.beq pc 96 then some (.iconst 1, []) else none) else (bif Nat.beq pc 97 then some (.ireturn, []) else none))))))))
set_option maxRecDepth 100000 in
theorem oX1_fits : xIOk cX1_fits iX1_fits := xIOk_of (N := 98) (fun pc h => xtree_none h) (by decide +kernel)
set_option maxRecDepth 100000 in
theorem yoX1_fits : xYOk yX1_fits cX1_fits 4 (some .boolean) 1 := ⟨by decide, xm 376 (by decide +kernel) rfl, xm 44 (by decide +kernel) rfl, by decide +kernel, by decide +kernel⟩
set_option maxRecDepth 100000 in
def iX1_isShortest : Nat → Option (Instr × List Nat) := xtree 65 (fun pc => (bif Nat.blt pc 34 then (bif Nat.blt pc 17 then (bif Nat.blt pc 8 then (bif Nat.blt pc 4 then (bif Nat.blt pc 1 then (bif Nat.beq pc 0 then some (.aload_n 0, []) else none) else (bif Nat.beq pc 1 then some (.getfield 18, []) else none)) else (bif Nat.blt pc 5 then (bif Nat.beq pc 4 then some (.iload_n 1, []) else none) else (bif Nat.beq pc 5 then some (.invokevirtual 72, []) else none))) else (bif Nat.blt pc 10 then (bif Nat.blt pc 9 then (bif Nat.beq pc 8 then some (.istore_n 2, []) else none) else (bif Nat.beq pc 9 then some (.aload_n 0, []) else none)) else (bif Nat.blt pc 13 then (bif Nat.beq pc 10 then some (.getfield 22, []) else none) else (bif Nat.blt pc 14 then (bif Nat.beq pc 13 then some (.aload_n 0, []) else none) else (bif Nat.beq pc 14 then some (.getfield 18, []) else none))))) else (bif Nat.blt pc 25 then (bif Nat.blt pc 19 then (bif Nat.blt pc 18 then (bif Nat.beq pc 17 then some (.iload_n 1, []) else none) else (bif Nat.beq pc 18 then some (.iconst 0, []) else none)) else (bif Nat.blt pc 22 then (bif Nat.beq pc 19 then some (.invokevirtual 75, []) else none) else (bif Nat.beq pc 22 then some (.invokevirtual 78, []) else none))) else (bif Nat.blt pc 27 then (bif Nat.blt pc 26 then (bif Nat.beq pc 25 then some (.istore_n 3, []) else none) else (bif Nat.beq pc 26 then some (.aload_n 0, []) else none)) else (bif Nat.blt pc 30 then (bif Nat.beq pc 27 then some (.getfield 22, []) else none) else (bif Nat.blt pc 31 then (bif Nat.beq pc 30 then some (.aload_n 0, []) else none) else (bif Nat.beq pc 31 then some (.getfield 18, []) else none)))))) else (bif Nat.blt pc 48 then (bif Nat.blt pc 38 then (bif Nat.blt pc 36 then (bif Nat.blt pc 35 then (bif Nat.beq pc 34 then some (.iload_n 1, []) else none) else (bif Nat.beq pc 35 then some (.iload_n 2, []) else none)) else (bif Nat.blt pc 37 then (bif Nat.beq pc 36 then some (.iconst 1, []) else none) else (bif Nat.beq pc 37 then some (.isub, []) else none))) else (bif Nat.blt pc 44 then (bif Nat.blt pc 41 then (bif Nat.beq pc 38 then some (.invokevirtual 75, []) else none) else (bif Nat.beq pc 41 then some (.invokevirtual 78, []) else none)) else (bif Nat.blt pc 46 then (bif Nat.beq pc 44 then some (.istore 4, []) else none) else (bif Nat.blt pc 47 then (bif Nat.beq pc 46 then some (.aload_n 0, []) else none) else (bif Nat.beq pc 47 then some (.iload_n 3, []) else none))))) else (bif Nat.blt pc 56 then (bif Nat.blt pc 53 then (bif Nat.blt pc 50 then (bif Nat.beq pc 48 then some (.iload 4, []) else none) else (bif Nat.beq pc 50 then some (.invokevirtual 83, []) else none)) else (bif Nat.blt pc 54 then (bif Nat.beq pc 53 then some (.iload_n 2, []) else none) else (bif Nat.blt pc 55 then (bif Nat.beq pc 54 then some (.iconst 1, []) else none) else (bif Nat.beq pc 55 then some (.isub, []) else none)))) else (bif Nat.blt pc 60 then (bif Nat.blt pc 59 then (bif Nat.beq pc 56 then some (.if_icmp .lt 7, [63]) else none) else (bif Nat.beq pc 59 then some (.iconst 1, []) else none)) else (bif Nat.blt pc 63 then (bif Nat.beq pc 60 then some (.goto 4, [64]) else none) else (bif Nat.blt pc 64 then (bif Nat.beq pc 63 then some (.iconst 0, []) else none) else (bif Nat.beq pc 64 then some (.ireturn, []) else none))))))))
set_option maxRecDepth 100000 in
theorem oX1_isShortest : xIOk cX1_isShortest iX1_isShortest := xIOk_of (N := 65) (fun pc h => xtree_none h) (by decide +kernel)
set_option maxRecDepth 100000 in
theorem yoX1_isShortest : xYOk yX1_isShortest cX1_isShortest 5 (some .boolean) 1 := ⟨by decide, xm 402 (by decide +kernel) rfl, xm 44 (by decide +kernel) rfl, by decide +kernel, by decide +kernel⟩
set_option maxRecDepth 100000 in
def iX1_draw : Nat → Option (Instr × List Nat) := xtree 116 (fun pc => (bif Nat.blt pc 59 then (bif Nat.blt pc 25 then (bif Nat.blt pc 9 then (bif Nat.blt pc 3 then (bif Nat.blt pc 1 then (bif Nat.beq pc 0 then some (.iload_n 2, []) else none) else (bif Nat.blt pc 2 then (bif Nat.beq pc 1 then some (.istore_n 3, []) else none) else (bif Nat.beq pc 2 then some (.iconst (-1), []) else none))) else (bif Nat.blt pc 6 then (bif Nat.blt pc 5 then (bif Nat.beq pc 3 then some (.istore 4, []) else none) else (bif Nat.beq pc 5 then some (.iconst 0, []) else none)) else (bif Nat.blt pc 8 then (bif Nat.beq pc 6 then some (.istore 5, []) else none) else (bif Nat.beq pc 8 then some (.iconst 0, []) else none)))) else (bif Nat.blt pc 17 then (bif Nat.blt pc 13 then (bif Nat.blt pc 11 then (bif Nat.beq pc 9 then some (.istore 6, []) else none) else (bif Nat.beq pc 11 then some (.iload 6, []) else none)) else (bif Nat.blt pc 14 then (bif Nat.beq pc 13 then some (.aload_n 0, []) else none) else (bif Nat.beq pc 14 then some (.getfield 18, []) else none))) else (bif Nat.blt pc 21 then (bif Nat.blt pc 18 then (bif Nat.beq pc 17 then some (.iload_n 1, []) else none) else (bif Nat.beq pc 18 then some (.invokevirtual 72, []) else none)) else (bif Nat.blt pc 24 then (bif Nat.beq pc 21 then some (.if_icmp .ge 93, [114]) else none) else (bif Nat.beq pc 24 then some (.aload_n 0, []) else none))))) else (bif Nat.blt pc 42 then (bif Nat.blt pc 34 then (bif Nat.blt pc 29 then (bif Nat.blt pc 28 then (bif Nat.beq pc 25 then some (.getfield 18, []) else none) else (bif Nat.beq pc 28 then some (.iload_n 1, []) else none)) else (bif Nat.blt pc 31 then (bif Nat.beq pc 29 then some (.iload 6, []) else none) else (bif Nat.beq pc 31 then some (.invokevirtual 75, []) else none))) else (bif Nat.blt pc 38 then (bif Nat.blt pc 36 then (bif Nat.beq pc 34 then some (.istore 7, []) else none) else (bif Nat.beq pc 36 then some (.iload 7, []) else none)) else (bif Nat.blt pc 39 then (bif Nat.beq pc 38 then some (.iconst (-1), []) else none) else (bif Nat.beq pc 39 then some (.if_icmp .ne 11, [50]) else none)))) else (bif Nat.blt pc 50 then (bif Nat.blt pc 44 then (bif Nat.blt pc 43 then (bif Nat.beq pc 42 then some (.aload_n 0, []) else none) else (bif Nat.beq pc 43 then some (.iload_n 3, []) else none)) else (bif Nat.blt pc 47 then (bif Nat.beq pc 44 then some (.invokevirtual 86, []) else none) else (bif Nat.beq pc 47 then some (.goto 12, [59]) else none))) else (bif Nat.blt pc 54 then (bif Nat.blt pc 51 then (bif Nat.beq pc 50 then some (.aload_n 0, []) else none) else (bif Nat.beq pc 51 then some (.getfield 22, []) else none)) else (bif Nat.blt pc 56 then (bif Nat.beq pc 54 then some (.iload 7, []) else none) else (bif Nat.beq pc 56 then some (.invokevirtual 78, []) else none)))))) else (bif Nat.blt pc 87 then (bif Nat.blt pc 73 then (bif Nat.blt pc 65 then (bif Nat.blt pc 62 then (bif Nat.blt pc 61 then (bif Nat.beq pc 59 then some (.istore 8, []) else none) else (bif Nat.beq pc 61 then some (.iload_n 3, []) else none)) else (bif Nat.blt pc 64 then (bif Nat.beq pc 62 then some (.iload 7, []) else none) else (bif Nat.beq pc 64 then some (.iconst (-1), []) else none))) else (bif Nat.blt pc 69 then (bif Nat.blt pc 68 then (bif Nat.beq pc 65 then some (.if_icmp .ne 7, [72]) else none) else (bif Nat.beq pc 68 then some (.iconst 1, []) else none)) else (bif Nat.blt pc 72 then (bif Nat.beq pc 69 then some (.goto 4, [73]) else none) else (bif Nat.beq pc 72 then some (.iconst 0, []) else none)))) else (bif Nat.blt pc 79 then (bif Nat.blt pc 75 then (bif Nat.blt pc 74 then (bif Nat.beq pc 73 then some (.iadd, []) else none) else (bif Nat.beq pc 74 then some (.istore_n 3, []) else none)) else (bif Nat.blt pc 77 then (bif Nat.beq pc 75 then some (.iload 5, []) else none) else (bif Nat.beq pc 77 then some (.iload 8, []) else none))) else (bif Nat.blt pc 85 then (bif Nat.blt pc 82 then (bif Nat.beq pc 79 then some (.invokestatic 58, []) else none) else (bif Nat.beq pc 82 then some (.ifCond .eq 5, [87]) else none)) else (bif Nat.blt pc 86 then (bif Nat.beq pc 85 then some (.iconst 0, []) else none) else (bif Nat.beq pc 86 then some (.ireturn, []) else none))))) else (bif Nat.blt pc 99 then (bif Nat.blt pc 93 then (bif Nat.blt pc 90 then (bif Nat.blt pc 89 then (bif Nat.beq pc 87 then some (.iload 5, []) else none) else (bif Nat.beq pc 89 then some (.iconst 1, []) else none)) else (bif Nat.blt pc 92 then (bif Nat.beq pc 90 then some (.iload 8, []) else none) else (bif Nat.beq pc 92 then some (.ishl, []) else none))) else (bif Nat.blt pc 96 then (bif Nat.blt pc 94 then (bif Nat.beq pc 93 then some (.ior, []) else none) else (bif Nat.beq pc 94 then some (.istore 5, []) else none)) else (bif Nat.blt pc 97 then (bif Nat.beq pc 96 then some (.aload_n 0, []) else none) else (bif Nat.beq pc 97 then some (.iload 4, []) else none)))) else (bif Nat.blt pc 108 then (bif Nat.blt pc 104 then (bif Nat.blt pc 101 then (bif Nat.beq pc 99 then some (.iload 8, []) else none) else (bif Nat.beq pc 101 then some (.invokevirtual 89, []) else none)) else (bif Nat.blt pc 106 then (bif Nat.beq pc 104 then some (.iload 8, []) else none) else (bif Nat.beq pc 106 then some (.istore 4, []) else none))) else (bif Nat.blt pc 114 then (bif Nat.blt pc 111 then (bif Nat.beq pc 108 then some (.iinc 6 1, []) else none) else (bif Nat.beq pc 111 then some (.goto (-100), [11]) else none)) else (bif Nat.blt pc 115 then (bif Nat.beq pc 114 then some (.iconst 1, []) else none) else (bif Nat.beq pc 115 then some (.ireturn, []) else none))))))))
set_option maxRecDepth 100000 in
theorem oX1_draw : xIOk cX1_draw iX1_draw := xIOk_of (N := 116) (fun pc h => xtree_none h) (by decide +kernel)
set_option maxRecDepth 100000 in
theorem yoX1_draw : xYOk yX1_draw cX1_draw 9 (some .boolean) 2 := ⟨by decide, xm 383 (by decide +kernel) rfl, xm 44 (by decide +kernel) rfl, by decide +kernel, by decide +kernel⟩
set_option maxRecDepth 100000 in
def iX1_silentBox : Nat → Option (Instr × List Nat) := xtree 24 (fun pc => (bif Nat.blt pc 13 then (bif Nat.blt pc 5 then (bif Nat.blt pc 1 then (bif Nat.beq pc 0 then some (.iload_n 1, []) else none) else (bif Nat.blt pc 4 then (bif Nat.beq pc 1 then some (.ifCond .lt 21, [22]) else none) else (bif Nat.beq pc 4 then some (.iload_n 1, []) else none))) else (bif Nat.blt pc 9 then (bif Nat.blt pc 6 then (bif Nat.beq pc 5 then some (.aload_n 0, []) else none) else (bif Nat.beq pc 6 then some (.getfield 9, []) else none)) else (bif Nat.blt pc 10 then (bif Nat.beq pc 9 then some (.arraylength, []) else none) else (bif Nat.beq pc 10 then some (.if_icmp .ge 12, [22]) else none)))) else (bif Nat.blt pc 18 then (bif Nat.blt pc 14 then (bif Nat.beq pc 13 then some (.aload_n 0, []) else none) else (bif Nat.blt pc 17 then (bif Nat.beq pc 14 then some (.getfield 9, []) else none) else (bif Nat.beq pc 17 then some (.iload_n 1, []) else none))) else (bif Nat.blt pc 22 then (bif Nat.blt pc 19 then (bif Nat.beq pc 18 then some (.iaload, []) else none) else (bif Nat.beq pc 19 then some (.goto 4, [23]) else none)) else (bif Nat.blt pc 23 then (bif Nat.beq pc 22 then some (.iconst (-1), []) else none) else (bif Nat.beq pc 23 then some (.ireturn, []) else none))))))
set_option maxRecDepth 100000 in
theorem oX1_silentBox : xIOk cX1_silentBox iX1_silentBox := xIOk_of (N := 24) (fun pc h => xtree_none h) (by decide +kernel)
set_option maxRecDepth 100000 in
theorem yoX1_silentBox : xYOk yX1_silentBox cX1_silentBox 2 (some .int) 1 := ⟨by decide, xm 389 (by decide +kernel) rfl, xm 44 (by decide +kernel) rfl, by decide +kernel, by decide +kernel⟩
set_option maxRecDepth 100000 in
def iX1_join : Nat → Option (Instr × List Nat) := xtree 39 (fun pc => (bif Nat.blt pc 23 then (bif Nat.blt pc 14 then (bif Nat.blt pc 7 then (bif Nat.blt pc 1 then (bif Nat.beq pc 0 then some (.iload_n 1, []) else none) else (bif Nat.blt pc 4 then (bif Nat.beq pc 1 then some (.invokestatic 92, []) else none) else (bif Nat.beq pc 4 then some (.ifCond .eq 34, [38]) else none))) else (bif Nat.blt pc 8 then (bif Nat.beq pc 7 then some (.iload_n 2, []) else none) else (bif Nat.blt pc 11 then (bif Nat.beq pc 8 then some (.invokestatic 92, []) else none) else (bif Nat.beq pc 11 then some (.ifCond .eq 27, [38]) else none)))) else (bif Nat.blt pc 19 then (bif Nat.blt pc 15 then (bif Nat.beq pc 14 then some (.aload_n 0, []) else none) else (bif Nat.blt pc 18 then (bif Nat.beq pc 15 then some (.getfield 15, []) else none) else (bif Nat.beq pc 18 then some (.iload_n 1, []) else none))) else (bif Nat.blt pc 21 then (bif Nat.blt pc 20 then (bif Nat.beq pc 19 then some (.dup2, []) else none) else (bif Nat.beq pc 20 then some (.iaload, []) else none)) else (bif Nat.blt pc 22 then (bif Nat.beq pc 21 then some (.iconst 1, []) else none) else (bif Nat.beq pc 22 then some (.iload_n 2, []) else none))))) else (bif Nat.blt pc 32 then (bif Nat.blt pc 26 then (bif Nat.blt pc 24 then (bif Nat.beq pc 23 then some (.ishl, []) else none) else (bif Nat.blt pc 25 then (bif Nat.beq pc 24 then some (.ior, []) else none) else (bif Nat.beq pc 25 then some (.iastore, []) else none))) else (bif Nat.blt pc 30 then (bif Nat.blt pc 27 then (bif Nat.beq pc 26 then some (.aload_n 0, []) else none) else (bif Nat.beq pc 27 then some (.getfield 15, []) else none)) else (bif Nat.blt pc 31 then (bif Nat.beq pc 30 then some (.iload_n 2, []) else none) else (bif Nat.beq pc 31 then some (.dup2, []) else none)))) else (bif Nat.blt pc 35 then (bif Nat.blt pc 33 then (bif Nat.beq pc 32 then some (.iaload, []) else none) else (bif Nat.blt pc 34 then (bif Nat.beq pc 33 then some (.iconst 1, []) else none) else (bif Nat.beq pc 34 then some (.iload_n 1, []) else none))) else (bif Nat.blt pc 37 then (bif Nat.blt pc 36 then (bif Nat.beq pc 35 then some (.ishl, []) else none) else (bif Nat.beq pc 36 then some (.ior, []) else none)) else (bif Nat.blt pc 38 then (bif Nat.beq pc 37 then some (.iastore, []) else none) else (bif Nat.beq pc 38 then some (.return_, []) else none)))))))
set_option maxRecDepth 100000 in
theorem oX1_join : xIOk cX1_join iX1_join := xIOk_of (N := 39) (fun pc h => xtree_none h) (by decide +kernel)
set_option maxRecDepth 100000 in
theorem yoX1_join : xYOk yX1_join cX1_join 3 none 2 := ⟨by decide, xm 394 (by decide +kernel) rfl, xm 44 (by decide +kernel) rfl, by decide +kernel, by decide +kernel⟩
set_option maxRecDepth 100000 in
def iX1_joinedWith : Nat → Option (Instr × List Nat) := xtree 18 (fun pc => (bif Nat.blt pc 11 then (bif Nat.blt pc 4 then (bif Nat.blt pc 1 then (bif Nat.beq pc 0 then some (.iload_n 1, []) else none) else (bif Nat.beq pc 1 then some (.invokestatic 92, []) else none)) else (bif Nat.blt pc 7 then (bif Nat.beq pc 4 then some (.ifCond .eq 12, [16]) else none) else (bif Nat.blt pc 8 then (bif Nat.beq pc 7 then some (.aload_n 0, []) else none) else (bif Nat.beq pc 8 then some (.getfield 15, []) else none)))) else (bif Nat.blt pc 13 then (bif Nat.blt pc 12 then (bif Nat.beq pc 11 then some (.iload_n 1, []) else none) else (bif Nat.beq pc 12 then some (.iaload, []) else none)) else (bif Nat.blt pc 16 then (bif Nat.beq pc 13 then some (.goto 4, [17]) else none) else (bif Nat.blt pc 17 then (bif Nat.beq pc 16 then some (.iconst 0, []) else none) else (bif Nat.beq pc 17 then some (.ireturn, []) else none))))))
set_option maxRecDepth 100000 in
theorem oX1_joinedWith : xIOk cX1_joinedWith iX1_joinedWith := xIOk_of (N := 18) (fun pc h => xtree_none h) (by decide +kernel)
set_option maxRecDepth 100000 in
theorem yoX1_joinedWith : xYOk yX1_joinedWith cX1_joinedWith 2 (some .int) 1 := ⟨by decide, xm 513 (by decide +kernel) rfl, xm 44 (by decide +kernel) rfl, by decide +kernel, by decide +kernel⟩
set_option maxRecDepth 100000 in
def iX1_lines : Nat → Option (Instr × List Nat) := xtree 32 (fun pc => (bif Nat.blt pc 15 then (bif Nat.blt pc 5 then (bif Nat.blt pc 2 then (bif Nat.blt pc 1 then (bif Nat.beq pc 0 then some (.iconst 0, []) else none) else (bif Nat.beq pc 1 then some (.istore_n 1, []) else none)) else (bif Nat.blt pc 3 then (bif Nat.beq pc 2 then some (.iconst 0, []) else none) else (bif Nat.blt pc 4 then (bif Nat.beq pc 3 then some (.istore_n 2, []) else none) else (bif Nat.beq pc 4 then some (.iload_n 2, []) else none)))) else (bif Nat.blt pc 10 then (bif Nat.blt pc 7 then (bif Nat.beq pc 5 then some (.bipush 10, []) else none) else (bif Nat.beq pc 7 then some (.if_icmp .ge 21, [28]) else none)) else (bif Nat.blt pc 11 then (bif Nat.beq pc 10 then some (.iload_n 1, []) else none) else (bif Nat.blt pc 12 then (bif Nat.beq pc 11 then some (.aload_n 0, []) else none) else (bif Nat.beq pc 12 then some (.getfield 15, []) else none))))) else (bif Nat.blt pc 22 then (bif Nat.blt pc 17 then (bif Nat.blt pc 16 then (bif Nat.beq pc 15 then some (.iload_n 2, []) else none) else (bif Nat.beq pc 16 then some (.iaload, []) else none)) else (bif Nat.blt pc 20 then (bif Nat.beq pc 17 then some (.invokestatic 95, []) else none) else (bif Nat.blt pc 21 then (bif Nat.beq pc 20 then some (.iadd, []) else none) else (bif Nat.beq pc 21 then some (.istore_n 1, []) else none)))) else (bif Nat.blt pc 29 then (bif Nat.blt pc 25 then (bif Nat.beq pc 22 then some (.iinc 2 1, []) else none) else (bif Nat.blt pc 28 then (bif Nat.beq pc 25 then some (.goto (-21), [4]) else none) else (bif Nat.beq pc 28 then some (.iload_n 1, []) else none))) else (bif Nat.blt pc 30 then (bif Nat.beq pc 29 then some (.iconst 2, []) else none) else (bif Nat.blt pc 31 then (bif Nat.beq pc 30 then some (.idiv, []) else none) else (bif Nat.beq pc 31 then some (.ireturn, []) else none)))))))
set_option maxRecDepth 100000 in
theorem oX1_lines : xIOk cX1_lines iX1_lines := xIOk_of (N := 32) (fun pc h => xtree_none h) (by decide +kernel)
set_option maxRecDepth 100000 in
theorem yoX1_lines : xYOk yX1_lines cX1_lines 3 (some .int) 0 := ⟨by decide, xm 417 (by decide +kernel) rfl, xm 44 (by decide +kernel) rfl, by decide +kernel, by decide +kernel⟩
set_option maxRecDepth 100000 in
def iX1_way : Nat → Option (Instr × List Nat) := xtree 88 (fun pc => (bif Nat.blt pc 41 then (bif Nat.blt pc 19 then (bif Nat.blt pc 7 then (bif Nat.blt pc 3 then (bif Nat.blt pc 1 then (bif Nat.beq pc 0 then some (.iconst 1, []) else none) else (bif Nat.blt pc 2 then (bif Nat.beq pc 1 then some (.iload_n 1, []) else none) else (bif Nat.beq pc 2 then some (.ishl, []) else none))) else (bif Nat.blt pc 4 then (bif Nat.beq pc 3 then some (.istore_n 3, []) else none) else (bif Nat.blt pc 5 then (bif Nat.beq pc 4 then some (.iconst 0, []) else none) else (bif Nat.beq pc 5 then some (.istore 4, []) else none)))) else (bif Nat.blt pc 14 then (bif Nat.blt pc 9 then (bif Nat.beq pc 7 then some (.iload 4, []) else none) else (bif Nat.blt pc 11 then (bif Nat.beq pc 9 then some (.bipush 10, []) else none) else (bif Nat.beq pc 11 then some (.if_icmp .ge 75, [86]) else none))) else (bif Nat.blt pc 15 then (bif Nat.beq pc 14 then some (.iload_n 3, []) else none) else (bif Nat.blt pc 16 then (bif Nat.beq pc 15 then some (.iload_n 2, []) else none) else (bif Nat.beq pc 16 then some (.invokestatic 58, []) else none))))) else (bif Nat.blt pc 29 then (bif Nat.blt pc 25 then (bif Nat.blt pc 22 then (bif Nat.beq pc 19 then some (.ifCond .eq 6, [25]) else none) else (bif Nat.blt pc 24 then (bif Nat.beq pc 22 then some (.iload 4, []) else none) else (bif Nat.beq pc 24 then some (.ireturn, []) else none))) else (bif Nat.blt pc 26 then (bif Nat.beq pc 25 then some (.iload_n 3, []) else none) else (bif Nat.blt pc 28 then (bif Nat.beq pc 26 then some (.istore 5, []) else none) else (bif Nat.beq pc 28 then some (.iconst 0, []) else none)))) else (bif Nat.blt pc 35 then (bif Nat.blt pc 31 then (bif Nat.beq pc 29 then some (.istore 6, []) else none) else (bif Nat.blt pc 33 then (bif Nat.beq pc 31 then some (.iload 6, []) else none) else (bif Nat.beq pc 33 then some (.bipush 10, []) else none))) else (bif Nat.blt pc 38 then (bif Nat.beq pc 35 then some (.if_icmp .ge 34, [69]) else none) else (bif Nat.blt pc 40 then (bif Nat.beq pc 38 then some (.iload 5, []) else none) else (bif Nat.beq pc 40 then some (.iload_n 3, []) else none)))))) else (bif Nat.blt pc 66 then (bif Nat.blt pc 55 then (bif Nat.blt pc 49 then (bif Nat.blt pc 43 then (bif Nat.beq pc 41 then some (.iload 6, []) else none) else (bif Nat.blt pc 46 then (bif Nat.beq pc 43 then some (.invokestatic 58, []) else none) else (bif Nat.beq pc 46 then some (.ifCond .eq 13, [59]) else none))) else (bif Nat.blt pc 50 then (bif Nat.beq pc 49 then some (.aload_n 0, []) else none) else (bif Nat.blt pc 53 then (bif Nat.beq pc 50 then some (.getfield 15, []) else none) else (bif Nat.beq pc 53 then some (.iload 6, []) else none)))) else (bif Nat.blt pc 60 then (bif Nat.blt pc 56 then (bif Nat.beq pc 55 then some (.iaload, []) else none) else (bif Nat.blt pc 59 then (bif Nat.beq pc 56 then some (.goto 4, [60]) else none) else (bif Nat.beq pc 59 then some (.iconst 0, []) else none))) else (bif Nat.blt pc 61 then (bif Nat.beq pc 60 then some (.ior, []) else none) else (bif Nat.blt pc 63 then (bif Nat.beq pc 61 then some (.istore 5, []) else none) else (bif Nat.beq pc 63 then some (.iinc 6 1, []) else none))))) else (bif Nat.blt pc 77 then (bif Nat.blt pc 72 then (bif Nat.blt pc 69 then (bif Nat.beq pc 66 then some (.goto (-35), [31]) else none) else (bif Nat.blt pc 71 then (bif Nat.beq pc 69 then some (.iload 5, []) else none) else (bif Nat.beq pc 71 then some (.iload_n 3, []) else none))) else (bif Nat.blt pc 75 then (bif Nat.beq pc 72 then some (.if_icmp .ne 5, [77]) else none) else (bif Nat.blt pc 76 then (bif Nat.beq pc 75 then some (.iconst (-1), []) else none) else (bif Nat.beq pc 76 then some (.ireturn, []) else none)))) else (bif Nat.blt pc 83 then (bif Nat.blt pc 79 then (bif Nat.beq pc 77 then some (.iload 5, []) else none) else (bif Nat.blt pc 80 then (bif Nat.beq pc 79 then some (.istore_n 3, []) else none) else (bif Nat.beq pc 80 then some (.iinc 4 1, []) else none))) else (bif Nat.blt pc 86 then (bif Nat.beq pc 83 then some (.goto (-76), [7]) else none) else (bif Nat.blt pc 87 then (bif Nat.beq pc 86 then some (.iconst (-1), []) else none) else (bif Nat.beq pc 87 then some (.ireturn, []) else none))))))))
set_option maxRecDepth 100000 in
theorem oX1_way : xIOk cX1_way iX1_way := xIOk_of (N := 88) (fun pc h => xtree_none h) (by decide +kernel)
set_option maxRecDepth 100000 in
theorem yoX1_way : xYOk yX1_way cX1_way 7 (some .int) 2 := ⟨by decide, xm 406 (by decide +kernel) rfl, xm 44 (by decide +kernel) rfl, by decide +kernel, by decide +kernel⟩
theorem loX1_26 : xLink RX1 26 yX1_loosen false := ⟨xm 367 (by decide +kernel) rfl, xm 368 (by decide +kernel) rfl, xm 437 (by decide +kernel) rfl⟩
theorem loX1_30 : xLink RX1 30 yJ9_max_7cf53 true := ⟨xm 371 (by decide +kernel) rfl, Or.inl (xm 370 (by decide +kernel) rfl)⟩
theorem loX1_36 : xLink RX1 36 yX5_boxIn true := ⟨xm 470 (by decide +kernel) rfl, Or.inr ⟨"NetShape", by decide +kernel⟩⟩
theorem loX1_39 : xLink RX1 39 yX2_all false := ⟨xm 359 (by decide +kernel) rfl, xm 360 (by decide +kernel) rfl, xm 491 (by decide +kernel) rfl⟩
theorem loX1_45 : xLink RX1 45 yX1_fits false := ⟨xm 374 (by decide +kernel) rfl, xm 375 (by decide +kernel) rfl, xm 492 (by decide +kernel) rfl⟩
theorem loX1_49 : xLink RX1 49 yJ7_fill_53178 true := ⟨xm 335 (by decide +kernel) rfl, Or.inl (xm 377 (by decide +kernel) rfl)⟩
theorem loX1_55 : xLink RX1 55 yX2_traces false := ⟨xm 244 (by decide +kernel) rfl, xm 245 (by decide +kernel) rfl, xm 378 (by decide +kernel) rfl⟩
theorem loX1_58 : xLink RX1 58 yX5_hasBit true := ⟨xm 299 (by decide +kernel) rfl, Or.inr ⟨"NetShape", by decide +kernel⟩⟩
theorem loX1_62 : xLink RX1 62 yX1_draw false := ⟨xm 382 (by decide +kernel) rfl, xm 5 (by decide +kernel) rfl, xm 380 (by decide +kernel) rfl⟩
theorem loX1_65 : xLink RX1 65 yX2_silentsIn false := ⟨xm 223 (by decide +kernel) rfl, xm 224 (by decide +kernel) rfl, xm 398 (by decide +kernel) rfl⟩
theorem loX1_69 : xLink RX1 69 yX1_isShortest false := ⟨xm 401 (by decide +kernel) rfl, xm 8 (by decide +kernel) rfl, xm 399 (by decide +kernel) rfl⟩
theorem loX1_72 : xLink RX1 72 yX2_length false := ⟨xm 210 (by decide +kernel) rfl, xm 211 (by decide +kernel) rfl, xm 384 (by decide +kernel) rfl⟩
theorem loX1_75 : xLink RX1 75 yX2_hopAt false := ⟨xm 214 (by decide +kernel) rfl, xm 215 (by decide +kernel) rfl, xm 385 (by decide +kernel) rfl⟩
theorem loX1_78 : xLink RX1 78 yX4_box false := ⟨xm 291 (by decide +kernel) rfl, xm 292 (by decide +kernel) rfl, xm 390 (by decide +kernel) rfl⟩
theorem loX1_83 : xLink RX1 83 yX1_way false := ⟨xm 404 (by decide +kernel) rfl, xm 405 (by decide +kernel) rfl, xm 403 (by decide +kernel) rfl⟩
theorem loX1_86 : xLink RX1 86 yX1_silentBox false := ⟨xm 388 (by decide +kernel) rfl, xm 6 (by decide +kernel) rfl, xm 386 (by decide +kernel) rfl⟩
theorem loX1_89 : xLink RX1 89 yX1_join false := ⟨xm 393 (by decide +kernel) rfl, xm 7 (by decide +kernel) rfl, xm 391 (by decide +kernel) rfl⟩
theorem loX1_92 : xLink RX1 92 yX5_isBox true := ⟨xm 396 (by decide +kernel) rfl, Or.inr ⟨"NetShape", by decide +kernel⟩⟩
theorem loX1_95 : xLink RX1 95 yJ6_bitCount_0f7a4 true := ⟨xm 419 (by decide +kernel) rfl, Or.inl (xm 418 (by decide +kernel) rfl)⟩
theorem inX0 : ∀ w ∈ u_ws RX0 TX0 10, w ∈ xtb := fun w h => List.mem_filter.mpr ⟨(show ∀ w ∈ u_ws RX0 TX0 10, w ∈ lw_tbl by decide +kernel) w h, (show ∀ w ∈ u_ws RX0 TX0 10, goodWord w = true by decide +kernel) w h⟩
def fldX0 : xFld := [(15, 0, 0, 2), (19, 0, 1, 2), (23, 0, 2, 2), (9, 0, 3, 2), (27, 0, 4, 1), (31, 0, 5, 0), (35, 0, 6, 0), (38, 0, 7, 0), (47, 0, 8, 0), (58, 0, 9, 0)]
theorem foX0 : ∀ q ∈ fldX0, xFOk RX0 q := List.forall_mem_cons.mpr ⟨⟨RX0, TX0, 10, tyX0, rfl, by decide, by decide, inX0, xm 117 (by decide +kernel) rfl, tyX0_ok, nmX0, by decide, by decide⟩, List.forall_mem_cons.mpr ⟨⟨RX0, TX0, 10, tyX0, rfl, by decide, by decide, inX0, xm 118 (by decide +kernel) rfl, tyX0_ok, nmX0, by decide, by decide⟩, List.forall_mem_cons.mpr ⟨⟨RX0, TX0, 10, tyX0, rfl, by decide, by decide, inX0, xm 119 (by decide +kernel) rfl, tyX0_ok, nmX0, by decide, by decide⟩, List.forall_mem_cons.mpr ⟨⟨RX0, TX0, 10, tyX0, rfl, by decide, by decide, inX0, xm 120 (by decide +kernel) rfl, tyX0_ok, nmX0, by decide, by decide⟩, List.forall_mem_cons.mpr ⟨⟨RX0, TX0, 10, tyX0, rfl, by decide, by decide, inX0, xm 121 (by decide +kernel) rfl, tyX0_ok, nmX0, by decide, by decide⟩, List.forall_mem_cons.mpr ⟨⟨RX0, TX0, 10, tyX0, rfl, by decide, by decide, inX0, xm 122 (by decide +kernel) rfl, tyX0_ok, nmX0, by decide, by decide⟩, List.forall_mem_cons.mpr ⟨⟨RX0, TX0, 10, tyX0, rfl, by decide, by decide, inX0, xm 123 (by decide +kernel) rfl, tyX0_ok, nmX0, by decide, by decide⟩, List.forall_mem_cons.mpr ⟨⟨RX0, TX0, 10, tyX0, rfl, by decide, by decide, inX0, xm 124 (by decide +kernel) rfl, tyX0_ok, nmX0, by decide, by decide⟩, List.forall_mem_cons.mpr ⟨⟨RX0, TX0, 10, tyX0, rfl, by decide, by decide, inX0, xm 125 (by decide +kernel) rfl, tyX0_ok, nmX0, by decide, by decide⟩, List.forall_mem_cons.mpr ⟨⟨RX0, TX0, 10, tyX0, rfl, by decide, by decide, inX0, xm 126 (by decide +kernel) rfl, tyX0_ok, nmX0, by decide, by decide⟩, fun _ h => absurd h List.not_mem_nil⟩⟩⟩⟩⟩⟩⟩⟩⟩⟩
set_option maxRecDepth 100000 in
def iX0_forgetFound : Nat → Option (Instr × List Nat) := xtree 6 (fun pc => (bif Nat.blt pc 2 then (bif Nat.blt pc 1 then (bif Nat.beq pc 0 then some (.aload_n 0, []) else none) else (bif Nat.beq pc 1 then some (.iconst 0, []) else none)) else (bif Nat.blt pc 5 then (bif Nat.beq pc 2 then some (.putfield 27, []) else none) else (bif Nat.beq pc 5 then some (.return_, []) else none))))
set_option maxRecDepth 100000 in
theorem oX0_forgetFound : xIOk cX0_forgetFound iX0_forgetFound := xIOk_of (N := 6) (fun pc h => xtree_none h) (by decide +kernel)
set_option maxRecDepth 100000 in
theorem yoX0_forgetFound : xYOk yX0_forgetFound cX0_forgetFound 1 none 0 := ⟨by decide, xm 265 (by decide +kernel) rfl, xm 45 (by decide +kernel) rfl, by decide +kernel, by decide +kernel⟩
set_option maxRecDepth 100000 in
def iX0_many : Nat → Option (Instr × List Nat) := xtree 87 (fun pc => (bif Nat.blt pc 41 then (bif Nat.blt pc 19 then (bif Nat.blt pc 11 then (bif Nat.blt pc 4 then (bif Nat.blt pc 1 then (bif Nat.beq pc 0 then some (.aload_n 0, []) else none) else (bif Nat.beq pc 1 then some (.getfield 27, []) else none)) else (bif Nat.blt pc 7 then (bif Nat.beq pc 4 then some (.ifCond .eq 8, [12]) else none) else (bif Nat.blt pc 8 then (bif Nat.beq pc 7 then some (.aload_n 0, []) else none) else (bif Nat.beq pc 8 then some (.getfield 31, []) else none)))) else (bif Nat.blt pc 14 then (bif Nat.blt pc 12 then (bif Nat.beq pc 11 then some (.ireturn, []) else none) else (bif Nat.blt pc 13 then (bif Nat.beq pc 12 then some (.aload_n 0, []) else none) else (bif Nat.beq pc 13 then some (.iconst 1, []) else none))) else (bif Nat.blt pc 17 then (bif Nat.beq pc 14 then some (.putfield 27, []) else none) else (bif Nat.blt pc 18 then (bif Nat.beq pc 17 then some (.aload_n 0, []) else none) else (bif Nat.beq pc 18 then some (.iconst 0, []) else none))))) else (bif Nat.blt pc 28 then (bif Nat.blt pc 23 then (bif Nat.blt pc 22 then (bif Nat.beq pc 19 then some (.putfield 31, []) else none) else (bif Nat.beq pc 22 then some (.aload_n 0, []) else none)) else (bif Nat.blt pc 24 then (bif Nat.beq pc 23 then some (.iconst 4, []) else none) else (bif Nat.blt pc 27 then (bif Nat.beq pc 24 then some (.putfield 35, []) else none) else (bif Nat.beq pc 27 then some (.aload_n 0, []) else none)))) else (bif Nat.blt pc 34 then (bif Nat.blt pc 30 then (bif Nat.beq pc 28 then some (.bipush 100, []) else none) else (bif Nat.blt pc 33 then (bif Nat.beq pc 30 then some (.putfield 38, []) else none) else (bif Nat.beq pc 33 then some (.aload_n 0, []) else none))) else (bif Nat.blt pc 35 then (bif Nat.beq pc 34 then some (.aload_n 0, []) else none) else (bif Nat.blt pc 38 then (bif Nat.beq pc 35 then some (.getfield 15, []) else none) else (bif Nat.beq pc 38 then some (.invokevirtual 41, []) else none)))))) else (bif Nat.blt pc 64 then (bif Nat.blt pc 50 then (bif Nat.blt pc 45 then (bif Nat.blt pc 44 then (bif Nat.beq pc 41 then some (.putfield 47, []) else none) else (bif Nat.beq pc 44 then some (.aload_n 0, []) else none)) else (bif Nat.blt pc 46 then (bif Nat.beq pc 45 then some (.aload_n 0, []) else none) else (bif Nat.blt pc 49 then (bif Nat.beq pc 46 then some (.getfield 19, []) else none) else (bif Nat.beq pc 49 then some (.aload_n 0, []) else none)))) else (bif Nat.blt pc 59 then (bif Nat.blt pc 53 then (bif Nat.beq pc 50 then some (.getfield 15, []) else none) else (bif Nat.blt pc 56 then (bif Nat.beq pc 53 then some (.invokevirtual 49, []) else none) else (bif Nat.beq pc 56 then some (.invokevirtual 52, []) else none))) else (bif Nat.blt pc 62 then (bif Nat.beq pc 59 then some (.putfield 58, []) else none) else (bif Nat.blt pc 63 then (bif Nat.beq pc 62 then some (.aload_n 0, []) else none) else (bif Nat.beq pc 63 then some (.aload_n 0, []) else none))))) else (bif Nat.blt pc 77 then (bif Nat.blt pc 70 then (bif Nat.blt pc 67 then (bif Nat.beq pc 64 then some (.getfield 15, []) else none) else (bif Nat.beq pc 67 then some (.invokevirtual 61, []) else none)) else (bif Nat.blt pc 73 then (bif Nat.beq pc 70 then some (.invokevirtual 64, []) else none) else (bif Nat.blt pc 76 then (bif Nat.beq pc 73 then some (.ifCond .eq 9, [82]) else none) else (bif Nat.beq pc 76 then some (.aload_n 0, []) else none)))) else (bif Nat.blt pc 82 then (bif Nat.blt pc 78 then (bif Nat.beq pc 77 then some (.iconst 0, []) else none) else (bif Nat.blt pc 79 then (bif Nat.beq pc 78 then some (.iconst 0, []) else none) else (bif Nat.beq pc 79 then some (.invokestatic 68, []) else none))) else (bif Nat.blt pc 83 then (bif Nat.beq pc 82 then some (.aload_n 0, []) else none) else (bif Nat.blt pc 86 then (bif Nat.beq pc 83 then some (.getfield 31, []) else none) else (bif Nat.beq pc 86 then some (.ireturn, []) else none))))))))
set_option maxRecDepth 100000 in
theorem oX0_many : xIOk cX0_many iX0_many := xIOk_of (N := 87) (fun pc h => xtree_none h) (by decide +kernel)
set_option maxRecDepth 100000 in
theorem yoX0_many : xYOk yX0_many cX0_many 1 (some .int) 0 := ⟨by decide, xm 348 (by decide +kernel) rfl, xm 45 (by decide +kernel) rfl, by decide +kernel, by decide +kernel⟩
set_option maxRecDepth 100000 in
def iX0_newBoxes : Nat → Option (Instr × List Nat) := xtree 5 (fun pc => (bif Nat.blt pc 1 then (bif Nat.beq pc 0 then some (.aload_n 0, []) else none) else (bif Nat.blt pc 4 then (bif Nat.beq pc 1 then some (.getfield 35, []) else none) else (bif Nat.beq pc 4 then some (.ireturn, []) else none))))
set_option maxRecDepth 100000 in
theorem oX0_newBoxes : xIOk cX0_newBoxes iX0_newBoxes := xIOk_of (N := 5) (fun pc h => xtree_none h) (by decide +kernel)
set_option maxRecDepth 100000 in
theorem yoX0_newBoxes : xYOk yX0_newBoxes cX0_newBoxes 1 (some .int) 0 := ⟨by decide, xm 452 (by decide +kernel) rfl, xm 45 (by decide +kernel) rfl, by decide +kernel, by decide +kernel⟩
set_option maxRecDepth 100000 in
def iX0_lines : Nat → Option (Instr × List Nat) := xtree 5 (fun pc => (bif Nat.blt pc 1 then (bif Nat.beq pc 0 then some (.aload_n 0, []) else none) else (bif Nat.blt pc 4 then (bif Nat.beq pc 1 then some (.getfield 38, []) else none) else (bif Nat.beq pc 4 then some (.ireturn, []) else none))))
set_option maxRecDepth 100000 in
theorem oX0_lines : xIOk cX0_lines iX0_lines := xIOk_of (N := 5) (fun pc h => xtree_none h) (by decide +kernel)
set_option maxRecDepth 100000 in
theorem yoX0_lines : xYOk yX0_lines cX0_lines 1 (some .int) 0 := ⟨by decide, xm 456 (by decide +kernel) rfl, xm 45 (by decide +kernel) rfl, by decide +kernel, by decide +kernel⟩
set_option maxRecDepth 100000 in
def iX0_code : Nat → Option (Instr × List Nat) := xtree 24 (fun pc => (bif Nat.blt pc 13 then (bif Nat.blt pc 5 then (bif Nat.blt pc 1 then (bif Nat.beq pc 0 then some (.iload_n 1, []) else none) else (bif Nat.blt pc 4 then (bif Nat.beq pc 1 then some (.ifCond .lt 21, [22]) else none) else (bif Nat.beq pc 4 then some (.iload_n 1, []) else none))) else (bif Nat.blt pc 9 then (bif Nat.blt pc 6 then (bif Nat.beq pc 5 then some (.aload_n 0, []) else none) else (bif Nat.beq pc 6 then some (.getfield 9, []) else none)) else (bif Nat.blt pc 10 then (bif Nat.beq pc 9 then some (.arraylength, []) else none) else (bif Nat.beq pc 10 then some (.if_icmp .ge 12, [22]) else none)))) else (bif Nat.blt pc 18 then (bif Nat.blt pc 14 then (bif Nat.beq pc 13 then some (.aload_n 0, []) else none) else (bif Nat.blt pc 17 then (bif Nat.beq pc 14 then some (.getfield 9, []) else none) else (bif Nat.beq pc 17 then some (.iload_n 1, []) else none))) else (bif Nat.blt pc 22 then (bif Nat.blt pc 19 then (bif Nat.beq pc 18 then some (.iaload, []) else none) else (bif Nat.beq pc 19 then some (.goto 4, [23]) else none)) else (bif Nat.blt pc 23 then (bif Nat.beq pc 22 then some (.iconst 0, []) else none) else (bif Nat.beq pc 23 then some (.ireturn, []) else none))))))
set_option maxRecDepth 100000 in
theorem oX0_code : xIOk cX0_code iX0_code := xIOk_of (N := 24) (fun pc h => xtree_none h) (by decide +kernel)
set_option maxRecDepth 100000 in
theorem yoX0_code : xYOk yX0_code cX0_code 2 (some .int) 1 := ⟨by decide, xm 468 (by decide +kernel) rfl, xm 45 (by decide +kernel) rfl, by decide +kernel, by decide +kernel⟩
set_option maxRecDepth 100000 in
def iX0_someFits : Nat → Option (Instr × List Nat) := xtree 18 (fun pc => (bif Nat.blt pc 9 then (bif Nat.blt pc 4 then (bif Nat.blt pc 1 then (bif Nat.beq pc 0 then some (.aload_n 0, []) else none) else (bif Nat.beq pc 1 then some (.getfield 23, []) else none)) else (bif Nat.blt pc 5 then (bif Nat.beq pc 4 then some (.iconst 0, []) else none) else (bif Nat.blt pc 6 then (bif Nat.beq pc 5 then some (.iconst 0, []) else none) else (bif Nat.beq pc 6 then some (.invokevirtual 72, []) else none)))) else (bif Nat.blt pc 13 then (bif Nat.blt pc 10 then (bif Nat.beq pc 9 then some (.aload_n 0, []) else none) else (bif Nat.beq pc 10 then some (.getfield 23, []) else none)) else (bif Nat.blt pc 14 then (bif Nat.beq pc 13 then some (.iload_n 1, []) else none) else (bif Nat.blt pc 17 then (bif Nat.beq pc 14 then some (.invokevirtual 78, []) else none) else (bif Nat.beq pc 17 then some (.ireturn, []) else none))))))
set_option maxRecDepth 100000 in
theorem oX0_someFits : xIOk cX0_someFits iX0_someFits := xIOk_of (N := 18) (fun pc h => xtree_none h) (by decide +kernel)
set_option maxRecDepth 100000 in
theorem yoX0_someFits : xYOk yX0_someFits cX0_someFits 2 (some .boolean) 1 := ⟨by decide, xm 365 (by decide +kernel) rfl, xm 45 (by decide +kernel) rfl, by decide +kernel, by decide +kernel⟩
set_option maxRecDepth 100000 in
def iX0_seek : Nat → Option (Instr × List Nat) := xtree 106 (fun pc => (bif Nat.blt pc 46 then (bif Nat.blt pc 22 then (bif Nat.blt pc 13 then (bif Nat.blt pc 5 then (bif Nat.blt pc 1 then (bif Nat.beq pc 0 then some (.iload_n 1, []) else none) else (bif Nat.blt pc 2 then (bif Nat.beq pc 1 then some (.aload_n 0, []) else none) else (bif Nat.beq pc 2 then some (.getfield 47, []) else none))) else (bif Nat.blt pc 9 then (bif Nat.blt pc 8 then (bif Nat.beq pc 5 then some (.if_icmp .ge 8, [13]) else none) else (bif Nat.beq pc 8 then some (.iload_n 1, []) else none)) else (bif Nat.blt pc 10 then (bif Nat.beq pc 9 then some (.iconst 4, []) else none) else (bif Nat.beq pc 10 then some (.if_icmp .lt 9, [19]) else none)))) else (bif Nat.blt pc 18 then (bif Nat.blt pc 14 then (bif Nat.beq pc 13 then some (.aload_n 0, []) else none) else (bif Nat.blt pc 15 then (bif Nat.beq pc 14 then some (.iload_n 2, []) else none) else (bif Nat.beq pc 15 then some (.invokevirtual 81, []) else none))) else (bif Nat.blt pc 20 then (bif Nat.blt pc 19 then (bif Nat.beq pc 18 then some (.return_, []) else none) else (bif Nat.beq pc 19 then some (.iconst 0, []) else none)) else (bif Nat.blt pc 21 then (bif Nat.beq pc 20 then some (.istore_n 3, []) else none) else (bif Nat.beq pc 21 then some (.iload_n 3, []) else none))))) else (bif Nat.blt pc 35 then (bif Nat.blt pc 26 then (bif Nat.blt pc 24 then (bif Nat.beq pc 22 then some (.bipush 6, []) else none) else (bif Nat.blt pc 25 then (bif Nat.beq pc 24 then some (.iload_n 2, []) else none) else (bif Nat.beq pc 25 then some (.iadd, []) else none))) else (bif Nat.blt pc 30 then (bif Nat.blt pc 29 then (bif Nat.beq pc 26 then some (.if_icmp .gt 79, [105]) else none) else (bif Nat.beq pc 29 then some (.iload_n 3, []) else none)) else (bif Nat.blt pc 32 then (bif Nat.beq pc 30 then some (.bipush 10, []) else none) else (bif Nat.beq pc 32 then some (.if_icmp .ge 73, [105]) else none)))) else (bif Nat.blt pc 40 then (bif Nat.blt pc 38 then (bif Nat.blt pc 36 then (bif Nat.beq pc 35 then some (.iload_n 3, []) else none) else (bif Nat.beq pc 36 then some (.bipush 6, []) else none)) else (bif Nat.blt pc 39 then (bif Nat.beq pc 38 then some (.iload_n 2, []) else none) else (bif Nat.beq pc 39 then some (.iadd, []) else none))) else (bif Nat.blt pc 44 then (bif Nat.blt pc 43 then (bif Nat.beq pc 40 then some (.if_icmp .ne 9, [49]) else none) else (bif Nat.beq pc 43 then some (.iload_n 2, []) else none)) else (bif Nat.blt pc 45 then (bif Nat.beq pc 44 then some (.iconst 1, []) else none) else (bif Nat.beq pc 45 then some (.iadd, []) else none)))))) else (bif Nat.blt pc 74 then (bif Nat.blt pc 59 then (bif Nat.blt pc 52 then (bif Nat.blt pc 49 then (bif Nat.beq pc 46 then some (.goto 4, [50]) else none) else (bif Nat.blt pc 50 then (bif Nat.beq pc 49 then some (.iload_n 2, []) else none) else (bif Nat.beq pc 50 then some (.istore 4, []) else none))) else (bif Nat.blt pc 54 then (bif Nat.blt pc 53 then (bif Nat.beq pc 52 then some (.aload_n 0, []) else none) else (bif Nat.beq pc 53 then some (.iload_n 3, []) else none)) else (bif Nat.blt pc 56 then (bif Nat.beq pc 54 then some (.iload 4, []) else none) else (bif Nat.beq pc 56 then some (.invokevirtual 85, []) else none)))) else (bif Nat.blt pc 67 then (bif Nat.blt pc 63 then (bif Nat.blt pc 62 then (bif Nat.beq pc 59 then some (.ifCond .eq 40, [99]) else none) else (bif Nat.beq pc 62 then some (.aload_n 0, []) else none)) else (bif Nat.blt pc 66 then (bif Nat.beq pc 63 then some (.getfield 23, []) else none) else (bif Nat.beq pc 66 then some (.iload_n 1, []) else none))) else (bif Nat.blt pc 70 then (bif Nat.blt pc 68 then (bif Nat.beq pc 67 then some (.iload_n 3, []) else none) else (bif Nat.beq pc 68 then some (.iload 4, []) else none)) else (bif Nat.blt pc 73 then (bif Nat.beq pc 70 then some (.invokevirtual 89, []) else none) else (bif Nat.beq pc 73 then some (.aload_n 0, []) else none))))) else (bif Nat.blt pc 91 then (bif Nat.blt pc 81 then (bif Nat.blt pc 77 then (bif Nat.beq pc 74 then some (.getfield 23, []) else none) else (bif Nat.blt pc 78 then (bif Nat.beq pc 77 then some (.aload_n 0, []) else none) else (bif Nat.beq pc 78 then some (.getfield 15, []) else none))) else (bif Nat.blt pc 87 then (bif Nat.blt pc 84 then (bif Nat.beq pc 81 then some (.invokevirtual 61, []) else none) else (bif Nat.beq pc 84 then some (.invokevirtual 78, []) else none)) else (bif Nat.blt pc 90 then (bif Nat.beq pc 87 then some (.ifCond .eq 12, [99]) else none) else (bif Nat.beq pc 90 then some (.aload_n 0, []) else none)))) else (bif Nat.blt pc 96 then (bif Nat.blt pc 93 then (bif Nat.blt pc 92 then (bif Nat.beq pc 91 then some (.iload_n 1, []) else none) else (bif Nat.beq pc 92 then some (.iconst 1, []) else none)) else (bif Nat.blt pc 94 then (bif Nat.beq pc 93 then some (.iadd, []) else none) else (bif Nat.beq pc 94 then some (.iload 4, []) else none))) else (bif Nat.blt pc 102 then (bif Nat.blt pc 99 then (bif Nat.beq pc 96 then some (.invokestatic 68, []) else none) else (bif Nat.beq pc 99 then some (.iinc 3 1, []) else none)) else (bif Nat.blt pc 105 then (bif Nat.beq pc 102 then some (.goto (-81), [21]) else none) else (bif Nat.beq pc 105 then some (.return_, []) else none))))))))
set_option maxRecDepth 100000 in
theorem oX0_seek : xIOk cX0_seek iX0_seek := xIOk_of (N := 106) (fun pc h => xtree_none h) (by decide +kernel)
set_option maxRecDepth 100000 in
theorem yoX0_seek : xYOk yX0_seek cX0_seek 5 none 3 := ⟨by decide, xm 409 (by decide +kernel) rfl, xm 45 (by decide +kernel) rfl, by decide +kernel, by decide +kernel⟩
set_option maxRecDepth 100000 in
def iX0_mayTake : Nat → Option (Instr × List Nat) := xtree 31 (fun pc => (bif Nat.blt pc 15 then (bif Nat.blt pc 8 then (bif Nat.blt pc 2 then (bif Nat.blt pc 1 then (bif Nat.beq pc 0 then some (.iload_n 2, []) else none) else (bif Nat.beq pc 1 then some (.aload_n 0, []) else none)) else (bif Nat.blt pc 5 then (bif Nat.beq pc 2 then some (.getfield 35, []) else none) else (bif Nat.beq pc 5 then some (.if_icmp .gt 24, [29]) else none))) else (bif Nat.blt pc 11 then (bif Nat.blt pc 9 then (bif Nat.beq pc 8 then some (.iload_n 1, []) else none) else (bif Nat.beq pc 9 then some (.bipush 6, []) else none)) else (bif Nat.blt pc 14 then (bif Nat.beq pc 11 then some (.if_icmp .ge 14, [25]) else none) else (bif Nat.beq pc 14 then some (.aload_n 0, []) else none)))) else (bif Nat.blt pc 25 then (bif Nat.blt pc 19 then (bif Nat.blt pc 18 then (bif Nat.beq pc 15 then some (.getfield 58, []) else none) else (bif Nat.beq pc 18 then some (.iload_n 1, []) else none)) else (bif Nat.blt pc 22 then (bif Nat.beq pc 19 then some (.invokestatic 93, []) else none) else (bif Nat.beq pc 22 then some (.ifCond .eq 7, [29]) else none))) else (bif Nat.blt pc 29 then (bif Nat.blt pc 26 then (bif Nat.beq pc 25 then some (.iconst 1, []) else none) else (bif Nat.beq pc 26 then some (.goto 4, [30]) else none)) else (bif Nat.blt pc 30 then (bif Nat.beq pc 29 then some (.iconst 0, []) else none) else (bif Nat.beq pc 30 then some (.ireturn, []) else none))))))
set_option maxRecDepth 100000 in
theorem oX0_mayTake : xIOk cX0_mayTake iX0_mayTake := xIOk_of (N := 31) (fun pc h => xtree_none h) (by decide +kernel)
set_option maxRecDepth 100000 in
theorem yoX0_mayTake : xYOk yX0_mayTake cX0_mayTake 3 (some .boolean) 2 := ⟨by decide, xm 431 (by decide +kernel) rfl, xm 45 (by decide +kernel) rfl, by decide +kernel, by decide +kernel⟩
set_option maxRecDepth 100000 in
def iX0_keep : Nat → Option (Instr × List Nat) := xtree 103 (fun pc => (bif Nat.blt pc 51 then (bif Nat.blt pc 25 then (bif Nat.blt pc 10 then (bif Nat.blt pc 7 then (bif Nat.blt pc 1 then (bif Nat.beq pc 0 then some (.aload_n 0, []) else none) else (bif Nat.blt pc 4 then (bif Nat.beq pc 1 then some (.getfield 23, []) else none) else (bif Nat.beq pc 4 then some (.invokevirtual 96, []) else none))) else (bif Nat.blt pc 8 then (bif Nat.beq pc 7 then some (.istore_n 2, []) else none) else (bif Nat.blt pc 9 then (bif Nat.beq pc 8 then some (.iload_n 1, []) else none) else (bif Nat.beq pc 9 then some (.aload_n 0, []) else none)))) else (bif Nat.blt pc 17 then (bif Nat.blt pc 13 then (bif Nat.beq pc 10 then some (.getfield 35, []) else none) else (bif Nat.blt pc 16 then (bif Nat.beq pc 13 then some (.if_icmp .gt 19, [32]) else none) else (bif Nat.beq pc 16 then some (.iload_n 1, []) else none))) else (bif Nat.blt pc 21 then (bif Nat.blt pc 18 then (bif Nat.beq pc 17 then some (.aload_n 0, []) else none) else (bif Nat.beq pc 18 then some (.getfield 35, []) else none)) else (bif Nat.blt pc 24 then (bif Nat.beq pc 21 then some (.if_icmp .ne 12, [33]) else none) else (bif Nat.beq pc 24 then some (.iload_n 2, []) else none))))) else (bif Nat.blt pc 38 then (bif Nat.blt pc 32 then (bif Nat.blt pc 26 then (bif Nat.beq pc 25 then some (.aload_n 0, []) else none) else (bif Nat.blt pc 29 then (bif Nat.beq pc 26 then some (.getfield 38, []) else none) else (bif Nat.beq pc 29 then some (.if_icmp .le 4, [33]) else none))) else (bif Nat.blt pc 34 then (bif Nat.blt pc 33 then (bif Nat.beq pc 32 then some (.return_, []) else none) else (bif Nat.beq pc 33 then some (.iload_n 1, []) else none)) else (bif Nat.blt pc 35 then (bif Nat.beq pc 34 then some (.aload_n 0, []) else none) else (bif Nat.beq pc 35 then some (.getfield 35, []) else none)))) else (bif Nat.blt pc 43 then (bif Nat.blt pc 41 then (bif Nat.beq pc 38 then some (.if_icmp .lt 11, [49]) else none) else (bif Nat.blt pc 42 then (bif Nat.beq pc 41 then some (.iload_n 2, []) else none) else (bif Nat.beq pc 42 then some (.aload_n 0, []) else none))) else (bif Nat.blt pc 49 then (bif Nat.blt pc 46 then (bif Nat.beq pc 43 then some (.getfield 38, []) else none) else (bif Nat.beq pc 46 then some (.if_icmp .ge 18, [64]) else none)) else (bif Nat.blt pc 50 then (bif Nat.beq pc 49 then some (.aload_n 0, []) else none) else (bif Nat.beq pc 50 then some (.iconst 0, []) else none)))))) else (bif Nat.blt pc 77 then (bif Nat.blt pc 64 then (bif Nat.blt pc 56 then (bif Nat.blt pc 54 then (bif Nat.beq pc 51 then some (.putfield 31, []) else none) else (bif Nat.blt pc 55 then (bif Nat.beq pc 54 then some (.aload_n 0, []) else none) else (bif Nat.beq pc 55 then some (.iload_n 1, []) else none))) else (bif Nat.blt pc 60 then (bif Nat.blt pc 59 then (bif Nat.beq pc 56 then some (.putfield 35, []) else none) else (bif Nat.beq pc 59 then some (.aload_n 0, []) else none)) else (bif Nat.blt pc 61 then (bif Nat.beq pc 60 then some (.iload_n 2, []) else none) else (bif Nat.beq pc 61 then some (.putfield 38, []) else none)))) else (bif Nat.blt pc 69 then (bif Nat.blt pc 65 then (bif Nat.beq pc 64 then some (.aload_n 0, []) else none) else (bif Nat.blt pc 68 then (bif Nat.beq pc 65 then some (.getfield 31, []) else none) else (bif Nat.beq pc 68 then some (.aload_n 0, []) else none))) else (bif Nat.blt pc 73 then (bif Nat.blt pc 72 then (bif Nat.beq pc 69 then some (.getfield 9, []) else none) else (bif Nat.beq pc 72 then some (.arraylength, []) else none)) else (bif Nat.blt pc 76 then (bif Nat.beq pc 73 then some (.if_icmp .ge 29, [102]) else none) else (bif Nat.beq pc 76 then some (.aload_n 0, []) else none))))) else (bif Nat.blt pc 92 then (bif Nat.blt pc 84 then (bif Nat.blt pc 80 then (bif Nat.beq pc 77 then some (.getfield 9, []) else none) else (bif Nat.blt pc 81 then (bif Nat.beq pc 80 then some (.aload_n 0, []) else none) else (bif Nat.beq pc 81 then some (.getfield 31, []) else none))) else (bif Nat.blt pc 88 then (bif Nat.blt pc 85 then (bif Nat.beq pc 84 then some (.aload_n 0, []) else none) else (bif Nat.beq pc 85 then some (.getfield 23, []) else none)) else (bif Nat.blt pc 91 then (bif Nat.beq pc 88 then some (.invokevirtual 98, []) else none) else (bif Nat.beq pc 91 then some (.iastore, []) else none)))) else (bif Nat.blt pc 97 then (bif Nat.blt pc 93 then (bif Nat.beq pc 92 then some (.aload_n 0, []) else none) else (bif Nat.blt pc 94 then (bif Nat.beq pc 93 then some (.dup, []) else none) else (bif Nat.beq pc 94 then some (.getfield 31, []) else none))) else (bif Nat.blt pc 99 then (bif Nat.blt pc 98 then (bif Nat.beq pc 97 then some (.iconst 1, []) else none) else (bif Nat.beq pc 98 then some (.iadd, []) else none)) else (bif Nat.blt pc 102 then (bif Nat.beq pc 99 then some (.putfield 31, []) else none) else (bif Nat.beq pc 102 then some (.return_, []) else none))))))))
set_option maxRecDepth 100000 in
theorem oX0_keep : xIOk cX0_keep iX0_keep := xIOk_of (N := 103) (fun pc h => xtree_none h) (by decide +kernel)
set_option maxRecDepth 100000 in
theorem yoX0_keep : xYOk yX0_keep cX0_keep 3 none 1 := ⟨by decide, xm 413 (by decide +kernel) rfl, xm 45 (by decide +kernel) rfl, by decide +kernel, by decide +kernel⟩
theorem loX0_41 : xLink RX0 41 yX2_silents false := ⟨xm 219 (by decide +kernel) rfl, xm 220 (by decide +kernel) rfl, xm 349 (by decide +kernel) rfl⟩
theorem loX0_49 : xLink RX0 49 yX2_names false := ⟨xm 351 (by decide +kernel) rfl, xm 352 (by decide +kernel) rfl, xm 350 (by decide +kernel) rfl⟩
theorem loX0_52 : xLink RX0 52 yX4_boxes false := ⟨xm 355 (by decide +kernel) rfl, xm 356 (by decide +kernel) rfl, xm 354 (by decide +kernel) rfl⟩
theorem loX0_61 : xLink RX0 61 yX2_all false := ⟨xm 359 (by decide +kernel) rfl, xm 360 (by decide +kernel) rfl, xm 358 (by decide +kernel) rfl⟩
theorem loX0_64 : xLink RX0 64 yX0_someFits false := ⟨xm 363 (by decide +kernel) rfl, xm 364 (by decide +kernel) rfl, xm 362 (by decide +kernel) rfl⟩
theorem loX0_68 : xLink RX0 68 yX0_seek true := ⟨xm 408 (by decide +kernel) rfl, Or.inl (xm 407 (by decide +kernel) rfl)⟩
theorem loX0_72 : xLink RX0 72 yX1_loosen false := ⟨xm 367 (by decide +kernel) rfl, xm 368 (by decide +kernel) rfl, xm 366 (by decide +kernel) rfl⟩
theorem loX0_78 : xLink RX0 78 yX1_fits false := ⟨xm 374 (by decide +kernel) rfl, xm 375 (by decide +kernel) rfl, xm 373 (by decide +kernel) rfl⟩
theorem loX0_81 : xLink RX0 81 yX0_keep false := ⟨xm 412 (by decide +kernel) rfl, xm 9 (by decide +kernel) rfl, xm 410 (by decide +kernel) rfl⟩
theorem loX0_85 : xLink RX0 85 yX0_mayTake false := ⟨xm 430 (by decide +kernel) rfl, xm 10 (by decide +kernel) rfl, xm 428 (by decide +kernel) rfl⟩
theorem loX0_89 : xLink RX0 89 yX1_place false := ⟨xm 434 (by decide +kernel) rfl, xm 435 (by decide +kernel) rfl, xm 433 (by decide +kernel) rfl⟩
theorem loX0_93 : xLink RX0 93 yX5_hasBit true := ⟨xm 299 (by decide +kernel) rfl, Or.inr ⟨"NetShape", by decide +kernel⟩⟩
theorem loX0_96 : xLink RX0 96 yX1_lines false := ⟨xm 415 (by decide +kernel) rfl, xm 416 (by decide +kernel) rfl, xm 414 (by decide +kernel) rfl⟩
theorem loX0_98 : xLink RX0 98 yX1_code false := ⟨xm 425 (by decide +kernel) rfl, xm 426 (by decide +kernel) rfl, xm 424 (by decide +kernel) rfl⟩
theorem inX3 : ∀ w ∈ u_ws RX3 TX3 10, w ∈ xtb := fun w h => List.mem_filter.mpr ⟨(show ∀ w ∈ u_ws RX3 TX3 10, w ∈ lw_tbl by decide +kernel) w h, (show ∀ w ∈ u_ws RX3 TX3 10, goodWord w = true by decide +kernel) w h⟩
def fldX3 : xFld := [(21, 3, 0, 2), (25, 3, 1, 2), (29, 3, 2, 2), (33, 3, 3, 2), (9, 3, 4, 2), (15, 3, 5, 2), (18, 3, 6, 2), (37, 3, 7, 1), (41, 3, 8, 0), (45, 3, 9, 0)]
theorem foX3 : ∀ q ∈ fldX3, xFOk RX3 q := List.forall_mem_cons.mpr ⟨⟨RX3, TX3, 10, tyX3, rfl, by decide, by decide, inX3, xm 154 (by decide +kernel) rfl, tyX3_ok, nmX3, by decide, by decide⟩, List.forall_mem_cons.mpr ⟨⟨RX3, TX3, 10, tyX3, rfl, by decide, by decide, inX3, xm 155 (by decide +kernel) rfl, tyX3_ok, nmX3, by decide, by decide⟩, List.forall_mem_cons.mpr ⟨⟨RX3, TX3, 10, tyX3, rfl, by decide, by decide, inX3, xm 156 (by decide +kernel) rfl, tyX3_ok, nmX3, by decide, by decide⟩, List.forall_mem_cons.mpr ⟨⟨RX3, TX3, 10, tyX3, rfl, by decide, by decide, inX3, xm 157 (by decide +kernel) rfl, tyX3_ok, nmX3, by decide, by decide⟩, List.forall_mem_cons.mpr ⟨⟨RX3, TX3, 10, tyX3, rfl, by decide, by decide, inX3, xm 158 (by decide +kernel) rfl, tyX3_ok, nmX3, by decide, by decide⟩, List.forall_mem_cons.mpr ⟨⟨RX3, TX3, 10, tyX3, rfl, by decide, by decide, inX3, xm 159 (by decide +kernel) rfl, tyX3_ok, nmX3, by decide, by decide⟩, List.forall_mem_cons.mpr ⟨⟨RX3, TX3, 10, tyX3, rfl, by decide, by decide, inX3, xm 160 (by decide +kernel) rfl, tyX3_ok, nmX3, by decide, by decide⟩, List.forall_mem_cons.mpr ⟨⟨RX3, TX3, 10, tyX3, rfl, by decide, by decide, inX3, xm 161 (by decide +kernel) rfl, tyX3_ok, nmX3, by decide, by decide⟩, List.forall_mem_cons.mpr ⟨⟨RX3, TX3, 10, tyX3, rfl, by decide, by decide, inX3, xm 162 (by decide +kernel) rfl, tyX3_ok, nmX3, by decide, by decide⟩, List.forall_mem_cons.mpr ⟨⟨RX3, TX3, 10, tyX3, rfl, by decide, by decide, inX3, xm 163 (by decide +kernel) rfl, tyX3_ok, nmX3, by decide, by decide⟩, fun _ h => absurd h List.not_mem_nil⟩⟩⟩⟩⟩⟩⟩⟩⟩⟩
set_option maxRecDepth 100000 in
def iX3_forgetMade : Nat → Option (Instr × List Nat) := xtree 6 (fun pc => (bif Nat.blt pc 2 then (bif Nat.blt pc 1 then (bif Nat.beq pc 0 then some (.aload_n 0, []) else none) else (bif Nat.beq pc 1 then some (.iconst 0, []) else none)) else (bif Nat.blt pc 5 then (bif Nat.beq pc 2 then some (.putfield 37, []) else none) else (bif Nat.beq pc 5 then some (.return_, []) else none))))
set_option maxRecDepth 100000 in
theorem oX3_forgetMade : xIOk cX3_forgetMade iX3_forgetMade := xIOk_of (N := 6) (fun pc h => xtree_none h) (by decide +kernel)
set_option maxRecDepth 100000 in
theorem yoX3_forgetMade : xYOk yX3_forgetMade cX3_forgetMade 1 none 0 := ⟨by decide, xm 269 (by decide +kernel) rfl, xm 46 (by decide +kernel) rfl, by decide +kernel, by decide +kernel⟩
set_option maxRecDepth 100000 in
def iX3_bestPair : Nat → Option (Instr × List Nat) := xtree 5 (fun pc => (bif Nat.blt pc 1 then (bif Nat.beq pc 0 then some (.aload_n 0, []) else none) else (bif Nat.blt pc 4 then (bif Nat.beq pc 1 then some (.getfield 41, []) else none) else (bif Nat.beq pc 4 then some (.ireturn, []) else none))))
set_option maxRecDepth 100000 in
theorem oX3_bestPair : xIOk cX3_bestPair iX3_bestPair := xIOk_of (N := 5) (fun pc h => xtree_none h) (by decide +kernel)
set_option maxRecDepth 100000 in
theorem yoX3_bestPair : xYOk yX3_bestPair cX3_bestPair 1 (some .int) 0 := ⟨by decide, xm 555 (by decide +kernel) rfl, xm 46 (by decide +kernel) rfl, by decide +kernel, by decide +kernel⟩
set_option maxRecDepth 100000 in
def iX3_bestHeap : Nat → Option (Instr × List Nat) := xtree 5 (fun pc => (bif Nat.blt pc 1 then (bif Nat.beq pc 0 then some (.aload_n 0, []) else none) else (bif Nat.blt pc 4 then (bif Nat.beq pc 1 then some (.getfield 45, []) else none) else (bif Nat.beq pc 4 then some (.ireturn, []) else none))))
set_option maxRecDepth 100000 in
theorem oX3_bestHeap : xIOk cX3_bestHeap iX3_bestHeap := xIOk_of (N := 5) (fun pc h => xtree_none h) (by decide +kernel)
set_option maxRecDepth 100000 in
theorem yoX3_bestHeap : xYOk yX3_bestHeap cX3_bestHeap 1 (some .int) 0 := ⟨by decide, xm 563 (by decide +kernel) rfl, xm 46 (by decide +kernel) rfl, by decide +kernel, by decide +kernel⟩
set_option maxRecDepth 100000 in
def iX3_wayIn : Nat → Option (Instr × List Nat) := xtree 18 (fun pc => (bif Nat.blt pc 9 then (bif Nat.blt pc 4 then (bif Nat.blt pc 1 then (bif Nat.beq pc 0 then some (.aload_n 0, []) else none) else (bif Nat.beq pc 1 then some (.getfield 29, []) else none)) else (bif Nat.blt pc 5 then (bif Nat.beq pc 4 then some (.iload_n 1, []) else none) else (bif Nat.blt pc 8 then (bif Nat.beq pc 5 then some (.invokevirtual 48, []) else none) else (bif Nat.beq pc 8 then some (.aload_n 0, []) else none)))) else (bif Nat.blt pc 13 then (bif Nat.blt pc 12 then (bif Nat.beq pc 9 then some (.getfield 29, []) else none) else (bif Nat.beq pc 12 then some (.iload_n 2, []) else none)) else (bif Nat.blt pc 14 then (bif Nat.beq pc 13 then some (.iload_n 3, []) else none) else (bif Nat.blt pc 17 then (bif Nat.beq pc 14 then some (.invokevirtual 54, []) else none) else (bif Nat.beq pc 17 then some (.ireturn, []) else none))))))
set_option maxRecDepth 100000 in
theorem oX3_wayIn : xIOk cX3_wayIn iX3_wayIn := xIOk_of (N := 18) (fun pc h => xtree_none h) (by decide +kernel)
set_option maxRecDepth 100000 in
theorem yoX3_wayIn : xYOk yX3_wayIn cX3_wayIn 4 (some .int) 3 := ⟨by decide, xm 485 (by decide +kernel) rfl, xm 46 (by decide +kernel) rfl, by decide +kernel, by decide +kernel⟩
set_option maxRecDepth 100000 in
def iX3_lineBetween : Nat → Option (Instr × List Nat) := xtree 41 (fun pc => (bif Nat.blt pc 21 then (bif Nat.blt pc 11 then (bif Nat.blt pc 4 then (bif Nat.blt pc 1 then (bif Nat.beq pc 0 then some (.iload_n 1, []) else none) else (bif Nat.beq pc 1 then some (.invokestatic 58, []) else none)) else (bif Nat.blt pc 7 then (bif Nat.beq pc 4 then some (.ifCond .eq 16, [20]) else none) else (bif Nat.blt pc 8 then (bif Nat.beq pc 7 then some (.aload_n 0, []) else none) else (bif Nat.beq pc 8 then some (.getfield 9, []) else none)))) else (bif Nat.blt pc 14 then (bif Nat.blt pc 12 then (bif Nat.beq pc 11 then some (.iload_n 1, []) else none) else (bif Nat.blt pc 13 then (bif Nat.beq pc 12 then some (.iaload, []) else none) else (bif Nat.beq pc 13 then some (.iload_n 2, []) else none))) else (bif Nat.blt pc 17 then (bif Nat.beq pc 14 then some (.invokestatic 62, []) else none) else (bif Nat.blt pc 20 then (bif Nat.beq pc 17 then some (.ifCond .ne 5, [22]) else none) else (bif Nat.beq pc 20 then some (.iconst 0, []) else none))))) else (bif Nat.blt pc 29 then (bif Nat.blt pc 26 then (bif Nat.blt pc 22 then (bif Nat.beq pc 21 then some (.ireturn, []) else none) else (bif Nat.blt pc 23 then (bif Nat.beq pc 22 then some (.aload_n 0, []) else none) else (bif Nat.beq pc 23 then some (.getfield 15, []) else none))) else (bif Nat.blt pc 27 then (bif Nat.beq pc 26 then some (.iload_n 1, []) else none) else (bif Nat.blt pc 28 then (bif Nat.beq pc 27 then some (.iaload, []) else none) else (bif Nat.beq pc 28 then some (.iload_n 2, []) else none)))) else (bif Nat.blt pc 36 then (bif Nat.blt pc 32 then (bif Nat.beq pc 29 then some (.invokestatic 62, []) else none) else (bif Nat.blt pc 35 then (bif Nat.beq pc 32 then some (.ifCond .eq 7, [39]) else none) else (bif Nat.beq pc 35 then some (.iconst 2, []) else none))) else (bif Nat.blt pc 39 then (bif Nat.beq pc 36 then some (.goto 4, [40]) else none) else (bif Nat.blt pc 40 then (bif Nat.beq pc 39 then some (.iconst 1, []) else none) else (bif Nat.beq pc 40 then some (.ireturn, []) else none)))))))
set_option maxRecDepth 100000 in
theorem oX3_lineBetween : xIOk cX3_lineBetween iX3_lineBetween := xIOk_of (N := 41) (fun pc h => xtree_none h) (by decide +kernel)
set_option maxRecDepth 100000 in
theorem yoX3_lineBetween : xYOk yX3_lineBetween cX3_lineBetween 3 (some .int) 2 := ⟨by decide, xm 540 (by decide +kernel) rfl, xm 46 (by decide +kernel) rfl, by decide +kernel, by decide +kernel⟩
set_option maxRecDepth 100000 in
def iX3_make : Nat → Option (Instr × List Nat) := xtree 98 (fun pc => (bif Nat.blt pc 51 then (bif Nat.blt pc 22 then (bif Nat.blt pc 10 then (bif Nat.blt pc 7 then (bif Nat.blt pc 1 then (bif Nat.beq pc 0 then some (.aload_n 0, []) else none) else (bif Nat.blt pc 4 then (bif Nat.beq pc 1 then some (.getfield 37, []) else none) else (bif Nat.beq pc 4 then some (.ifCond .eq 4, [8]) else none))) else (bif Nat.blt pc 8 then (bif Nat.beq pc 7 then some (.return_, []) else none) else (bif Nat.blt pc 9 then (bif Nat.beq pc 8 then some (.aload_n 0, []) else none) else (bif Nat.beq pc 9 then some (.iconst 1, []) else none)))) else (bif Nat.blt pc 17 then (bif Nat.blt pc 13 then (bif Nat.beq pc 10 then some (.putfield 37, []) else none) else (bif Nat.blt pc 14 then (bif Nat.beq pc 13 then some (.aload_n 0, []) else none) else (bif Nat.beq pc 14 then some (.getfield 9, []) else none))) else (bif Nat.blt pc 18 then (bif Nat.beq pc 17 then some (.iconst 0, []) else none) else (bif Nat.blt pc 21 then (bif Nat.beq pc 18 then some (.invokestatic 66, []) else none) else (bif Nat.beq pc 21 then some (.aload_n 0, []) else none))))) else (bif Nat.blt pc 36 then (bif Nat.blt pc 31 then (bif Nat.blt pc 25 then (bif Nat.beq pc 22 then some (.getfield 15, []) else none) else (bif Nat.blt pc 28 then (bif Nat.beq pc 25 then some (.sipush 1023, []) else none) else (bif Nat.beq pc 28 then some (.invokestatic 66, []) else none))) else (bif Nat.blt pc 32 then (bif Nat.beq pc 31 then some (.aload_n 0, []) else none) else (bif Nat.blt pc 35 then (bif Nat.beq pc 32 then some (.getfield 18, []) else none) else (bif Nat.beq pc 35 then some (.iconst 0, []) else none)))) else (bif Nat.blt pc 43 then (bif Nat.blt pc 39 then (bif Nat.beq pc 36 then some (.invokestatic 66, []) else none) else (bif Nat.blt pc 40 then (bif Nat.beq pc 39 then some (.aload_n 0, []) else none) else (bif Nat.beq pc 40 then some (.getfield 21, []) else none))) else (bif Nat.blt pc 47 then (bif Nat.blt pc 46 then (bif Nat.beq pc 43 then some (.invokevirtual 72, []) else none) else (bif Nat.beq pc 46 then some (.istore_n 1, []) else none)) else (bif Nat.blt pc 48 then (bif Nat.beq pc 47 then some (.aload_n 0, []) else none) else (bif Nat.beq pc 48 then some (.getfield 33, []) else none)))))) else (bif Nat.blt pc 71 then (bif Nat.blt pc 59 then (bif Nat.blt pc 56 then (bif Nat.blt pc 54 then (bif Nat.beq pc 51 then some (.invokevirtual 78, []) else none) else (bif Nat.blt pc 55 then (bif Nat.beq pc 54 then some (.istore_n 2, []) else none) else (bif Nat.beq pc 55 then some (.iconst 0, []) else none))) else (bif Nat.blt pc 57 then (bif Nat.beq pc 56 then some (.istore_n 3, []) else none) else (bif Nat.blt pc 58 then (bif Nat.beq pc 57 then some (.iload_n 3, []) else none) else (bif Nat.beq pc 58 then some (.iload_n 2, []) else none)))) else (bif Nat.blt pc 66 then (bif Nat.blt pc 62 then (bif Nat.beq pc 59 then some (.if_icmp .ge 33, [92]) else none) else (bif Nat.blt pc 63 then (bif Nat.beq pc 62 then some (.aload_n 0, []) else none) else (bif Nat.beq pc 63 then some (.getfield 29, []) else none))) else (bif Nat.blt pc 67 then (bif Nat.beq pc 66 then some (.aload_n 0, []) else none) else (bif Nat.blt pc 70 then (bif Nat.beq pc 67 then some (.getfield 33, []) else none) else (bif Nat.beq pc 70 then some (.iload_n 3, []) else none))))) else (bif Nat.blt pc 83 then (bif Nat.blt pc 78 then (bif Nat.blt pc 74 then (bif Nat.beq pc 71 then some (.invokevirtual 83, []) else none) else (bif Nat.blt pc 77 then (bif Nat.beq pc 74 then some (.invokevirtual 48, []) else none) else (bif Nat.beq pc 77 then some (.aload_n 0, []) else none))) else (bif Nat.blt pc 81 then (bif Nat.beq pc 78 then some (.invokevirtual 87, []) else none) else (bif Nat.blt pc 82 then (bif Nat.beq pc 81 then some (.aload_n 0, []) else none) else (bif Nat.beq pc 82 then some (.iload_n 1, []) else none)))) else (bif Nat.blt pc 92 then (bif Nat.blt pc 86 then (bif Nat.beq pc 83 then some (.invokevirtual 90, []) else none) else (bif Nat.blt pc 89 then (bif Nat.beq pc 86 then some (.iinc 3 1, []) else none) else (bif Nat.beq pc 89 then some (.goto (-32), [57]) else none))) else (bif Nat.blt pc 94 then (bif Nat.blt pc 93 then (bif Nat.beq pc 92 then some (.aload_n 0, []) else none) else (bif Nat.beq pc 93 then some (.iload_n 1, []) else none)) else (bif Nat.blt pc 97 then (bif Nat.beq pc 94 then some (.invokevirtual 93, []) else none) else (bif Nat.beq pc 97 then some (.return_, []) else none))))))))
set_option maxRecDepth 100000 in
theorem oX3_make : xIOk cX3_make iX3_make := xIOk_of (N := 98) (fun pc h => xtree_none h) (by decide +kernel)
set_option maxRecDepth 100000 in
theorem yoX3_make : xYOk yX3_make cX3_make 4 none 0 := ⟨by decide, xm 501 (by decide +kernel) rfl, xm 46 (by decide +kernel) rfl, by decide +kernel, by decide +kernel⟩
set_option maxRecDepth 100000 in
def iX3_addLines : Nat → Option (Instr × List Nat) := xtree 49 (fun pc => (bif Nat.blt pc 24 then (bif Nat.blt pc 12 then (bif Nat.blt pc 3 then (bif Nat.blt pc 1 then (bif Nat.beq pc 0 then some (.iconst 0, []) else none) else (bif Nat.blt pc 2 then (bif Nat.beq pc 1 then some (.istore_n 1, []) else none) else (bif Nat.beq pc 2 then some (.iload_n 1, []) else none))) else (bif Nat.blt pc 8 then (bif Nat.blt pc 5 then (bif Nat.beq pc 3 then some (.bipush 10, []) else none) else (bif Nat.beq pc 5 then some (.if_icmp .ge 43, [48]) else none)) else (bif Nat.blt pc 9 then (bif Nat.beq pc 8 then some (.aload_n 0, []) else none) else (bif Nat.beq pc 9 then some (.getfield 9, []) else none)))) else (bif Nat.blt pc 16 then (bif Nat.blt pc 14 then (bif Nat.blt pc 13 then (bif Nat.beq pc 12 then some (.iload_n 1, []) else none) else (bif Nat.beq pc 13 then some (.dup2, []) else none)) else (bif Nat.blt pc 15 then (bif Nat.beq pc 14 then some (.iaload, []) else none) else (bif Nat.beq pc 15 then some (.aload_n 0, []) else none))) else (bif Nat.blt pc 20 then (bif Nat.blt pc 19 then (bif Nat.beq pc 16 then some (.getfield 29, []) else none) else (bif Nat.beq pc 19 then some (.iload_n 1, []) else none)) else (bif Nat.blt pc 23 then (bif Nat.beq pc 20 then some (.invokevirtual 96, []) else none) else (bif Nat.beq pc 23 then some (.ior, []) else none))))) else (bif Nat.blt pc 33 then (bif Nat.blt pc 29 then (bif Nat.blt pc 25 then (bif Nat.beq pc 24 then some (.iastore, []) else none) else (bif Nat.blt pc 26 then (bif Nat.beq pc 25 then some (.aload_n 0, []) else none) else (bif Nat.beq pc 26 then some (.getfield 15, []) else none))) else (bif Nat.blt pc 31 then (bif Nat.blt pc 30 then (bif Nat.beq pc 29 then some (.iload_n 1, []) else none) else (bif Nat.beq pc 30 then some (.dup2, []) else none)) else (bif Nat.blt pc 32 then (bif Nat.beq pc 31 then some (.iaload, []) else none) else (bif Nat.beq pc 32 then some (.aload_n 0, []) else none)))) else (bif Nat.blt pc 41 then (bif Nat.blt pc 37 then (bif Nat.blt pc 36 then (bif Nat.beq pc 33 then some (.getfield 29, []) else none) else (bif Nat.beq pc 36 then some (.iload_n 1, []) else none)) else (bif Nat.blt pc 40 then (bif Nat.beq pc 37 then some (.invokevirtual 96, []) else none) else (bif Nat.beq pc 40 then some (.iand, []) else none))) else (bif Nat.blt pc 45 then (bif Nat.blt pc 42 then (bif Nat.beq pc 41 then some (.iastore, []) else none) else (bif Nat.beq pc 42 then some (.iinc 1 1, []) else none)) else (bif Nat.blt pc 48 then (bif Nat.beq pc 45 then some (.goto (-43), [2]) else none) else (bif Nat.beq pc 48 then some (.return_, []) else none)))))))
set_option maxRecDepth 100000 in
theorem oX3_addLines : xIOk cX3_addLines iX3_addLines := xIOk_of (N := 49) (fun pc h => xtree_none h) (by decide +kernel)
set_option maxRecDepth 100000 in
theorem yoX3_addLines : xYOk yX3_addLines cX3_addLines 2 none 0 := ⟨by decide, xm 509 (by decide +kernel) rfl, xm 46 (by decide +kernel) rfl, by decide +kernel, by decide +kernel⟩
set_option maxRecDepth 100000 in
def iX3_addWays : Nat → Option (Instr × List Nat) := xtree 76 (fun pc => (bif Nat.blt pc 34 then (bif Nat.blt pc 13 then (bif Nat.blt pc 8 then (bif Nat.blt pc 2 then (bif Nat.blt pc 1 then (bif Nat.beq pc 0 then some (.iconst 0, []) else none) else (bif Nat.beq pc 1 then some (.istore_n 2, []) else none)) else (bif Nat.blt pc 3 then (bif Nat.beq pc 2 then some (.iload_n 2, []) else none) else (bif Nat.blt pc 5 then (bif Nat.beq pc 3 then some (.bipush 6, []) else none) else (bif Nat.beq pc 5 then some (.if_icmp .ge 70, [75]) else none)))) else (bif Nat.blt pc 10 then (bif Nat.blt pc 9 then (bif Nat.beq pc 8 then some (.iload_n 2, []) else none) else (bif Nat.beq pc 9 then some (.iconst 1, []) else none)) else (bif Nat.blt pc 11 then (bif Nat.beq pc 10 then some (.iadd, []) else none) else (bif Nat.blt pc 12 then (bif Nat.beq pc 11 then some (.istore_n 3, []) else none) else (bif Nat.beq pc 12 then some (.iload_n 3, []) else none))))) else (bif Nat.blt pc 23 then (bif Nat.blt pc 18 then (bif Nat.blt pc 15 then (bif Nat.beq pc 13 then some (.bipush 6, []) else none) else (bif Nat.beq pc 15 then some (.if_icmp .ge 54, [69]) else none)) else (bif Nat.blt pc 19 then (bif Nat.beq pc 18 then some (.iload_n 1, []) else none) else (bif Nat.blt pc 20 then (bif Nat.beq pc 19 then some (.iload_n 2, []) else none) else (bif Nat.beq pc 20 then some (.invokestatic 62, []) else none)))) else (bif Nat.blt pc 27 then (bif Nat.blt pc 26 then (bif Nat.beq pc 23 then some (.ifCond .eq 40, [63]) else none) else (bif Nat.beq pc 26 then some (.iload_n 1, []) else none)) else (bif Nat.blt pc 28 then (bif Nat.beq pc 27 then some (.iload_n 3, []) else none) else (bif Nat.blt pc 31 then (bif Nat.beq pc 28 then some (.invokestatic 62, []) else none) else (bif Nat.beq pc 31 then some (.ifCond .eq 32, [63]) else none)))))) else (bif Nat.blt pc 50 then (bif Nat.blt pc 41 then (bif Nat.blt pc 36 then (bif Nat.blt pc 35 then (bif Nat.beq pc 34 then some (.aload_n 0, []) else none) else (bif Nat.beq pc 35 then some (.iload_n 2, []) else none)) else (bif Nat.blt pc 37 then (bif Nat.beq pc 36 then some (.iload_n 3, []) else none) else (bif Nat.blt pc 38 then (bif Nat.beq pc 37 then some (.aload_n 0, []) else none) else (bif Nat.beq pc 38 then some (.getfield 29, []) else none)))) else (bif Nat.blt pc 45 then (bif Nat.blt pc 42 then (bif Nat.beq pc 41 then some (.aload_n 0, []) else none) else (bif Nat.beq pc 42 then some (.getfield 25, []) else none)) else (bif Nat.blt pc 46 then (bif Nat.beq pc 45 then some (.iload_n 2, []) else none) else (bif Nat.blt pc 49 then (bif Nat.beq pc 46 then some (.invokevirtual 99, []) else none) else (bif Nat.beq pc 49 then some (.aload_n 0, []) else none))))) else (bif Nat.blt pc 63 then (bif Nat.blt pc 54 then (bif Nat.blt pc 53 then (bif Nat.beq pc 50 then some (.getfield 25, []) else none) else (bif Nat.beq pc 53 then some (.iload_n 3, []) else none)) else (bif Nat.blt pc 57 then (bif Nat.beq pc 54 then some (.invokevirtual 99, []) else none) else (bif Nat.blt pc 60 then (bif Nat.beq pc 57 then some (.invokevirtual 54, []) else none) else (bif Nat.beq pc 60 then some (.invokevirtual 104, []) else none)))) else (bif Nat.blt pc 69 then (bif Nat.blt pc 66 then (bif Nat.beq pc 63 then some (.iinc 3 1, []) else none) else (bif Nat.beq pc 66 then some (.goto (-54), [12]) else none)) else (bif Nat.blt pc 72 then (bif Nat.beq pc 69 then some (.iinc 2 1, []) else none) else (bif Nat.blt pc 75 then (bif Nat.beq pc 72 then some (.goto (-70), [2]) else none) else (bif Nat.beq pc 75 then some (.return_, []) else none))))))))
set_option maxRecDepth 100000 in
theorem oX3_addWays : xIOk cX3_addWays iX3_addWays := xIOk_of (N := 76) (fun pc h => xtree_none h) (by decide +kernel)
set_option maxRecDepth 100000 in
theorem yoX3_addWays : xYOk yX3_addWays cX3_addWays 4 none 1 := ⟨by decide, xm 517 (by decide +kernel) rfl, xm 46 (by decide +kernel) rfl, by decide +kernel, by decide +kernel⟩
set_option maxRecDepth 100000 in
def iX3_addToHeap : Nat → Option (Instr × List Nat) := xtree 42 (fun pc => (bif Nat.blt pc 20 then (bif Nat.blt pc 9 then (bif Nat.blt pc 4 then (bif Nat.blt pc 1 then (bif Nat.beq pc 0 then some (.iload_n 1, []) else none) else (bif Nat.blt pc 3 then (bif Nat.beq pc 1 then some (.bipush 6, []) else none) else (bif Nat.beq pc 3 then some (.imul, []) else none))) else (bif Nat.blt pc 6 then (bif Nat.blt pc 5 then (bif Nat.beq pc 4 then some (.iload_n 2, []) else none) else (bif Nat.beq pc 5 then some (.iadd, []) else none)) else (bif Nat.blt pc 8 then (bif Nat.beq pc 6 then some (.bipush 11, []) else none) else (bif Nat.beq pc 8 then some (.imul, []) else none)))) else (bif Nat.blt pc 12 then (bif Nat.blt pc 10 then (bif Nat.beq pc 9 then some (.iload_n 3, []) else none) else (bif Nat.blt pc 11 then (bif Nat.beq pc 10 then some (.iadd, []) else none) else (bif Nat.beq pc 11 then some (.iconst 1, []) else none))) else (bif Nat.blt pc 15 then (bif Nat.blt pc 13 then (bif Nat.beq pc 12 then some (.iadd, []) else none) else (bif Nat.beq pc 13 then some (.istore 4, []) else none)) else (bif Nat.blt pc 17 then (bif Nat.beq pc 15 then some (.iload 4, []) else none) else (bif Nat.beq pc 17 then some (.ifCond .lt 24, [41]) else none))))) else (bif Nat.blt pc 34 then (bif Nat.blt pc 26 then (bif Nat.blt pc 22 then (bif Nat.beq pc 20 then some (.iload 4, []) else none) else (bif Nat.blt pc 23 then (bif Nat.beq pc 22 then some (.aload_n 0, []) else none) else (bif Nat.beq pc 23 then some (.getfield 18, []) else none))) else (bif Nat.blt pc 30 then (bif Nat.blt pc 27 then (bif Nat.beq pc 26 then some (.arraylength, []) else none) else (bif Nat.beq pc 27 then some (.if_icmp .ge 14, [41]) else none)) else (bif Nat.blt pc 31 then (bif Nat.beq pc 30 then some (.aload_n 0, []) else none) else (bif Nat.beq pc 31 then some (.getfield 18, []) else none)))) else (bif Nat.blt pc 38 then (bif Nat.blt pc 36 then (bif Nat.beq pc 34 then some (.iload 4, []) else none) else (bif Nat.blt pc 37 then (bif Nat.beq pc 36 then some (.dup2, []) else none) else (bif Nat.beq pc 37 then some (.iaload, []) else none))) else (bif Nat.blt pc 40 then (bif Nat.blt pc 39 then (bif Nat.beq pc 38 then some (.iconst 1, []) else none) else (bif Nat.beq pc 39 then some (.iadd, []) else none)) else (bif Nat.blt pc 41 then (bif Nat.beq pc 40 then some (.iastore, []) else none) else (bif Nat.beq pc 41 then some (.return_, []) else none)))))))
set_option maxRecDepth 100000 in
theorem oX3_addToHeap : xIOk cX3_addToHeap iX3_addToHeap := xIOk_of (N := 42) (fun pc h => xtree_none h) (by decide +kernel)
set_option maxRecDepth 100000 in
theorem yoX3_addToHeap : xYOk yX3_addToHeap cX3_addToHeap 5 none 3 := ⟨by decide, xm 523 (by decide +kernel) rfl, xm 46 (by decide +kernel) rfl, by decide +kernel, by decide +kernel⟩
set_option maxRecDepth 100000 in
def iX3_choosePair : Nat → Option (Instr × List Nat) := xtree 65 (fun pc => (bif Nat.blt pc 27 then (bif Nat.blt pc 14 then (bif Nat.blt pc 7 then (bif Nat.blt pc 3 then (bif Nat.blt pc 1 then (bif Nat.beq pc 0 then some (.aload_n 0, []) else none) else (bif Nat.beq pc 1 then some (.bipush (-6), []) else none)) else (bif Nat.blt pc 6 then (bif Nat.beq pc 3 then some (.putfield 41, []) else none) else (bif Nat.beq pc 6 then some (.aload_n 0, []) else none))) else (bif Nat.blt pc 12 then (bif Nat.blt pc 9 then (bif Nat.beq pc 7 then some (.bipush (-6), []) else none) else (bif Nat.beq pc 9 then some (.putfield 45, []) else none)) else (bif Nat.blt pc 13 then (bif Nat.beq pc 12 then some (.iconst 0, []) else none) else (bif Nat.beq pc 13 then some (.istore_n 2, []) else none)))) else (bif Nat.blt pc 21 then (bif Nat.blt pc 17 then (bif Nat.blt pc 15 then (bif Nat.beq pc 14 then some (.iload_n 2, []) else none) else (bif Nat.beq pc 15 then some (.bipush 6, []) else none)) else (bif Nat.blt pc 20 then (bif Nat.beq pc 17 then some (.if_icmp .ge 47, [64]) else none) else (bif Nat.beq pc 20 then some (.iload_n 2, []) else none))) else (bif Nat.blt pc 23 then (bif Nat.blt pc 22 then (bif Nat.beq pc 21 then some (.iconst 1, []) else none) else (bif Nat.beq pc 22 then some (.iadd, []) else none)) else (bif Nat.blt pc 24 then (bif Nat.beq pc 23 then some (.istore_n 3, []) else none) else (bif Nat.blt pc 25 then (bif Nat.beq pc 24 then some (.iload_n 3, []) else none) else (bif Nat.beq pc 25 then some (.bipush 6, []) else none)))))) else (bif Nat.blt pc 46 then (bif Nat.blt pc 35 then (bif Nat.blt pc 31 then (bif Nat.blt pc 30 then (bif Nat.beq pc 27 then some (.if_icmp .ge 31, [58]) else none) else (bif Nat.beq pc 30 then some (.iload_n 1, []) else none)) else (bif Nat.blt pc 32 then (bif Nat.beq pc 31 then some (.iload_n 2, []) else none) else (bif Nat.beq pc 32 then some (.invokestatic 62, []) else none))) else (bif Nat.blt pc 39 then (bif Nat.blt pc 38 then (bif Nat.beq pc 35 then some (.ifCond .eq 17, [52]) else none) else (bif Nat.beq pc 38 then some (.iload_n 1, []) else none)) else (bif Nat.blt pc 40 then (bif Nat.beq pc 39 then some (.iload_n 3, []) else none) else (bif Nat.blt pc 43 then (bif Nat.beq pc 40 then some (.invokestatic 62, []) else none) else (bif Nat.beq pc 43 then some (.ifCond .eq 9, [52]) else none))))) else (bif Nat.blt pc 52 then (bif Nat.blt pc 48 then (bif Nat.blt pc 47 then (bif Nat.beq pc 46 then some (.aload_n 0, []) else none) else (bif Nat.beq pc 47 then some (.iload_n 2, []) else none)) else (bif Nat.blt pc 49 then (bif Nat.beq pc 48 then some (.iload_n 3, []) else none) else (bif Nat.beq pc 49 then some (.invokevirtual 108, []) else none))) else (bif Nat.blt pc 58 then (bif Nat.blt pc 55 then (bif Nat.beq pc 52 then some (.iinc 3 1, []) else none) else (bif Nat.beq pc 55 then some (.goto (-31), [24]) else none)) else (bif Nat.blt pc 61 then (bif Nat.beq pc 58 then some (.iinc 2 1, []) else none) else (bif Nat.blt pc 64 then (bif Nat.beq pc 61 then some (.goto (-47), [14]) else none) else (bif Nat.beq pc 64 then some (.return_, []) else none))))))))
set_option maxRecDepth 100000 in
theorem oX3_choosePair : xIOk cX3_choosePair iX3_choosePair := xIOk_of (N := 65) (fun pc h => xtree_none h) (by decide +kernel)
set_option maxRecDepth 100000 in
theorem yoX3_choosePair : xYOk yX3_choosePair cX3_choosePair 4 none 1 := ⟨by decide, xm 527 (by decide +kernel) rfl, xm 46 (by decide +kernel) rfl, by decide +kernel, by decide +kernel⟩
set_option maxRecDepth 100000 in
def iX3_choose : Nat → Option (Instr × List Nat) := xtree 40 (fun pc => (bif Nat.blt pc 21 then (bif Nat.blt pc 8 then (bif Nat.blt pc 3 then (bif Nat.blt pc 1 then (bif Nat.beq pc 0 then some (.aload_n 0, []) else none) else (bif Nat.blt pc 2 then (bif Nat.beq pc 1 then some (.iload_n 1, []) else none) else (bif Nat.beq pc 2 then some (.iload_n 2, []) else none))) else (bif Nat.blt pc 6 then (bif Nat.beq pc 3 then some (.invokevirtual 112, []) else none) else (bif Nat.blt pc 7 then (bif Nat.beq pc 6 then some (.istore_n 3, []) else none) else (bif Nat.beq pc 7 then some (.aload_n 0, []) else none)))) else (bif Nat.blt pc 16 then (bif Nat.blt pc 11 then (bif Nat.beq pc 8 then some (.getfield 41, []) else none) else (bif Nat.blt pc 13 then (bif Nat.beq pc 11 then some (.bipush (-6), []) else none) else (bif Nat.beq pc 13 then some (.if_icmp .eq 11, [24]) else none))) else (bif Nat.blt pc 17 then (bif Nat.beq pc 16 then some (.iload_n 3, []) else none) else (bif Nat.blt pc 18 then (bif Nat.beq pc 17 then some (.aload_n 0, []) else none) else (bif Nat.beq pc 18 then some (.getfield 45, []) else none))))) else (bif Nat.blt pc 30 then (bif Nat.blt pc 27 then (bif Nat.blt pc 24 then (bif Nat.beq pc 21 then some (.if_icmp .ge 18, [39]) else none) else (bif Nat.blt pc 25 then (bif Nat.beq pc 24 then some (.aload_n 0, []) else none) else (bif Nat.beq pc 25 then some (.bipush 10, []) else none))) else (bif Nat.blt pc 28 then (bif Nat.beq pc 27 then some (.iload_n 1, []) else none) else (bif Nat.blt pc 29 then (bif Nat.beq pc 28 then some (.imul, []) else none) else (bif Nat.beq pc 29 then some (.iload_n 2, []) else none)))) else (bif Nat.blt pc 35 then (bif Nat.blt pc 31 then (bif Nat.beq pc 30 then some (.iadd, []) else none) else (bif Nat.blt pc 34 then (bif Nat.beq pc 31 then some (.putfield 41, []) else none) else (bif Nat.beq pc 34 then some (.aload_n 0, []) else none))) else (bif Nat.blt pc 36 then (bif Nat.beq pc 35 then some (.iload_n 3, []) else none) else (bif Nat.blt pc 39 then (bif Nat.beq pc 36 then some (.putfield 45, []) else none) else (bif Nat.beq pc 39 then some (.return_, []) else none)))))))
set_option maxRecDepth 100000 in
theorem oX3_choose : xIOk cX3_choose iX3_choose := xIOk_of (N := 40) (fun pc h => xtree_none h) (by decide +kernel)
set_option maxRecDepth 100000 in
theorem yoX3_choose : xYOk yX3_choose cX3_choose 4 none 2 := ⟨by decide, xm 531 (by decide +kernel) rfl, xm 46 (by decide +kernel) rfl, by decide +kernel, by decide +kernel⟩
set_option maxRecDepth 100000 in
def iX3_greatestHeap : Nat → Option (Instr × List Nat) := xtree 57 (fun pc => (bif Nat.blt pc 24 then (bif Nat.blt pc 10 then (bif Nat.blt pc 5 then (bif Nat.blt pc 2 then (bif Nat.blt pc 1 then (bif Nat.beq pc 0 then some (.iconst 0, []) else none) else (bif Nat.beq pc 1 then some (.istore_n 3, []) else none)) else (bif Nat.blt pc 3 then (bif Nat.beq pc 2 then some (.iload_n 1, []) else none) else (bif Nat.beq pc 3 then some (.bipush 6, []) else none))) else (bif Nat.blt pc 7 then (bif Nat.blt pc 6 then (bif Nat.beq pc 5 then some (.imul, []) else none) else (bif Nat.beq pc 6 then some (.iload_n 2, []) else none)) else (bif Nat.blt pc 8 then (bif Nat.beq pc 7 then some (.iadd, []) else none) else (bif Nat.beq pc 8 then some (.bipush 11, []) else none)))) else (bif Nat.blt pc 17 then (bif Nat.blt pc 13 then (bif Nat.blt pc 11 then (bif Nat.beq pc 10 then some (.imul, []) else none) else (bif Nat.beq pc 11 then some (.istore 4, []) else none)) else (bif Nat.blt pc 15 then (bif Nat.beq pc 13 then some (.iload 4, []) else none) else (bif Nat.beq pc 15 then some (.istore 5, []) else none))) else (bif Nat.blt pc 21 then (bif Nat.blt pc 19 then (bif Nat.beq pc 17 then some (.iload 5, []) else none) else (bif Nat.beq pc 19 then some (.iload 4, []) else none)) else (bif Nat.blt pc 23 then (bif Nat.beq pc 21 then some (.bipush 11, []) else none) else (bif Nat.beq pc 23 then some (.iadd, []) else none))))) else (bif Nat.blt pc 39 then (bif Nat.blt pc 33 then (bif Nat.blt pc 29 then (bif Nat.blt pc 27 then (bif Nat.beq pc 24 then some (.if_icmp .ge 31, [55]) else none) else (bif Nat.beq pc 27 then some (.iload 5, []) else none)) else (bif Nat.blt pc 30 then (bif Nat.beq pc 29 then some (.aload_n 0, []) else none) else (bif Nat.beq pc 30 then some (.getfield 18, []) else none))) else (bif Nat.blt pc 37 then (bif Nat.blt pc 34 then (bif Nat.beq pc 33 then some (.arraylength, []) else none) else (bif Nat.beq pc 34 then some (.if_icmp .ge 21, [55]) else none)) else (bif Nat.blt pc 38 then (bif Nat.beq pc 37 then some (.iload_n 3, []) else none) else (bif Nat.beq pc 38 then some (.aload_n 0, []) else none)))) else (bif Nat.blt pc 48 then (bif Nat.blt pc 44 then (bif Nat.blt pc 42 then (bif Nat.beq pc 39 then some (.getfield 18, []) else none) else (bif Nat.beq pc 42 then some (.iload 5, []) else none)) else (bif Nat.blt pc 45 then (bif Nat.beq pc 44 then some (.iaload, []) else none) else (bif Nat.beq pc 45 then some (.invokestatic 115, []) else none))) else (bif Nat.blt pc 52 then (bif Nat.blt pc 49 then (bif Nat.beq pc 48 then some (.istore_n 3, []) else none) else (bif Nat.beq pc 49 then some (.iinc 5 1, []) else none)) else (bif Nat.blt pc 55 then (bif Nat.beq pc 52 then some (.goto (-35), [17]) else none) else (bif Nat.blt pc 56 then (bif Nat.beq pc 55 then some (.iload_n 3, []) else none) else (bif Nat.beq pc 56 then some (.ireturn, []) else none))))))))
set_option maxRecDepth 100000 in
theorem oX3_greatestHeap : xIOk cX3_greatestHeap iX3_greatestHeap := xIOk_of (N := 57) (fun pc h => xtree_none h) (by decide +kernel)
set_option maxRecDepth 100000 in
theorem yoX3_greatestHeap : xYOk yX3_greatestHeap cX3_greatestHeap 6 (some .int) 2 := ⟨by decide, xm 535 (by decide +kernel) rfl, xm 46 (by decide +kernel) rfl, by decide +kernel, by decide +kernel⟩
theorem loX3_48 : xLink RX3 48 yX1_takeUp false := ⟨xm 487 (by decide +kernel) rfl, xm 488 (by decide +kernel) rfl, xm 486 (by decide +kernel) rfl⟩
theorem loX3_54 : xLink RX3 54 yX1_way false := ⟨xm 404 (by decide +kernel) rfl, xm 405 (by decide +kernel) rfl, xm 493 (by decide +kernel) rfl⟩
theorem loX3_58 : xLink RX3 58 yX5_isBox true := ⟨xm 396 (by decide +kernel) rfl, Or.inr ⟨"NetShape", by decide +kernel⟩⟩
theorem loX3_62 : xLink RX3 62 yX5_hasBit true := ⟨xm 299 (by decide +kernel) rfl, Or.inr ⟨"NetShape", by decide +kernel⟩⟩
theorem loX3_66 : xLink RX3 66 yJ7_fill_53178 true := ⟨xm 335 (by decide +kernel) rfl, Or.inl (xm 502 (by decide +kernel) rfl)⟩
theorem loX3_72 : xLink RX3 72 yX2_names false := ⟨xm 351 (by decide +kernel) rfl, xm 352 (by decide +kernel) rfl, xm 503 (by decide +kernel) rfl⟩
theorem loX3_78 : xLink RX3 78 yX0_many false := ⟨xm 346 (by decide +kernel) rfl, xm 347 (by decide +kernel) rfl, xm 504 (by decide +kernel) rfl⟩
theorem loX3_83 : xLink RX3 83 yX0_code false := ⟨xm 466 (by decide +kernel) rfl, xm 467 (by decide +kernel) rfl, xm 505 (by decide +kernel) rfl⟩
theorem loX3_87 : xLink RX3 87 yX3_addLines false := ⟨xm 508 (by decide +kernel) rfl, xm 14 (by decide +kernel) rfl, xm 506 (by decide +kernel) rfl⟩
theorem loX3_90 : xLink RX3 90 yX3_addWays false := ⟨xm 516 (by decide +kernel) rfl, xm 15 (by decide +kernel) rfl, xm 514 (by decide +kernel) rfl⟩
theorem loX3_93 : xLink RX3 93 yX3_choosePair false := ⟨xm 526 (by decide +kernel) rfl, xm 17 (by decide +kernel) rfl, xm 524 (by decide +kernel) rfl⟩
theorem loX3_96 : xLink RX3 96 yX1_joinedWith false := ⟨xm 511 (by decide +kernel) rfl, xm 512 (by decide +kernel) rfl, xm 510 (by decide +kernel) rfl⟩
theorem loX3_99 : xLink RX3 99 yX4_box false := ⟨xm 291 (by decide +kernel) rfl, xm 292 (by decide +kernel) rfl, xm 519 (by decide +kernel) rfl⟩
theorem loX3_104 : xLink RX3 104 yX3_addToHeap false := ⟨xm 522 (by decide +kernel) rfl, xm 16 (by decide +kernel) rfl, xm 520 (by decide +kernel) rfl⟩
theorem loX3_108 : xLink RX3 108 yX3_choose false := ⟨xm 530 (by decide +kernel) rfl, xm 18 (by decide +kernel) rfl, xm 528 (by decide +kernel) rfl⟩
theorem loX3_112 : xLink RX3 112 yX3_greatestHeap false := ⟨xm 534 (by decide +kernel) rfl, xm 19 (by decide +kernel) rfl, xm 532 (by decide +kernel) rfl⟩
theorem loX3_115 : xLink RX3 115 yJ9_max_7cf53 true := ⟨xm 371 (by decide +kernel) rfl, Or.inl (xm 536 (by decide +kernel) rfl)⟩
set_option maxRecDepth 100000 in
def iJ6_bitCount_0f7a4 : Nat → Option (Instr × List Nat) := xtree 53 (fun pc => (bif Nat.blt pc 27 then (bif Nat.blt pc 14 then (bif Nat.blt pc 7 then (bif Nat.blt pc 2 then (bif Nat.blt pc 1 then (bif Nat.beq pc 0 then some (.iload_n 0, []) else none) else (bif Nat.beq pc 1 then some (.iload_n 0, []) else none)) else (bif Nat.blt pc 3 then (bif Nat.beq pc 2 then some (.iconst 1, []) else none) else (bif Nat.blt pc 4 then (bif Nat.beq pc 3 then some (.iushr, []) else none) else (bif Nat.beq pc 4 then some (.ldc_w 265, []) else none)))) else (bif Nat.blt pc 9 then (bif Nat.blt pc 8 then (bif Nat.beq pc 7 then some (.iand, []) else none) else (bif Nat.beq pc 8 then some (.isub, []) else none)) else (bif Nat.blt pc 10 then (bif Nat.beq pc 9 then some (.istore_n 0, []) else none) else (bif Nat.blt pc 11 then (bif Nat.beq pc 10 then some (.iload_n 0, []) else none) else (bif Nat.beq pc 11 then some (.ldc_w 266, []) else none))))) else (bif Nat.blt pc 21 then (bif Nat.blt pc 16 then (bif Nat.blt pc 15 then (bif Nat.beq pc 14 then some (.iand, []) else none) else (bif Nat.beq pc 15 then some (.iload_n 0, []) else none)) else (bif Nat.blt pc 17 then (bif Nat.beq pc 16 then some (.iconst 2, []) else none) else (bif Nat.blt pc 18 then (bif Nat.beq pc 17 then some (.iushr, []) else none) else (bif Nat.beq pc 18 then some (.ldc_w 266, []) else none)))) else (bif Nat.blt pc 24 then (bif Nat.blt pc 22 then (bif Nat.beq pc 21 then some (.iand, []) else none) else (bif Nat.blt pc 23 then (bif Nat.beq pc 22 then some (.iadd, []) else none) else (bif Nat.beq pc 23 then some (.istore_n 0, []) else none))) else (bif Nat.blt pc 25 then (bif Nat.beq pc 24 then some (.iload_n 0, []) else none) else (bif Nat.blt pc 26 then (bif Nat.beq pc 25 then some (.iload_n 0, []) else none) else (bif Nat.beq pc 26 then some (.iconst 4, []) else none)))))) else (bif Nat.blt pc 40 then (bif Nat.blt pc 34 then (bif Nat.blt pc 29 then (bif Nat.blt pc 28 then (bif Nat.beq pc 27 then some (.iushr, []) else none) else (bif Nat.beq pc 28 then some (.iadd, []) else none)) else (bif Nat.blt pc 32 then (bif Nat.beq pc 29 then some (.ldc_w 267, []) else none) else (bif Nat.blt pc 33 then (bif Nat.beq pc 32 then some (.iand, []) else none) else (bif Nat.beq pc 33 then some (.istore_n 0, []) else none)))) else (bif Nat.blt pc 36 then (bif Nat.blt pc 35 then (bif Nat.beq pc 34 then some (.iload_n 0, []) else none) else (bif Nat.beq pc 35 then some (.iload_n 0, []) else none)) else (bif Nat.blt pc 38 then (bif Nat.beq pc 36 then some (.bipush 8, []) else none) else (bif Nat.blt pc 39 then (bif Nat.beq pc 38 then some (.iushr, []) else none) else (bif Nat.beq pc 39 then some (.iadd, []) else none))))) else (bif Nat.blt pc 46 then (bif Nat.blt pc 42 then (bif Nat.blt pc 41 then (bif Nat.beq pc 40 then some (.istore_n 0, []) else none) else (bif Nat.beq pc 41 then some (.iload_n 0, []) else none)) else (bif Nat.blt pc 43 then (bif Nat.beq pc 42 then some (.iload_n 0, []) else none) else (bif Nat.blt pc 45 then (bif Nat.beq pc 43 then some (.bipush 16, []) else none) else (bif Nat.beq pc 45 then some (.iushr, []) else none)))) else (bif Nat.blt pc 49 then (bif Nat.blt pc 47 then (bif Nat.beq pc 46 then some (.iadd, []) else none) else (bif Nat.blt pc 48 then (bif Nat.beq pc 47 then some (.istore_n 0, []) else none) else (bif Nat.beq pc 48 then some (.iload_n 0, []) else none))) else (bif Nat.blt pc 51 then (bif Nat.beq pc 49 then some (.bipush 63, []) else none) else (bif Nat.blt pc 52 then (bif Nat.beq pc 51 then some (.iand, []) else none) else (bif Nat.beq pc 52 then some (.ireturn, []) else none))))))))
set_option maxRecDepth 100000 in
theorem oJ6_bitCount_0f7a4 : xIOk cJ6_bitCount_0f7a4 iJ6_bitCount_0f7a4 := xIOk_of (N := 53) (fun pc h => xtree_none h) (by decide +kernel)
set_option maxRecDepth 100000 in
theorem yoJ6_bitCount_0f7a4 : xYOk yJ6_bitCount_0f7a4 cJ6_bitCount_0f7a4 1 (some .int) 1 := ⟨by decide, xm 420 (by decide +kernel) rfl, xm 50 (by decide +kernel) rfl, by decide +kernel, by decide +kernel⟩
set_option maxRecDepth 100000 in
def iJ9_max_7cf53 : Nat → Option (Instr × List Nat) := xtree 11 (fun pc => (bif Nat.blt pc 5 then (bif Nat.blt pc 1 then (bif Nat.beq pc 0 then some (.iload_n 0, []) else none) else (bif Nat.blt pc 2 then (bif Nat.beq pc 1 then some (.iload_n 1, []) else none) else (bif Nat.beq pc 2 then some (.if_icmp .lt 7, [9]) else none))) else (bif Nat.blt pc 9 then (bif Nat.blt pc 6 then (bif Nat.beq pc 5 then some (.iload_n 0, []) else none) else (bif Nat.beq pc 6 then some (.goto 4, [10]) else none)) else (bif Nat.blt pc 10 then (bif Nat.beq pc 9 then some (.iload_n 1, []) else none) else (bif Nat.beq pc 10 then some (.ireturn, []) else none)))))
set_option maxRecDepth 100000 in
theorem oJ9_max_7cf53 : xIOk cJ9_max_7cf53 iJ9_max_7cf53 := xIOk_of (N := 11) (fun pc h => xtree_none h) (by decide +kernel)
set_option maxRecDepth 100000 in
theorem yoJ9_max_7cf53 : xYOk yJ9_max_7cf53 cJ9_max_7cf53 2 (some .int) 2 := ⟨by decide, xm 372 (by decide +kernel) rfl, xm 48 (by decide +kernel) rfl, by decide +kernel, by decide +kernel⟩
set_option maxRecDepth 100000 in
def iJ9_min_7cf53 : Nat → Option (Instr × List Nat) := xtree 11 (fun pc => (bif Nat.blt pc 5 then (bif Nat.blt pc 1 then (bif Nat.beq pc 0 then some (.iload_n 0, []) else none) else (bif Nat.blt pc 2 then (bif Nat.beq pc 1 then some (.iload_n 1, []) else none) else (bif Nat.beq pc 2 then some (.if_icmp .gt 7, [9]) else none))) else (bif Nat.blt pc 9 then (bif Nat.blt pc 6 then (bif Nat.beq pc 5 then some (.iload_n 0, []) else none) else (bif Nat.beq pc 6 then some (.goto 4, [10]) else none)) else (bif Nat.blt pc 10 then (bif Nat.beq pc 9 then some (.iload_n 1, []) else none) else (bif Nat.beq pc 10 then some (.ireturn, []) else none)))))
set_option maxRecDepth 100000 in
theorem oJ9_min_7cf53 : xIOk cJ9_min_7cf53 iJ9_min_7cf53 := xIOk_of (N := 11) (fun pc h => xtree_none h) (by decide +kernel)
set_option maxRecDepth 100000 in
theorem yoJ9_min_7cf53 : xYOk yJ9_min_7cf53 cJ9_min_7cf53 2 (some .int) 2 := ⟨by decide, xm 317 (by decide +kernel) rfl, xm 48 (by decide +kernel) rfl, by decide +kernel, by decide +kernel⟩
set_option maxRecDepth 100000 in
def iJ7_fill_53178 : Nat → Option (Instr × List Nat) := xtree 21 (fun pc => (bif Nat.blt pc 7 then (bif Nat.blt pc 3 then (bif Nat.blt pc 1 then (bif Nat.beq pc 0 then some (.iconst 0, []) else none) else (bif Nat.blt pc 2 then (bif Nat.beq pc 1 then some (.istore_n 2, []) else none) else (bif Nat.beq pc 2 then some (.aload_n 0, []) else none))) else (bif Nat.blt pc 5 then (bif Nat.blt pc 4 then (bif Nat.beq pc 3 then some (.arraylength, []) else none) else (bif Nat.beq pc 4 then some (.istore_n 3, []) else none)) else (bif Nat.blt pc 6 then (bif Nat.beq pc 5 then some (.iload_n 2, []) else none) else (bif Nat.beq pc 6 then some (.iload_n 3, []) else none)))) else (bif Nat.blt pc 13 then (bif Nat.blt pc 11 then (bif Nat.blt pc 10 then (bif Nat.beq pc 7 then some (.if_icmp .ge 13, [20]) else none) else (bif Nat.beq pc 10 then some (.aload_n 0, []) else none)) else (bif Nat.blt pc 12 then (bif Nat.beq pc 11 then some (.iload_n 2, []) else none) else (bif Nat.beq pc 12 then some (.iload_n 1, []) else none))) else (bif Nat.blt pc 17 then (bif Nat.blt pc 14 then (bif Nat.beq pc 13 then some (.iastore, []) else none) else (bif Nat.beq pc 14 then some (.iinc 2 1, []) else none)) else (bif Nat.blt pc 20 then (bif Nat.beq pc 17 then some (.goto (-12), [5]) else none) else (bif Nat.beq pc 20 then some (.return_, []) else none))))))
set_option maxRecDepth 100000 in
theorem oJ7_fill_53178 : xIOk cJ7_fill_53178 iJ7_fill_53178 := xIOk_of (N := 21) (fun pc h => xtree_none h) (by decide +kernel)
set_option maxRecDepth 100000 in
theorem yoJ7_fill_53178 : xYOk yJ7_fill_53178 cJ7_fill_53178 4 none 2 := ⟨by decide, xm 336 (by decide +kernel) rfl, xm 49 (by decide +kernel) rfl, by decide +kernel, by decide +kernel⟩
end
section
theorem inX5 : ∀ w ∈ u_ws RX5 TX5 4, w ∈ xtb := fun w h => List.mem_filter.mpr ⟨(show ∀ w ∈ u_ws RX5 TX5 4, w ∈ lw_tbl by decide +kernel) w h, (show ∀ w ∈ u_ws RX5 TX5 4, goodWord w = true by decide +kernel) w h⟩
def fldX5 : xFld := [(12, 5, 0, 2), (19, 5, 1, 2), (33, 5, 2, 2), (42, 5, 3, 2)]
theorem foX5 : ∀ q ∈ fldX5, xFOk RX5 q := List.forall_mem_cons.mpr ⟨⟨RX5, TX5, 4, tyX5, rfl, by decide, by decide, inX5, xm 185 (by decide +kernel) rfl, tyX5_ok, nmX5, by decide, by decide⟩, List.forall_mem_cons.mpr ⟨⟨RX5, TX5, 4, tyX5, rfl, by decide, by decide, inX5, xm 186 (by decide +kernel) rfl, tyX5_ok, nmX5, by decide, by decide⟩, List.forall_mem_cons.mpr ⟨⟨RX5, TX5, 4, tyX5, rfl, by decide, by decide, inX5, xm 187 (by decide +kernel) rfl, tyX5_ok, nmX5, by decide, by decide⟩, List.forall_mem_cons.mpr ⟨⟨RX5, TX5, 4, tyX5, rfl, by decide, by decide, inX5, xm 188 (by decide +kernel) rfl, tyX5_ok, nmX5, by decide, by decide⟩, fun _ h => absurd h List.not_mem_nil⟩⟩⟩⟩
set_option maxRecDepth 100000 in
def iX5_hop : Nat → Option (Instr × List Nat) := xtree 102 (fun pc => (bif Nat.blt pc 52 then (bif Nat.blt pc 24 then (bif Nat.blt pc 12 then (bif Nat.blt pc 5 then (bif Nat.blt pc 1 then (bif Nat.beq pc 0 then some (.iload_n 1, []) else none) else (bif Nat.blt pc 2 then (bif Nat.beq pc 1 then some (.iconst (-1), []) else none) else (bif Nat.beq pc 2 then some (.if_icmp .eq 13, [15]) else none))) else (bif Nat.blt pc 6 then (bif Nat.beq pc 5 then some (.iload_n 1, []) else none) else (bif Nat.blt pc 9 then (bif Nat.beq pc 6 then some (.invokestatic 46, []) else none) else (bif Nat.beq pc 9 then some (.ifCond .ne 6, [15]) else none)))) else (bif Nat.blt pc 16 then (bif Nat.blt pc 14 then (bif Nat.beq pc 12 then some (.bipush (-2), []) else none) else (bif Nat.blt pc 15 then (bif Nat.beq pc 14 then some (.ireturn, []) else none) else (bif Nat.beq pc 15 then some (.iload_n 1, []) else none))) else (bif Nat.blt pc 20 then (bif Nat.blt pc 17 then (bif Nat.beq pc 16 then some (.iconst (-1), []) else none) else (bif Nat.beq pc 17 then some (.if_icmp .eq 19, [36]) else none)) else (bif Nat.blt pc 21 then (bif Nat.beq pc 20 then some (.aload_n 0, []) else none) else (bif Nat.beq pc 21 then some (.getfield 12, []) else none))))) else (bif Nat.blt pc 36 then (bif Nat.blt pc 30 then (bif Nat.blt pc 26 then (bif Nat.beq pc 24 then some (.bipush 6, []) else none) else (bif Nat.blt pc 27 then (bif Nat.beq pc 26 then some (.iload_n 1, []) else none) else (bif Nat.beq pc 27 then some (.invokevirtual 50, []) else none))) else (bif Nat.blt pc 33 then (bif Nat.beq pc 30 then some (.ifCond .eq 6, [36]) else none) else (bif Nat.blt pc 35 then (bif Nat.beq pc 33 then some (.bipush (-3), []) else none) else (bif Nat.beq pc 35 then some (.ireturn, []) else none)))) else (bif Nat.blt pc 42 then (bif Nat.blt pc 37 then (bif Nat.beq pc 36 then some (.aload_n 0, []) else none) else (bif Nat.blt pc 40 then (bif Nat.beq pc 37 then some (.getfield 12, []) else none) else (bif Nat.beq pc 40 then some (.bipush 6, []) else none))) else (bif Nat.blt pc 47 then (bif Nat.blt pc 45 then (bif Nat.beq pc 42 then some (.invokevirtual 54, []) else none) else (bif Nat.beq pc 45 then some (.bipush 6, []) else none)) else (bif Nat.blt pc 50 then (bif Nat.beq pc 47 then some (.if_icmp .lt 6, [53]) else none) else (bif Nat.beq pc 50 then some (.bipush (-5), []) else none)))))) else (bif Nat.blt pc 76 then (bif Nat.blt pc 62 then (bif Nat.blt pc 55 then (bif Nat.blt pc 53 then (bif Nat.beq pc 52 then some (.ireturn, []) else none) else (bif Nat.blt pc 54 then (bif Nat.beq pc 53 then some (.iload_n 1, []) else none) else (bif Nat.beq pc 54 then some (.iconst (-1), []) else none))) else (bif Nat.blt pc 58 then (bif Nat.beq pc 55 then some (.if_icmp .ne 27, [82]) else none) else (bif Nat.blt pc 59 then (bif Nat.beq pc 58 then some (.aload_n 0, []) else none) else (bif Nat.beq pc 59 then some (.getfield 12, []) else none)))) else (bif Nat.blt pc 69 then (bif Nat.blt pc 65 then (bif Nat.beq pc 62 then some (.invokevirtual 58, []) else none) else (bif Nat.blt pc 66 then (bif Nat.beq pc 65 then some (.aload_n 0, []) else none) else (bif Nat.beq pc 66 then some (.getfield 12, []) else none))) else (bif Nat.blt pc 74 then (bif Nat.blt pc 71 then (bif Nat.beq pc 69 then some (.bipush 6, []) else none) else (bif Nat.beq pc 71 then some (.invokevirtual 62, []) else none)) else (bif Nat.blt pc 75 then (bif Nat.beq pc 74 then some (.iadd, []) else none) else (bif Nat.beq pc 75 then some (.iconst 4, []) else none))))) else (bif Nat.blt pc 88 then (bif Nat.blt pc 82 then (bif Nat.blt pc 79 then (bif Nat.beq pc 76 then some (.if_icmp .lt 6, [82]) else none) else (bif Nat.blt pc 81 then (bif Nat.beq pc 79 then some (.bipush (-5), []) else none) else (bif Nat.beq pc 81 then some (.ireturn, []) else none))) else (bif Nat.blt pc 83 then (bif Nat.beq pc 82 then some (.aload_n 0, []) else none) else (bif Nat.blt pc 86 then (bif Nat.beq pc 83 then some (.getfield 12, []) else none) else (bif Nat.beq pc 86 then some (.bipush 6, []) else none)))) else (bif Nat.blt pc 93 then (bif Nat.blt pc 89 then (bif Nat.beq pc 88 then some (.iload_n 1, []) else none) else (bif Nat.blt pc 92 then (bif Nat.beq pc 89 then some (.invokevirtual 65, []) else none) else (bif Nat.beq pc 92 then some (.aload_n 0, []) else none))) else (bif Nat.blt pc 98 then (bif Nat.blt pc 96 then (bif Nat.beq pc 93 then some (.getfield 12, []) else none) else (bif Nat.beq pc 96 then some (.bipush 6, []) else none)) else (bif Nat.blt pc 101 then (bif Nat.beq pc 98 then some (.invokevirtual 54, []) else none) else (bif Nat.beq pc 101 then some (.ireturn, []) else none))))))))
set_option maxRecDepth 100000 in
theorem oX5_hop : xIOk cX5_hop iX5_hop := xIOk_of (N := 102) (fun pc h => xtree_none h) (by decide +kernel)
set_option maxRecDepth 100000 in
theorem yoX5_hop : xYOk yX5_hop cX5_hop 2 (some .int) 1 := ⟨by decide, xm 201 (by decide +kernel) rfl, xm 41 (by decide +kernel) rfl, by decide +kernel, by decide +kernel⟩
set_option maxRecDepth 100000 in
def iX5_drop : Nat → Option (Instr × List Nat) := xtree 21 (fun pc => (bif Nat.blt pc 10 then (bif Nat.blt pc 4 then (bif Nat.blt pc 1 then (bif Nat.beq pc 0 then some (.aload_n 0, []) else none) else (bif Nat.beq pc 1 then some (.getfield 12, []) else none)) else (bif Nat.blt pc 6 then (bif Nat.beq pc 4 then some (.bipush 6, []) else none) else (bif Nat.blt pc 9 then (bif Nat.beq pc 6 then some (.invokevirtual 54, []) else none) else (bif Nat.beq pc 9 then some (.istore_n 1, []) else none)))) else (bif Nat.blt pc 16 then (bif Nat.blt pc 11 then (bif Nat.beq pc 10 then some (.aload_n 0, []) else none) else (bif Nat.blt pc 14 then (bif Nat.beq pc 11 then some (.getfield 12, []) else none) else (bif Nat.beq pc 14 then some (.bipush 6, []) else none))) else (bif Nat.blt pc 19 then (bif Nat.beq pc 16 then some (.invokevirtual 69, []) else none) else (bif Nat.blt pc 20 then (bif Nat.beq pc 19 then some (.iload_n 1, []) else none) else (bif Nat.beq pc 20 then some (.ireturn, []) else none))))))
set_option maxRecDepth 100000 in
theorem oX5_drop : xIOk cX5_drop iX5_drop := xIOk_of (N := 21) (fun pc h => xtree_none h) (by decide +kernel)
set_option maxRecDepth 100000 in
theorem yoX5_drop : xYOk yX5_drop cX5_drop 2 (some .int) 0 := ⟨by decide, xm 234 (by decide +kernel) rfl, xm 41 (by decide +kernel) rfl, by decide +kernel, by decide +kernel⟩
set_option maxRecDepth 100000 in
def iX5_trace : Nat → Option (Instr × List Nat) := xtree 84 (fun pc => (bif Nat.blt pc 44 then (bif Nat.blt pc 24 then (bif Nat.blt pc 12 then (bif Nat.blt pc 4 then (bif Nat.blt pc 1 then (bif Nat.beq pc 0 then some (.aload_n 0, []) else none) else (bif Nat.beq pc 1 then some (.getfield 12, []) else none)) else (bif Nat.blt pc 7 then (bif Nat.beq pc 4 then some (.invokevirtual 73, []) else none) else (bif Nat.blt pc 9 then (bif Nat.beq pc 7 then some (.bipush 6, []) else none) else (bif Nat.beq pc 9 then some (.if_icmp .lt 6, [15]) else none)))) else (bif Nat.blt pc 16 then (bif Nat.blt pc 14 then (bif Nat.beq pc 12 then some (.bipush (-5), []) else none) else (bif Nat.blt pc 15 then (bif Nat.beq pc 14 then some (.ireturn, []) else none) else (bif Nat.beq pc 15 then some (.aload_n 0, []) else none))) else (bif Nat.blt pc 19 then (bif Nat.beq pc 16 then some (.getfield 12, []) else none) else (bif Nat.blt pc 21 then (bif Nat.beq pc 19 then some (.bipush 6, []) else none) else (bif Nat.beq pc 21 then some (.invokevirtual 54, []) else none))))) else (bif Nat.blt pc 31 then (bif Nat.blt pc 26 then (bif Nat.blt pc 25 then (bif Nat.beq pc 24 then some (.istore_n 1, []) else none) else (bif Nat.beq pc 25 then some (.iload_n 1, []) else none)) else (bif Nat.blt pc 27 then (bif Nat.beq pc 26 then some (.iconst 2, []) else none) else (bif Nat.blt pc 30 then (bif Nat.beq pc 27 then some (.if_icmp .lt 33, [60]) else none) else (bif Nat.beq pc 30 then some (.aload_n 0, []) else none)))) else (bif Nat.blt pc 37 then (bif Nat.blt pc 34 then (bif Nat.beq pc 31 then some (.getfield 12, []) else none) else (bif Nat.blt pc 36 then (bif Nat.beq pc 34 then some (.bipush 6, []) else none) else (bif Nat.beq pc 36 then some (.iconst 0, []) else none))) else (bif Nat.blt pc 40 then (bif Nat.beq pc 37 then some (.invokevirtual 76, []) else none) else (bif Nat.blt pc 41 then (bif Nat.beq pc 40 then some (.iconst (-1), []) else none) else (bif Nat.beq pc 41 then some (.if_icmp .eq 19, [60]) else none)))))) else (bif Nat.blt pc 63 then (bif Nat.blt pc 52 then (bif Nat.blt pc 48 then (bif Nat.blt pc 45 then (bif Nat.beq pc 44 then some (.aload_n 0, []) else none) else (bif Nat.beq pc 45 then some (.getfield 12, []) else none)) else (bif Nat.blt pc 50 then (bif Nat.beq pc 48 then some (.bipush 6, []) else none) else (bif Nat.blt pc 51 then (bif Nat.beq pc 50 then some (.iload_n 1, []) else none) else (bif Nat.beq pc 51 then some (.iconst 1, []) else none)))) else (bif Nat.blt pc 57 then (bif Nat.blt pc 53 then (bif Nat.beq pc 52 then some (.isub, []) else none) else (bif Nat.blt pc 56 then (bif Nat.beq pc 53 then some (.invokevirtual 76, []) else none) else (bif Nat.beq pc 56 then some (.iconst (-1), []) else none))) else (bif Nat.blt pc 60 then (bif Nat.beq pc 57 then some (.if_icmp .ne 6, [63]) else none) else (bif Nat.blt pc 62 then (bif Nat.beq pc 60 then some (.bipush (-6), []) else none) else (bif Nat.beq pc 62 then some (.ireturn, []) else none))))) else (bif Nat.blt pc 74 then (bif Nat.blt pc 67 then (bif Nat.blt pc 64 then (bif Nat.beq pc 63 then some (.aload_n 0, []) else none) else (bif Nat.beq pc 64 then some (.getfield 12, []) else none)) else (bif Nat.blt pc 70 then (bif Nat.beq pc 67 then some (.invokevirtual 80, []) else none) else (bif Nat.blt pc 71 then (bif Nat.beq pc 70 then some (.aload_n 0, []) else none) else (bif Nat.beq pc 71 then some (.invokevirtual 83, []) else none)))) else (bif Nat.blt pc 81 then (bif Nat.blt pc 75 then (bif Nat.beq pc 74 then some (.aload_n 0, []) else none) else (bif Nat.blt pc 78 then (bif Nat.beq pc 75 then some (.getfield 12, []) else none) else (bif Nat.beq pc 78 then some (.invokevirtual 73, []) else none))) else (bif Nat.blt pc 82 then (bif Nat.beq pc 81 then some (.iconst 1, []) else none) else (bif Nat.blt pc 83 then (bif Nat.beq pc 82 then some (.isub, []) else none) else (bif Nat.beq pc 83 then some (.ireturn, []) else none))))))))
set_option maxRecDepth 100000 in
theorem oX5_trace : xIOk cX5_trace iX5_trace := xIOk_of (N := 84) (fun pc h => xtree_none h) (by decide +kernel)
set_option maxRecDepth 100000 in
theorem yoX5_trace : xYOk yX5_trace cX5_trace 2 (some .int) 0 := ⟨by decide, xm 242 (by decide +kernel) rfl, xm 41 (by decide +kernel) rfl, by decide +kernel, by decide +kernel⟩
set_option maxRecDepth 100000 in
def iX5_forget : Nat → Option (Instr × List Nat) := xtree 31 (fun pc => (bif Nat.blt pc 15 then (bif Nat.blt pc 8 then (bif Nat.blt pc 2 then (bif Nat.blt pc 1 then (bif Nat.beq pc 0 then some (.aload_n 0, []) else none) else (bif Nat.beq pc 1 then some (.iload_n 1, []) else none)) else (bif Nat.blt pc 5 then (bif Nat.beq pc 2 then some (.invokevirtual 86, []) else none) else (bif Nat.beq pc 5 then some (.ifCond .ne 6, [11]) else none))) else (bif Nat.blt pc 11 then (bif Nat.blt pc 10 then (bif Nat.beq pc 8 then some (.bipush (-2), []) else none) else (bif Nat.beq pc 10 then some (.ireturn, []) else none)) else (bif Nat.blt pc 12 then (bif Nat.beq pc 11 then some (.aload_n 0, []) else none) else (bif Nat.beq pc 12 then some (.getfield 12, []) else none)))) else (bif Nat.blt pc 23 then (bif Nat.blt pc 19 then (bif Nat.blt pc 16 then (bif Nat.beq pc 15 then some (.iload_n 1, []) else none) else (bif Nat.beq pc 16 then some (.invokevirtual 89, []) else none)) else (bif Nat.blt pc 20 then (bif Nat.beq pc 19 then some (.aload_n 0, []) else none) else (bif Nat.beq pc 20 then some (.invokevirtual 83, []) else none))) else (bif Nat.blt pc 27 then (bif Nat.blt pc 24 then (bif Nat.beq pc 23 then some (.aload_n 0, []) else none) else (bif Nat.beq pc 24 then some (.getfield 12, []) else none)) else (bif Nat.blt pc 30 then (bif Nat.beq pc 27 then some (.invokevirtual 73, []) else none) else (bif Nat.beq pc 30 then some (.ireturn, []) else none))))))
set_option maxRecDepth 100000 in
theorem oX5_forget : xIOk cX5_forget iX5_forget := xIOk_of (N := 31) (fun pc h => xtree_none h) (by decide +kernel)
set_option maxRecDepth 100000 in
theorem yoX5_forget : xYOk yX5_forget cX5_forget 2 (some .int) 1 := ⟨by decide, xm 273 (by decide +kernel) rfl, xm 41 (by decide +kernel) rfl, by decide +kernel, by decide +kernel⟩
set_option maxRecDepth 100000 in
def iX5_tell : Nat → Option (Instr × List Nat) := xtree 108 (fun pc => (bif Nat.blt pc 56 then (bif Nat.blt pc 27 then (bif Nat.blt pc 15 then (bif Nat.blt pc 7 then (bif Nat.blt pc 1 then (bif Nat.beq pc 0 then some (.iload_n 1, []) else none) else (bif Nat.blt pc 4 then (bif Nat.beq pc 1 then some (.invokestatic 46, []) else none) else (bif Nat.beq pc 4 then some (.ifCond .eq 15, [19]) else none))) else (bif Nat.blt pc 11 then (bif Nat.blt pc 8 then (bif Nat.beq pc 7 then some (.iload_n 2, []) else none) else (bif Nat.beq pc 8 then some (.invokestatic 46, []) else none)) else (bif Nat.blt pc 14 then (bif Nat.beq pc 11 then some (.ifCond .eq 8, [19]) else none) else (bif Nat.beq pc 14 then some (.iload_n 1, []) else none)))) else (bif Nat.blt pc 21 then (bif Nat.blt pc 16 then (bif Nat.beq pc 15 then some (.iload_n 2, []) else none) else (bif Nat.blt pc 19 then (bif Nat.beq pc 16 then some (.if_icmp .ne 6, [22]) else none) else (bif Nat.beq pc 19 then some (.bipush (-2), []) else none))) else (bif Nat.blt pc 23 then (bif Nat.blt pc 22 then (bif Nat.beq pc 21 then some (.ireturn, []) else none) else (bif Nat.beq pc 22 then some (.iload_n 3, []) else none)) else (bif Nat.blt pc 26 then (bif Nat.beq pc 23 then some (.ifCond .eq 15, [38]) else none) else (bif Nat.beq pc 26 then some (.aload_n 0, []) else none))))) else (bif Nat.blt pc 42 then (bif Nat.blt pc 32 then (bif Nat.blt pc 30 then (bif Nat.beq pc 27 then some (.getfield 19, []) else none) else (bif Nat.blt pc 31 then (bif Nat.beq pc 30 then some (.iload_n 1, []) else none) else (bif Nat.beq pc 31 then some (.iload_n 2, []) else none))) else (bif Nat.blt pc 38 then (bif Nat.blt pc 35 then (bif Nat.beq pc 32 then some (.invokevirtual 92, []) else none) else (bif Nat.beq pc 35 then some (.goto 12, [47]) else none)) else (bif Nat.blt pc 39 then (bif Nat.beq pc 38 then some (.aload_n 0, []) else none) else (bif Nat.beq pc 39 then some (.getfield 19, []) else none)))) else (bif Nat.blt pc 47 then (bif Nat.blt pc 43 then (bif Nat.beq pc 42 then some (.iload_n 1, []) else none) else (bif Nat.blt pc 44 then (bif Nat.beq pc 43 then some (.iload_n 2, []) else none) else (bif Nat.beq pc 44 then some (.invokevirtual 95, []) else none))) else (bif Nat.blt pc 51 then (bif Nat.blt pc 49 then (bif Nat.beq pc 47 then some (.istore 4, []) else none) else (bif Nat.beq pc 49 then some (.iload 4, []) else none)) else (bif Nat.blt pc 54 then (bif Nat.beq pc 51 then some (.ifCond .eq 6, [57]) else none) else (bif Nat.beq pc 54 then some (.bipush (-3), []) else none)))))) else (bif Nat.blt pc 82 then (bif Nat.blt pc 67 then (bif Nat.blt pc 61 then (bif Nat.blt pc 57 then (bif Nat.beq pc 56 then some (.ireturn, []) else none) else (bif Nat.blt pc 58 then (bif Nat.beq pc 57 then some (.iload_n 3, []) else none) else (bif Nat.beq pc 58 then some (.ifCond .eq 15, [73]) else none))) else (bif Nat.blt pc 65 then (bif Nat.blt pc 62 then (bif Nat.beq pc 61 then some (.aload_n 0, []) else none) else (bif Nat.beq pc 62 then some (.getfield 19, []) else none)) else (bif Nat.blt pc 66 then (bif Nat.beq pc 65 then some (.iload_n 1, []) else none) else (bif Nat.beq pc 66 then some (.iload_n 2, []) else none)))) else (bif Nat.blt pc 74 then (bif Nat.blt pc 70 then (bif Nat.beq pc 67 then some (.invokevirtual 98, []) else none) else (bif Nat.blt pc 73 then (bif Nat.beq pc 70 then some (.goto 12, [82]) else none) else (bif Nat.beq pc 73 then some (.aload_n 0, []) else none))) else (bif Nat.blt pc 78 then (bif Nat.blt pc 77 then (bif Nat.beq pc 74 then some (.getfield 19, []) else none) else (bif Nat.beq pc 77 then some (.iload_n 1, []) else none)) else (bif Nat.blt pc 79 then (bif Nat.beq pc 78 then some (.iload_n 2, []) else none) else (bif Nat.beq pc 79 then some (.invokevirtual 92, []) else none))))) else (bif Nat.blt pc 96 then (bif Nat.blt pc 89 then (bif Nat.blt pc 84 then (bif Nat.beq pc 82 then some (.istore 5, []) else none) else (bif Nat.blt pc 86 then (bif Nat.beq pc 84 then some (.iload 5, []) else none) else (bif Nat.beq pc 86 then some (.ifCond .eq 6, [92]) else none))) else (bif Nat.blt pc 92 then (bif Nat.blt pc 91 then (bif Nat.beq pc 89 then some (.bipush (-4), []) else none) else (bif Nat.beq pc 91 then some (.ireturn, []) else none)) else (bif Nat.blt pc 93 then (bif Nat.beq pc 92 then some (.aload_n 0, []) else none) else (bif Nat.beq pc 93 then some (.getfield 19, []) else none)))) else (bif Nat.blt pc 102 then (bif Nat.blt pc 98 then (bif Nat.blt pc 97 then (bif Nat.beq pc 96 then some (.iload_n 1, []) else none) else (bif Nat.beq pc 97 then some (.iload_n 2, []) else none)) else (bif Nat.blt pc 99 then (bif Nat.beq pc 98 then some (.iload_n 3, []) else none) else (bif Nat.beq pc 99 then some (.invokevirtual 101, []) else none))) else (bif Nat.blt pc 106 then (bif Nat.blt pc 103 then (bif Nat.beq pc 102 then some (.aload_n 0, []) else none) else (bif Nat.beq pc 103 then some (.invokevirtual 83, []) else none)) else (bif Nat.blt pc 107 then (bif Nat.beq pc 106 then some (.iconst 1, []) else none) else (bif Nat.beq pc 107 then some (.ireturn, []) else none))))))))
set_option maxRecDepth 100000 in
theorem oX5_tell : xIOk cX5_tell iX5_tell := xIOk_of (N := 108) (fun pc h => xtree_none h) (by decide +kernel)
set_option maxRecDepth 100000 in
theorem yoX5_tell : xYOk yX5_tell cX5_tell 6 (some .int) 3 := ⟨by decide, xm 285 (by decide +kernel) rfl, xm 41 (by decide +kernel) rfl, by decide +kernel, by decide +kernel⟩
set_option maxRecDepth 100000 in
def iX5_untell : Nat → Option (Instr × List Nat) := xtree 21 (fun pc => (bif Nat.blt pc 9 then (bif Nat.blt pc 4 then (bif Nat.blt pc 1 then (bif Nat.beq pc 0 then some (.aload_n 0, []) else none) else (bif Nat.beq pc 1 then some (.getfield 19, []) else none)) else (bif Nat.blt pc 7 then (bif Nat.beq pc 4 then some (.invokevirtual 105, []) else none) else (bif Nat.blt pc 8 then (bif Nat.beq pc 7 then some (.istore_n 1, []) else none) else (bif Nat.beq pc 8 then some (.aload_n 0, []) else none)))) else (bif Nat.blt pc 16 then (bif Nat.blt pc 12 then (bif Nat.beq pc 9 then some (.getfield 19, []) else none) else (bif Nat.blt pc 15 then (bif Nat.beq pc 12 then some (.invokevirtual 108, []) else none) else (bif Nat.beq pc 15 then some (.aload_n 0, []) else none))) else (bif Nat.blt pc 19 then (bif Nat.beq pc 16 then some (.invokevirtual 83, []) else none) else (bif Nat.blt pc 20 then (bif Nat.beq pc 19 then some (.iload_n 1, []) else none) else (bif Nat.beq pc 20 then some (.ireturn, []) else none))))))
set_option maxRecDepth 100000 in
theorem oX5_untell : xIOk cX5_untell iX5_untell := xIOk_of (N := 21) (fun pc h => xtree_none h) (by decide +kernel)
set_option maxRecDepth 100000 in
theorem yoX5_untell : xYOk yX5_untell cX5_untell 2 (some .int) 0 := ⟨by decide, xm 325 (by decide +kernel) rfl, xm 41 (by decide +kernel) rfl, by decide +kernel, by decide +kernel⟩
set_option maxRecDepth 100000 in
def iX5_at : Nat → Option (Instr × List Nat) := xtree 37 (fun pc => (bif Nat.blt pc 18 then (bif Nat.blt pc 9 then (bif Nat.blt pc 2 then (bif Nat.blt pc 1 then (bif Nat.beq pc 0 then some (.aload_n 0, []) else none) else (bif Nat.beq pc 1 then some (.iload_n 1, []) else none)) else (bif Nat.blt pc 5 then (bif Nat.beq pc 2 then some (.invokevirtual 86, []) else none) else (bif Nat.blt pc 8 then (bif Nat.beq pc 5 then some (.ifCond .eq 19, [24]) else none) else (bif Nat.beq pc 8 then some (.iload_n 2, []) else none)))) else (bif Nat.blt pc 13 then (bif Nat.blt pc 12 then (bif Nat.beq pc 9 then some (.ifCond .lt 15, [24]) else none) else (bif Nat.beq pc 12 then some (.iload_n 2, []) else none)) else (bif Nat.blt pc 14 then (bif Nat.beq pc 13 then some (.aload_n 0, []) else none) else (bif Nat.blt pc 17 then (bif Nat.beq pc 14 then some (.getfield 12, []) else none) else (bif Nat.beq pc 17 then some (.iload_n 1, []) else none))))) else (bif Nat.blt pc 28 then (bif Nat.blt pc 24 then (bif Nat.blt pc 21 then (bif Nat.beq pc 18 then some (.invokevirtual 54, []) else none) else (bif Nat.beq pc 21 then some (.if_icmp .lt 6, [27]) else none)) else (bif Nat.blt pc 26 then (bif Nat.beq pc 24 then some (.bipush (-2), []) else none) else (bif Nat.blt pc 27 then (bif Nat.beq pc 26 then some (.ireturn, []) else none) else (bif Nat.beq pc 27 then some (.aload_n 0, []) else none)))) else (bif Nat.blt pc 32 then (bif Nat.blt pc 31 then (bif Nat.beq pc 28 then some (.getfield 12, []) else none) else (bif Nat.beq pc 31 then some (.iload_n 1, []) else none)) else (bif Nat.blt pc 33 then (bif Nat.beq pc 32 then some (.iload_n 2, []) else none) else (bif Nat.blt pc 36 then (bif Nat.beq pc 33 then some (.invokevirtual 76, []) else none) else (bif Nat.beq pc 36 then some (.ireturn, []) else none)))))))
set_option maxRecDepth 100000 in
theorem oX5_at : xIOk cX5_at iX5_at := xIOk_of (N := 37) (fun pc h => xtree_none h) (by decide +kernel)
set_option maxRecDepth 100000 in
theorem yoX5_at : xYOk yX5_at cX5_at 3 (some .int) 2 := ⟨by decide, xm 340 (by decide +kernel) rfl, xm 41 (by decide +kernel) rfl, by decide +kernel, by decide +kernel⟩
set_option maxRecDepth 100000 in
def iX5_nets : Nat → Option (Instr × List Nat) := xtree 8 (fun pc => (bif Nat.blt pc 4 then (bif Nat.blt pc 1 then (bif Nat.beq pc 0 then some (.aload_n 0, []) else none) else (bif Nat.beq pc 1 then some (.getfield 33, []) else none)) else (bif Nat.blt pc 7 then (bif Nat.beq pc 4 then some (.invokevirtual 111, []) else none) else (bif Nat.beq pc 7 then some (.ireturn, []) else none))))
set_option maxRecDepth 100000 in
theorem oX5_nets : xIOk cX5_nets iX5_nets := xIOk_of (N := 8) (fun pc h => xtree_none h) (by decide +kernel)
set_option maxRecDepth 100000 in
theorem yoX5_nets : xYOk yX5_nets cX5_nets 1 (some .int) 0 := ⟨by decide, xm 344 (by decide +kernel) rfl, xm 41 (by decide +kernel) rfl, by decide +kernel, by decide +kernel⟩
set_option maxRecDepth 100000 in
def iX5_shape : Nat → Option (Instr × List Nat) := xtree 52 (fun pc => (bif Nat.blt pc 25 then (bif Nat.blt pc 11 then (bif Nat.blt pc 5 then (bif Nat.blt pc 1 then (bif Nat.beq pc 0 then some (.iload_n 1, []) else none) else (bif Nat.blt pc 4 then (bif Nat.beq pc 1 then some (.ifCond .eq 11, [12]) else none) else (bif Nat.beq pc 4 then some (.iload_n 1, []) else none))) else (bif Nat.blt pc 6 then (bif Nat.beq pc 5 then some (.iconst 1, []) else none) else (bif Nat.blt pc 9 then (bif Nat.beq pc 6 then some (.if_icmp .eq 6, [12]) else none) else (bif Nat.beq pc 9 then some (.bipush (-2), []) else none)))) else (bif Nat.blt pc 16 then (bif Nat.blt pc 12 then (bif Nat.beq pc 11 then some (.ireturn, []) else none) else (bif Nat.blt pc 13 then (bif Nat.beq pc 12 then some (.aload_n 0, []) else none) else (bif Nat.beq pc 13 then some (.getfield 33, []) else none))) else (bif Nat.blt pc 22 then (bif Nat.blt pc 19 then (bif Nat.beq pc 16 then some (.invokevirtual 111, []) else none) else (bif Nat.beq pc 19 then some (.ifCond .ne 6, [25]) else none)) else (bif Nat.blt pc 24 then (bif Nat.beq pc 22 then some (.bipush (-6), []) else none) else (bif Nat.beq pc 24 then some (.ireturn, []) else none))))) else (bif Nat.blt pc 37 then (bif Nat.blt pc 30 then (bif Nat.blt pc 26 then (bif Nat.beq pc 25 then some (.iload_n 1, []) else none) else (bif Nat.blt pc 29 then (bif Nat.beq pc 26 then some (.ifCond .ne 18, [44]) else none) else (bif Nat.beq pc 29 then some (.aload_n 0, []) else none))) else (bif Nat.blt pc 33 then (bif Nat.beq pc 30 then some (.invokevirtual 114, []) else none) else (bif Nat.blt pc 34 then (bif Nat.beq pc 33 then some (.aload_n 0, []) else none) else (bif Nat.beq pc 34 then some (.getfield 33, []) else none)))) else (bif Nat.blt pc 44 then (bif Nat.blt pc 40 then (bif Nat.beq pc 37 then some (.invokevirtual 117, []) else none) else (bif Nat.blt pc 41 then (bif Nat.beq pc 40 then some (.iadd, []) else none) else (bif Nat.beq pc 41 then some (.goto 10, [51]) else none))) else (bif Nat.blt pc 48 then (bif Nat.blt pc 45 then (bif Nat.beq pc 44 then some (.aload_n 0, []) else none) else (bif Nat.beq pc 45 then some (.getfield 33, []) else none)) else (bif Nat.blt pc 51 then (bif Nat.beq pc 48 then some (.invokevirtual 120, []) else none) else (bif Nat.beq pc 51 then some (.ireturn, []) else none)))))))
set_option maxRecDepth 100000 in
theorem oX5_shape : xIOk cX5_shape iX5_shape := xIOk_of (N := 52) (fun pc h => xtree_none h) (by decide +kernel)
set_option maxRecDepth 100000 in
theorem yoX5_shape : xYOk yX5_shape cX5_shape 2 (some .int) 1 := ⟨by decide, xm 441 (by decide +kernel) rfl, xm 41 (by decide +kernel) rfl, by decide +kernel, by decide +kernel⟩
set_option maxRecDepth 100000 in
def iX5_boxOf : Nat → Option (Instr × List Nat) := xtree 70 (fun pc => (bif Nat.blt pc 38 then (bif Nat.blt pc 18 then (bif Nat.blt pc 10 then (bif Nat.blt pc 4 then (bif Nat.blt pc 1 then (bif Nat.beq pc 0 then some (.aload_n 0, []) else none) else (bif Nat.beq pc 1 then some (.getfield 33, []) else none)) else (bif Nat.blt pc 7 then (bif Nat.beq pc 4 then some (.invokevirtual 111, []) else none) else (bif Nat.beq pc 7 then some (.ifCond .ne 6, [13]) else none))) else (bif Nat.blt pc 13 then (bif Nat.blt pc 12 then (bif Nat.beq pc 10 then some (.bipush (-6), []) else none) else (bif Nat.beq pc 12 then some (.ireturn, []) else none)) else (bif Nat.blt pc 14 then (bif Nat.beq pc 13 then some (.aload_n 0, []) else none) else (bif Nat.blt pc 15 then (bif Nat.beq pc 14 then some (.iload_n 1, []) else none) else (bif Nat.beq pc 15 then some (.invokevirtual 123, []) else none))))) else (bif Nat.blt pc 26 then (bif Nat.blt pc 22 then (bif Nat.blt pc 21 then (bif Nat.beq pc 18 then some (.ifCond .eq 18, [36]) else none) else (bif Nat.beq pc 21 then some (.iload_n 2, []) else none)) else (bif Nat.blt pc 25 then (bif Nat.beq pc 22 then some (.ifCond .lt 14, [36]) else none) else (bif Nat.beq pc 25 then some (.iload_n 2, []) else none))) else (bif Nat.blt pc 30 then (bif Nat.blt pc 27 then (bif Nat.beq pc 26 then some (.aload_n 0, []) else none) else (bif Nat.beq pc 27 then some (.getfield 12, []) else none)) else (bif Nat.blt pc 33 then (bif Nat.beq pc 30 then some (.invokevirtual 58, []) else none) else (bif Nat.blt pc 36 then (bif Nat.beq pc 33 then some (.if_icmp .lt 6, [39]) else none) else (bif Nat.beq pc 36 then some (.bipush (-2), []) else none)))))) else (bif Nat.blt pc 53 then (bif Nat.blt pc 44 then (bif Nat.blt pc 40 then (bif Nat.blt pc 39 then (bif Nat.beq pc 38 then some (.ireturn, []) else none) else (bif Nat.beq pc 39 then some (.aload_n 0, []) else none)) else (bif Nat.blt pc 43 then (bif Nat.beq pc 40 then some (.getfield 33, []) else none) else (bif Nat.beq pc 43 then some (.iload_n 1, []) else none))) else (bif Nat.blt pc 48 then (bif Nat.blt pc 47 then (bif Nat.beq pc 44 then some (.invokevirtual 126, []) else none) else (bif Nat.beq pc 47 then some (.iload_n 2, []) else none)) else (bif Nat.blt pc 51 then (bif Nat.beq pc 48 then some (.invokestatic 129, []) else none) else (bif Nat.blt pc 52 then (bif Nat.beq pc 51 then some (.istore_n 3, []) else none) else (bif Nat.beq pc 52 then some (.iload_n 3, []) else none))))) else (bif Nat.blt pc 64 then (bif Nat.blt pc 58 then (bif Nat.blt pc 55 then (bif Nat.beq pc 53 then some (.bipush 6, []) else none) else (bif Nat.beq pc 55 then some (.if_icmp .ge 7, [62]) else none)) else (bif Nat.blt pc 59 then (bif Nat.beq pc 58 then some (.iload_n 3, []) else none) else (bif Nat.blt pc 62 then (bif Nat.beq pc 59 then some (.goto 10, [69]) else none) else (bif Nat.beq pc 62 then some (.bipush 10, []) else none)))) else (bif Nat.blt pc 66 then (bif Nat.blt pc 65 then (bif Nat.beq pc 64 then some (.iload_n 3, []) else none) else (bif Nat.beq pc 65 then some (.iadd, []) else none)) else (bif Nat.blt pc 68 then (bif Nat.beq pc 66 then some (.bipush 6, []) else none) else (bif Nat.blt pc 69 then (bif Nat.beq pc 68 then some (.isub, []) else none) else (bif Nat.beq pc 69 then some (.ireturn, []) else none))))))))
set_option maxRecDepth 100000 in
theorem oX5_boxOf : xIOk cX5_boxOf iX5_boxOf := xIOk_of (N := 70) (fun pc h => xtree_none h) (by decide +kernel)
set_option maxRecDepth 100000 in
theorem yoX5_boxOf : xYOk yX5_boxOf cX5_boxOf 4 (some .int) 2 := ⟨by decide, xm 460 (by decide +kernel) rfl, xm 41 (by decide +kernel) rfl, by decide +kernel, by decide +kernel⟩
set_option maxRecDepth 100000 in
def iX5_far : Nat → Option (Instr × List Nat) := xtree 72 (fun pc => (bif Nat.blt pc 37 then (bif Nat.blt pc 18 then (bif Nat.blt pc 10 then (bif Nat.blt pc 4 then (bif Nat.blt pc 1 then (bif Nat.beq pc 0 then some (.aload_n 0, []) else none) else (bif Nat.beq pc 1 then some (.getfield 33, []) else none)) else (bif Nat.blt pc 7 then (bif Nat.beq pc 4 then some (.invokevirtual 111, []) else none) else (bif Nat.beq pc 7 then some (.ifCond .ne 6, [13]) else none))) else (bif Nat.blt pc 13 then (bif Nat.blt pc 12 then (bif Nat.beq pc 10 then some (.bipush (-6), []) else none) else (bif Nat.beq pc 12 then some (.ireturn, []) else none)) else (bif Nat.blt pc 14 then (bif Nat.beq pc 13 then some (.aload_n 0, []) else none) else (bif Nat.blt pc 15 then (bif Nat.beq pc 14 then some (.iload_n 1, []) else none) else (bif Nat.beq pc 15 then some (.invokevirtual 123, []) else none))))) else (bif Nat.blt pc 26 then (bif Nat.blt pc 22 then (bif Nat.blt pc 21 then (bif Nat.beq pc 18 then some (.ifCond .eq 19, [37]) else none) else (bif Nat.beq pc 21 then some (.aload_n 0, []) else none)) else (bif Nat.blt pc 23 then (bif Nat.beq pc 22 then some (.iload_n 2, []) else none) else (bif Nat.beq pc 23 then some (.invokevirtual 132, []) else none))) else (bif Nat.blt pc 30 then (bif Nat.blt pc 29 then (bif Nat.beq pc 26 then some (.ifCond .eq 11, [37]) else none) else (bif Nat.beq pc 29 then some (.aload_n 0, []) else none)) else (bif Nat.blt pc 31 then (bif Nat.beq pc 30 then some (.iload_n 3, []) else none) else (bif Nat.blt pc 34 then (bif Nat.beq pc 31 then some (.invokevirtual 132, []) else none) else (bif Nat.beq pc 34 then some (.ifCond .ne 6, [40]) else none)))))) else (bif Nat.blt pc 53 then (bif Nat.blt pc 44 then (bif Nat.blt pc 40 then (bif Nat.blt pc 39 then (bif Nat.beq pc 37 then some (.bipush (-2), []) else none) else (bif Nat.beq pc 39 then some (.ireturn, []) else none)) else (bif Nat.blt pc 41 then (bif Nat.beq pc 40 then some (.aload_n 0, []) else none) else (bif Nat.beq pc 41 then some (.getfield 42, []) else none))) else (bif Nat.blt pc 48 then (bif Nat.blt pc 45 then (bif Nat.beq pc 44 then some (.aload_n 0, []) else none) else (bif Nat.beq pc 45 then some (.getfield 33, []) else none)) else (bif Nat.blt pc 49 then (bif Nat.beq pc 48 then some (.iload_n 1, []) else none) else (bif Nat.blt pc 52 then (bif Nat.beq pc 49 then some (.invokevirtual 126, []) else none) else (bif Nat.beq pc 52 then some (.aload_n 0, []) else none))))) else (bif Nat.blt pc 61 then (bif Nat.blt pc 57 then (bif Nat.blt pc 56 then (bif Nat.beq pc 53 then some (.getfield 19, []) else none) else (bif Nat.beq pc 56 then some (.iload_n 2, []) else none)) else (bif Nat.blt pc 60 then (bif Nat.beq pc 57 then some (.invokevirtual 135, []) else none) else (bif Nat.beq pc 60 then some (.aload_n 0, []) else none))) else (bif Nat.blt pc 65 then (bif Nat.blt pc 64 then (bif Nat.beq pc 61 then some (.getfield 19, []) else none) else (bif Nat.beq pc 64 then some (.iload_n 3, []) else none)) else (bif Nat.blt pc 68 then (bif Nat.beq pc 65 then some (.invokevirtual 135, []) else none) else (bif Nat.blt pc 71 then (bif Nat.beq pc 68 then some (.invokevirtual 138, []) else none) else (bif Nat.beq pc 71 then some (.ireturn, []) else none))))))))
set_option maxRecDepth 100000 in
theorem oX5_far : xIOk cX5_far iX5_far := xIOk_of (N := 72) (fun pc h => xtree_none h) (by decide +kernel)
set_option maxRecDepth 100000 in
theorem yoX5_far : xYOk yX5_far cX5_far 4 (some .int) 3 := ⟨by decide, xm 475 (by decide +kernel) rfl, xm 41 (by decide +kernel) rfl, by decide +kernel, by decide +kernel⟩
set_option maxRecDepth 100000 in
def iX5_sure : Nat → Option (Instr × List Nat) := xtree 63 (fun pc => (bif Nat.blt pc 31 then (bif Nat.blt pc 14 then (bif Nat.blt pc 7 then (bif Nat.blt pc 1 then (bif Nat.beq pc 0 then some (.aload_n 0, []) else none) else (bif Nat.blt pc 4 then (bif Nat.beq pc 1 then some (.getfield 33, []) else none) else (bif Nat.beq pc 4 then some (.invokevirtual 111, []) else none))) else (bif Nat.blt pc 12 then (bif Nat.blt pc 10 then (bif Nat.beq pc 7 then some (.ifCond .ne 6, [13]) else none) else (bif Nat.beq pc 10 then some (.bipush (-6), []) else none)) else (bif Nat.blt pc 13 then (bif Nat.beq pc 12 then some (.ireturn, []) else none) else (bif Nat.beq pc 13 then some (.aload_n 0, []) else none)))) else (bif Nat.blt pc 22 then (bif Nat.blt pc 18 then (bif Nat.blt pc 15 then (bif Nat.beq pc 14 then some (.iload_n 1, []) else none) else (bif Nat.beq pc 15 then some (.invokevirtual 132, []) else none)) else (bif Nat.blt pc 21 then (bif Nat.beq pc 18 then some (.ifCond .eq 11, [29]) else none) else (bif Nat.beq pc 21 then some (.aload_n 0, []) else none))) else (bif Nat.blt pc 26 then (bif Nat.blt pc 23 then (bif Nat.beq pc 22 then some (.iload_n 2, []) else none) else (bif Nat.beq pc 23 then some (.invokevirtual 132, []) else none)) else (bif Nat.blt pc 29 then (bif Nat.beq pc 26 then some (.ifCond .ne 6, [32]) else none) else (bif Nat.beq pc 29 then some (.bipush (-2), []) else none))))) else (bif Nat.blt pc 47 then (bif Nat.blt pc 39 then (bif Nat.blt pc 33 then (bif Nat.blt pc 32 then (bif Nat.beq pc 31 then some (.ireturn, []) else none) else (bif Nat.beq pc 32 then some (.aload_n 0, []) else none)) else (bif Nat.blt pc 36 then (bif Nat.beq pc 33 then some (.getfield 42, []) else none) else (bif Nat.beq pc 36 then some (.invokevirtual 142, []) else none))) else (bif Nat.blt pc 43 then (bif Nat.blt pc 40 then (bif Nat.beq pc 39 then some (.aload_n 0, []) else none) else (bif Nat.beq pc 40 then some (.getfield 42, []) else none)) else (bif Nat.blt pc 44 then (bif Nat.beq pc 43 then some (.aload_n 0, []) else none) else (bif Nat.beq pc 44 then some (.getfield 19, []) else none)))) else (bif Nat.blt pc 55 then (bif Nat.blt pc 51 then (bif Nat.blt pc 48 then (bif Nat.beq pc 47 then some (.iload_n 1, []) else none) else (bif Nat.beq pc 48 then some (.invokevirtual 135, []) else none)) else (bif Nat.blt pc 52 then (bif Nat.beq pc 51 then some (.aload_n 0, []) else none) else (bif Nat.beq pc 52 then some (.getfield 19, []) else none))) else (bif Nat.blt pc 59 then (bif Nat.blt pc 56 then (bif Nat.beq pc 55 then some (.iload_n 2, []) else none) else (bif Nat.beq pc 56 then some (.invokevirtual 135, []) else none)) else (bif Nat.blt pc 62 then (bif Nat.beq pc 59 then some (.invokevirtual 145, []) else none) else (bif Nat.beq pc 62 then some (.ireturn, []) else none)))))))
set_option maxRecDepth 100000 in
theorem oX5_sure : xIOk cX5_sure iX5_sure := xIOk_of (N := 63) (fun pc h => xtree_none h) (by decide +kernel)
set_option maxRecDepth 100000 in
theorem yoX5_sure : xYOk yX5_sure cX5_sure 3 (some .int) 2 := ⟨by decide, xm 497 (by decide +kernel) rfl, xm 41 (by decide +kernel) rfl, by decide +kernel, by decide +kernel⟩
set_option maxRecDepth 100000 in
def iX5_falses : Nat → Option (Instr × List Nat) := xtree 74 (fun pc => (bif Nat.blt pc 35 then (bif Nat.blt pc 20 then (bif Nat.blt pc 11 then (bif Nat.blt pc 4 then (bif Nat.blt pc 1 then (bif Nat.beq pc 0 then some (.aload_n 0, []) else none) else (bif Nat.beq pc 1 then some (.getfield 33, []) else none)) else (bif Nat.blt pc 7 then (bif Nat.beq pc 4 then some (.invokevirtual 111, []) else none) else (bif Nat.blt pc 10 then (bif Nat.beq pc 7 then some (.ifCond .le 5, [12]) else none) else (bif Nat.beq pc 10 then some (.iconst 0, []) else none)))) else (bif Nat.blt pc 13 then (bif Nat.blt pc 12 then (bif Nat.beq pc 11 then some (.ireturn, []) else none) else (bif Nat.beq pc 12 then some (.aload_n 0, []) else none)) else (bif Nat.blt pc 16 then (bif Nat.beq pc 13 then some (.getfield 12, []) else none) else (bif Nat.blt pc 19 then (bif Nat.beq pc 16 then some (.invokevirtual 148, []) else none) else (bif Nat.beq pc 19 then some (.istore_n 1, []) else none))))) else (bif Nat.blt pc 28 then (bif Nat.blt pc 22 then (bif Nat.blt pc 21 then (bif Nat.beq pc 20 then some (.iconst 1, []) else none) else (bif Nat.beq pc 21 then some (.istore_n 2, []) else none)) else (bif Nat.blt pc 23 then (bif Nat.beq pc 22 then some (.iload_n 2, []) else none) else (bif Nat.blt pc 25 then (bif Nat.beq pc 23 then some (.bipush 6, []) else none) else (bif Nat.beq pc 25 then some (.if_icmp .gt 47, [72]) else none)))) else (bif Nat.blt pc 30 then (bif Nat.blt pc 29 then (bif Nat.beq pc 28 then some (.iconst 1, []) else none) else (bif Nat.beq pc 29 then some (.istore_n 3, []) else none)) else (bif Nat.blt pc 31 then (bif Nat.beq pc 30 then some (.iload_n 3, []) else none) else (bif Nat.blt pc 32 then (bif Nat.beq pc 31 then some (.iload_n 1, []) else none) else (bif Nat.beq pc 32 then some (.if_icmp .gt 34, [66]) else none)))))) else (bif Nat.blt pc 51 then (bif Nat.blt pc 44 then (bif Nat.blt pc 39 then (bif Nat.blt pc 36 then (bif Nat.beq pc 35 then some (.iload_n 3, []) else none) else (bif Nat.beq pc 36 then some (.invokestatic 151, []) else none)) else (bif Nat.blt pc 40 then (bif Nat.beq pc 39 then some (.iload_n 2, []) else none) else (bif Nat.blt pc 43 then (bif Nat.beq pc 40 then some (.if_icmp .ne 20, [60]) else none) else (bif Nat.beq pc 43 then some (.aload_n 0, []) else none)))) else (bif Nat.blt pc 48 then (bif Nat.blt pc 47 then (bif Nat.beq pc 44 then some (.getfield 33, []) else none) else (bif Nat.beq pc 47 then some (.iload_n 1, []) else none)) else (bif Nat.blt pc 49 then (bif Nat.beq pc 48 then some (.iload_n 3, []) else none) else (bif Nat.blt pc 50 then (bif Nat.beq pc 49 then some (.iconst (-1), []) else none) else (bif Nat.beq pc 50 then some (.ixor, []) else none))))) else (bif Nat.blt pc 60 then (bif Nat.blt pc 55 then (bif Nat.blt pc 52 then (bif Nat.beq pc 51 then some (.iand, []) else none) else (bif Nat.beq pc 52 then some (.invokevirtual 156, []) else none)) else (bif Nat.blt pc 58 then (bif Nat.beq pc 55 then some (.ifCond .eq 5, [60]) else none) else (bif Nat.blt pc 59 then (bif Nat.beq pc 58 then some (.iload_n 3, []) else none) else (bif Nat.beq pc 59 then some (.ireturn, []) else none)))) else (bif Nat.blt pc 69 then (bif Nat.blt pc 63 then (bif Nat.beq pc 60 then some (.iinc 3 1, []) else none) else (bif Nat.blt pc 66 then (bif Nat.beq pc 63 then some (.goto (-33), [30]) else none) else (bif Nat.beq pc 66 then some (.iinc 2 1, []) else none))) else (bif Nat.blt pc 72 then (bif Nat.beq pc 69 then some (.goto (-47), [22]) else none) else (bif Nat.blt pc 73 then (bif Nat.beq pc 72 then some (.iload_n 1, []) else none) else (bif Nat.beq pc 73 then some (.ireturn, []) else none))))))))
set_option maxRecDepth 100000 in
theorem oX5_falses : xIOk cX5_falses iX5_falses := xIOk_of (N := 74) (fun pc h => xtree_none h) (by decide +kernel)
set_option maxRecDepth 100000 in
theorem yoX5_falses : xYOk yX5_falses cX5_falses 4 (some .int) 0 := ⟨by decide, xm 545 (by decide +kernel) rfl, xm 41 (by decide +kernel) rfl, by decide +kernel, by decide +kernel⟩
set_option maxRecDepth 100000 in
def iX5_next : Nat → Option (Instr × List Nat) := xtree 28 (fun pc => (bif Nat.blt pc 13 then (bif Nat.blt pc 7 then (bif Nat.blt pc 1 then (bif Nat.beq pc 0 then some (.aload_n 0, []) else none) else (bif Nat.blt pc 4 then (bif Nat.beq pc 1 then some (.getfield 33, []) else none) else (bif Nat.beq pc 4 then some (.invokevirtual 111, []) else none))) else (bif Nat.blt pc 10 then (bif Nat.beq pc 7 then some (.ifCond .ne 6, [13]) else none) else (bif Nat.blt pc 12 then (bif Nat.beq pc 10 then some (.bipush (-6), []) else none) else (bif Nat.beq pc 12 then some (.ireturn, []) else none)))) else (bif Nat.blt pc 20 then (bif Nat.blt pc 14 then (bif Nat.beq pc 13 then some (.aload_n 0, []) else none) else (bif Nat.blt pc 17 then (bif Nat.beq pc 14 then some (.getfield 42, []) else none) else (bif Nat.beq pc 17 then some (.invokevirtual 142, []) else none))) else (bif Nat.blt pc 24 then (bif Nat.blt pc 21 then (bif Nat.beq pc 20 then some (.aload_n 0, []) else none) else (bif Nat.beq pc 21 then some (.getfield 42, []) else none)) else (bif Nat.blt pc 27 then (bif Nat.beq pc 24 then some (.invokevirtual 159, []) else none) else (bif Nat.beq pc 27 then some (.ireturn, []) else none))))))
set_option maxRecDepth 100000 in
theorem oX5_next : xIOk cX5_next iX5_next := xIOk_of (N := 28) (fun pc h => xtree_none h) (by decide +kernel)
set_option maxRecDepth 100000 in
theorem yoX5_next : xYOk yX5_next cX5_next 1 (some .int) 0 := ⟨by decide, xm 551 (by decide +kernel) rfl, xm 41 (by decide +kernel) rfl, by decide +kernel, by decide +kernel⟩
set_option maxRecDepth 100000 in
def iX5_worst : Nat → Option (Instr × List Nat) := xtree 28 (fun pc => (bif Nat.blt pc 13 then (bif Nat.blt pc 7 then (bif Nat.blt pc 1 then (bif Nat.beq pc 0 then some (.aload_n 0, []) else none) else (bif Nat.blt pc 4 then (bif Nat.beq pc 1 then some (.getfield 33, []) else none) else (bif Nat.beq pc 4 then some (.invokevirtual 111, []) else none))) else (bif Nat.blt pc 10 then (bif Nat.beq pc 7 then some (.ifCond .ne 6, [13]) else none) else (bif Nat.blt pc 12 then (bif Nat.beq pc 10 then some (.bipush (-6), []) else none) else (bif Nat.beq pc 12 then some (.ireturn, []) else none)))) else (bif Nat.blt pc 20 then (bif Nat.blt pc 14 then (bif Nat.beq pc 13 then some (.aload_n 0, []) else none) else (bif Nat.blt pc 17 then (bif Nat.beq pc 14 then some (.getfield 42, []) else none) else (bif Nat.beq pc 17 then some (.invokevirtual 142, []) else none))) else (bif Nat.blt pc 24 then (bif Nat.blt pc 21 then (bif Nat.beq pc 20 then some (.aload_n 0, []) else none) else (bif Nat.beq pc 21 then some (.getfield 42, []) else none)) else (bif Nat.blt pc 27 then (bif Nat.beq pc 24 then some (.invokevirtual 162, []) else none) else (bif Nat.beq pc 27 then some (.ireturn, []) else none))))))
set_option maxRecDepth 100000 in
theorem oX5_worst : xIOk cX5_worst iX5_worst := xIOk_of (N := 28) (fun pc h => xtree_none h) (by decide +kernel)
set_option maxRecDepth 100000 in
theorem yoX5_worst : xYOk yX5_worst cX5_worst 1 (some .int) 0 := ⟨by decide, xm 559 (by decide +kernel) rfl, xm 41 (by decide +kernel) rfl, by decide +kernel, by decide +kernel⟩
set_option maxRecDepth 100000 in
def iX5_count : Nat → Option (Instr × List Nat) := xtree 81 (fun pc => (bif Nat.blt pc 56 then (bif Nat.blt pc 44 then (bif Nat.blt pc 37 then (bif Nat.blt pc 1 then (bif Nat.beq pc 0 then some (.iload_n 1, []) else none) else (bif Nat.blt pc 36 then (bif Nat.beq pc 1 then some (.tableswitch 77 0 4 #[35, 43, 51, 62, 72], [78, 36, 44, 52, 63, 73]) else none) else (bif Nat.beq pc 36 then some (.aload_n 0, []) else none))) else (bif Nat.blt pc 40 then (bif Nat.beq pc 37 then some (.getfield 12, []) else none) else (bif Nat.blt pc 43 then (bif Nat.beq pc 40 then some (.invokevirtual 73, []) else none) else (bif Nat.beq pc 43 then some (.ireturn, []) else none)))) else (bif Nat.blt pc 51 then (bif Nat.blt pc 45 then (bif Nat.beq pc 44 then some (.aload_n 0, []) else none) else (bif Nat.blt pc 48 then (bif Nat.beq pc 45 then some (.getfield 12, []) else none) else (bif Nat.beq pc 48 then some (.invokevirtual 58, []) else none))) else (bif Nat.blt pc 52 then (bif Nat.beq pc 51 then some (.ireturn, []) else none) else (bif Nat.blt pc 53 then (bif Nat.beq pc 52 then some (.aload_n 0, []) else none) else (bif Nat.beq pc 53 then some (.getfield 12, []) else none))))) else (bif Nat.blt pc 69 then (bif Nat.blt pc 63 then (bif Nat.blt pc 59 then (bif Nat.beq pc 56 then some (.invokevirtual 165, []) else none) else (bif Nat.blt pc 62 then (bif Nat.beq pc 59 then some (.invokestatic 151, []) else none) else (bif Nat.beq pc 62 then some (.ireturn, []) else none))) else (bif Nat.blt pc 64 then (bif Nat.beq pc 63 then some (.aload_n 0, []) else none) else (bif Nat.blt pc 67 then (bif Nat.beq pc 64 then some (.getfield 12, []) else none) else (bif Nat.beq pc 67 then some (.bipush 6, []) else none)))) else (bif Nat.blt pc 74 then (bif Nat.blt pc 72 then (bif Nat.beq pc 69 then some (.invokevirtual 54, []) else none) else (bif Nat.blt pc 73 then (bif Nat.beq pc 72 then some (.ireturn, []) else none) else (bif Nat.beq pc 73 then some (.aload_n 0, []) else none))) else (bif Nat.blt pc 78 then (bif Nat.blt pc 77 then (bif Nat.beq pc 74 then some (.invokevirtual 114, []) else none) else (bif Nat.beq pc 77 then some (.ireturn, []) else none)) else (bif Nat.blt pc 80 then (bif Nat.beq pc 78 then some (.bipush (-2), []) else none) else (bif Nat.beq pc 80 then some (.ireturn, []) else none)))))))
set_option maxRecDepth 100000 in
theorem oX5_count : xIOk cX5_count iX5_count := xIOk_of (N := 81) (fun pc h => xtree_none h) (by decide +kernel)
set_option maxRecDepth 100000 in
theorem yoX5_count : xYOk yX5_count cX5_count 2 (some .int) 1 := ⟨by decide, xm 567 (by decide +kernel) rfl, xm 41 (by decide +kernel) rfl, by decide +kernel, by decide +kernel⟩
set_option maxRecDepth 100000 in
def iX5_forgetAnswers : Nat → Option (Instr × List Nat) := xtree 15 (fun pc => (bif Nat.blt pc 7 then (bif Nat.blt pc 1 then (bif Nat.beq pc 0 then some (.aload_n 0, []) else none) else (bif Nat.blt pc 4 then (bif Nat.beq pc 1 then some (.getfield 33, []) else none) else (bif Nat.beq pc 4 then some (.invokevirtual 168, []) else none))) else (bif Nat.blt pc 11 then (bif Nat.blt pc 8 then (bif Nat.beq pc 7 then some (.aload_n 0, []) else none) else (bif Nat.beq pc 8 then some (.getfield 42, []) else none)) else (bif Nat.blt pc 14 then (bif Nat.beq pc 11 then some (.invokevirtual 171, []) else none) else (bif Nat.beq pc 14 then some (.return_, []) else none)))))
set_option maxRecDepth 100000 in
theorem oX5_forgetAnswers : xIOk cX5_forgetAnswers iX5_forgetAnswers := xIOk_of (N := 15) (fun pc h => xtree_none h) (by decide +kernel)
set_option maxRecDepth 100000 in
theorem yoX5_forgetAnswers : xYOk yX5_forgetAnswers cX5_forgetAnswers 1 none 0 := ⟨by decide, xm 261 (by decide +kernel) rfl, xm 41 (by decide +kernel) rfl, by decide +kernel, by decide +kernel⟩
set_option maxRecDepth 100000 in
def iX5_isTrace : Nat → Option (Instr × List Nat) := xtree 21 (fun pc => (bif Nat.blt pc 9 then (bif Nat.blt pc 4 then (bif Nat.blt pc 1 then (bif Nat.beq pc 0 then some (.iload_n 1, []) else none) else (bif Nat.beq pc 1 then some (.ifCond .lt 18, [19]) else none)) else (bif Nat.blt pc 5 then (bif Nat.beq pc 4 then some (.iload_n 1, []) else none) else (bif Nat.blt pc 6 then (bif Nat.beq pc 5 then some (.aload_n 0, []) else none) else (bif Nat.beq pc 6 then some (.getfield 12, []) else none)))) else (bif Nat.blt pc 16 then (bif Nat.blt pc 12 then (bif Nat.beq pc 9 then some (.invokevirtual 73, []) else none) else (bif Nat.blt pc 15 then (bif Nat.beq pc 12 then some (.if_icmp .ge 7, [19]) else none) else (bif Nat.beq pc 15 then some (.iconst 1, []) else none))) else (bif Nat.blt pc 19 then (bif Nat.beq pc 16 then some (.goto 4, [20]) else none) else (bif Nat.blt pc 20 then (bif Nat.beq pc 19 then some (.iconst 0, []) else none) else (bif Nat.beq pc 20 then some (.ireturn, []) else none))))))
set_option maxRecDepth 100000 in
theorem oX5_isTrace : xIOk cX5_isTrace iX5_isTrace := xIOk_of (N := 21) (fun pc h => xtree_none h) (by decide +kernel)
set_option maxRecDepth 100000 in
theorem yoX5_isTrace : xYOk yX5_isTrace cX5_isTrace 2 (some .boolean) 1 := ⟨by decide, xm 277 (by decide +kernel) rfl, xm 41 (by decide +kernel) rfl, by decide +kernel, by decide +kernel⟩
set_option maxRecDepth 100000 in
def iX5_isNet : Nat → Option (Instr × List Nat) := xtree 21 (fun pc => (bif Nat.blt pc 9 then (bif Nat.blt pc 4 then (bif Nat.blt pc 1 then (bif Nat.beq pc 0 then some (.iload_n 1, []) else none) else (bif Nat.beq pc 1 then some (.ifCond .lt 18, [19]) else none)) else (bif Nat.blt pc 5 then (bif Nat.beq pc 4 then some (.iload_n 1, []) else none) else (bif Nat.blt pc 6 then (bif Nat.beq pc 5 then some (.aload_n 0, []) else none) else (bif Nat.beq pc 6 then some (.getfield 33, []) else none)))) else (bif Nat.blt pc 16 then (bif Nat.blt pc 12 then (bif Nat.beq pc 9 then some (.invokevirtual 111, []) else none) else (bif Nat.blt pc 15 then (bif Nat.beq pc 12 then some (.if_icmp .ge 7, [19]) else none) else (bif Nat.beq pc 15 then some (.iconst 1, []) else none))) else (bif Nat.blt pc 19 then (bif Nat.beq pc 16 then some (.goto 4, [20]) else none) else (bif Nat.blt pc 20 then (bif Nat.beq pc 19 then some (.iconst 0, []) else none) else (bif Nat.beq pc 20 then some (.ireturn, []) else none))))))
set_option maxRecDepth 100000 in
theorem oX5_isNet : xIOk cX5_isNet iX5_isNet := xIOk_of (N := 21) (fun pc h => xtree_none h) (by decide +kernel)
set_option maxRecDepth 100000 in
theorem yoX5_isNet : xYOk yX5_isNet cX5_isNet 2 (some .boolean) 1 := ⟨by decide, xm 464 (by decide +kernel) rfl, xm 41 (by decide +kernel) rfl, by decide +kernel, by decide +kernel⟩
set_option maxRecDepth 100000 in
def iX5_isTraced : Nat → Option (Instr × List Nat) := xtree 27 (fun pc => (bif Nat.blt pc 14 then (bif Nat.blt pc 7 then (bif Nat.blt pc 1 then (bif Nat.beq pc 0 then some (.iload_n 1, []) else none) else (bif Nat.blt pc 4 then (bif Nat.beq pc 1 then some (.invokestatic 46, []) else none) else (bif Nat.beq pc 4 then some (.ifCond .eq 21, [25]) else none))) else (bif Nat.blt pc 8 then (bif Nat.beq pc 7 then some (.aload_n 0, []) else none) else (bif Nat.blt pc 11 then (bif Nat.beq pc 8 then some (.getfield 12, []) else none) else (bif Nat.beq pc 11 then some (.invokevirtual 165, []) else none)))) else (bif Nat.blt pc 21 then (bif Nat.blt pc 15 then (bif Nat.beq pc 14 then some (.iload_n 1, []) else none) else (bif Nat.blt pc 18 then (bif Nat.beq pc 15 then some (.invokestatic 174, []) else none) else (bif Nat.beq pc 18 then some (.ifCond .eq 7, [25]) else none))) else (bif Nat.blt pc 25 then (bif Nat.blt pc 22 then (bif Nat.beq pc 21 then some (.iconst 1, []) else none) else (bif Nat.beq pc 22 then some (.goto 4, [26]) else none)) else (bif Nat.blt pc 26 then (bif Nat.beq pc 25 then some (.iconst 0, []) else none) else (bif Nat.beq pc 26 then some (.ireturn, []) else none))))))
set_option maxRecDepth 100000 in
theorem oX5_isTraced : xIOk cX5_isTraced iX5_isTraced := xIOk_of (N := 27) (fun pc h => xtree_none h) (by decide +kernel)
set_option maxRecDepth 100000 in
theorem yoX5_isTraced : xYOk yX5_isTraced cX5_isTraced 2 (some .boolean) 1 := ⟨by decide, xm 479 (by decide +kernel) rfl, xm 41 (by decide +kernel) rfl, by decide +kernel, by decide +kernel⟩
set_option maxRecDepth 100000 in
def iX5_boxesOfNames : Nat → Option (Instr × List Nat) := xtree 18 (fun pc => (bif Nat.blt pc 8 then (bif Nat.blt pc 4 then (bif Nat.blt pc 1 then (bif Nat.beq pc 0 then some (.aload_n 0, []) else none) else (bif Nat.beq pc 1 then some (.getfield 19, []) else none)) else (bif Nat.blt pc 5 then (bif Nat.beq pc 4 then some (.aload_n 0, []) else none) else (bif Nat.beq pc 5 then some (.getfield 12, []) else none))) else (bif Nat.blt pc 14 then (bif Nat.blt pc 11 then (bif Nat.beq pc 8 then some (.invokevirtual 165, []) else none) else (bif Nat.beq pc 11 then some (.invokevirtual 177, []) else none)) else (bif Nat.blt pc 17 then (bif Nat.beq pc 14 then some (.invokestatic 151, []) else none) else (bif Nat.beq pc 17 then some (.ireturn, []) else none)))))
set_option maxRecDepth 100000 in
theorem oX5_boxesOfNames : xIOk cX5_boxesOfNames iX5_boxesOfNames := xIOk_of (N := 18) (fun pc h => xtree_none h) (by decide +kernel)
set_option maxRecDepth 100000 in
theorem yoX5_boxesOfNames : xYOk yX5_boxesOfNames cX5_boxesOfNames 1 (some .int) 0 := ⟨by decide, xm 445 (by decide +kernel) rfl, xm 41 (by decide +kernel) rfl, by decide +kernel, by decide +kernel⟩
set_option maxRecDepth 100000 in
def iX5_isName : Nat → Option (Instr × List Nat) := xtree 16 (fun pc => (bif Nat.blt pc 7 then (bif Nat.blt pc 4 then (bif Nat.blt pc 1 then (bif Nat.beq pc 0 then some (.iload_n 0, []) else none) else (bif Nat.beq pc 1 then some (.ifCond .lt 13, [14]) else none)) else (bif Nat.blt pc 5 then (bif Nat.beq pc 4 then some (.iload_n 0, []) else none) else (bif Nat.beq pc 5 then some (.bipush 6, []) else none))) else (bif Nat.blt pc 11 then (bif Nat.blt pc 10 then (bif Nat.beq pc 7 then some (.if_icmp .ge 7, [14]) else none) else (bif Nat.beq pc 10 then some (.iconst 1, []) else none)) else (bif Nat.blt pc 14 then (bif Nat.beq pc 11 then some (.goto 4, [15]) else none) else (bif Nat.blt pc 15 then (bif Nat.beq pc 14 then some (.iconst 0, []) else none) else (bif Nat.beq pc 15 then some (.ireturn, []) else none))))))
set_option maxRecDepth 100000 in
theorem oX5_isName : xIOk cX5_isName iX5_isName := xIOk_of (N := 16) (fun pc h => xtree_none h) (by decide +kernel)
set_option maxRecDepth 100000 in
theorem yoX5_isName : xYOk yX5_isName cX5_isName 1 (some .boolean) 1 := ⟨by decide, xm 204 (by decide +kernel) rfl, xm 41 (by decide +kernel) rfl, by decide +kernel, by decide +kernel⟩
set_option maxRecDepth 100000 in
def iX5_isBox : Nat → Option (Instr × List Nat) := xtree 16 (fun pc => (bif Nat.blt pc 7 then (bif Nat.blt pc 4 then (bif Nat.blt pc 1 then (bif Nat.beq pc 0 then some (.iload_n 0, []) else none) else (bif Nat.beq pc 1 then some (.ifCond .lt 13, [14]) else none)) else (bif Nat.blt pc 5 then (bif Nat.beq pc 4 then some (.iload_n 0, []) else none) else (bif Nat.beq pc 5 then some (.bipush 10, []) else none))) else (bif Nat.blt pc 11 then (bif Nat.blt pc 10 then (bif Nat.beq pc 7 then some (.if_icmp .ge 7, [14]) else none) else (bif Nat.beq pc 10 then some (.iconst 1, []) else none)) else (bif Nat.blt pc 14 then (bif Nat.beq pc 11 then some (.goto 4, [15]) else none) else (bif Nat.blt pc 15 then (bif Nat.beq pc 14 then some (.iconst 0, []) else none) else (bif Nat.beq pc 15 then some (.ireturn, []) else none))))))
set_option maxRecDepth 100000 in
theorem oX5_isBox : xIOk cX5_isBox iX5_isBox := xIOk_of (N := 16) (fun pc h => xtree_none h) (by decide +kernel)
set_option maxRecDepth 100000 in
theorem yoX5_isBox : xYOk yX5_isBox cX5_isBox 1 (some .boolean) 1 := ⟨by decide, xm 397 (by decide +kernel) rfl, xm 41 (by decide +kernel) rfl, by decide +kernel, by decide +kernel⟩
set_option maxRecDepth 100000 in
def iX5_hasBit : Nat → Option (Instr × List Nat) := xtree 15 (fun pc => (bif Nat.blt pc 5 then (bif Nat.blt pc 2 then (bif Nat.blt pc 1 then (bif Nat.beq pc 0 then some (.iload_n 0, []) else none) else (bif Nat.beq pc 1 then some (.iload_n 1, []) else none)) else (bif Nat.blt pc 3 then (bif Nat.beq pc 2 then some (.ishr, []) else none) else (bif Nat.blt pc 4 then (bif Nat.beq pc 3 then some (.iconst 1, []) else none) else (bif Nat.beq pc 4 then some (.iand, []) else none)))) else (bif Nat.blt pc 10 then (bif Nat.blt pc 6 then (bif Nat.beq pc 5 then some (.iconst 1, []) else none) else (bif Nat.blt pc 9 then (bif Nat.beq pc 6 then some (.if_icmp .ne 7, [13]) else none) else (bif Nat.beq pc 9 then some (.iconst 1, []) else none))) else (bif Nat.blt pc 13 then (bif Nat.beq pc 10 then some (.goto 4, [14]) else none) else (bif Nat.blt pc 14 then (bif Nat.beq pc 13 then some (.iconst 0, []) else none) else (bif Nat.beq pc 14 then some (.ireturn, []) else none))))))
set_option maxRecDepth 100000 in
theorem oX5_hasBit : xIOk cX5_hasBit iX5_hasBit := xIOk_of (N := 15) (fun pc h => xtree_none h) (by decide +kernel)
set_option maxRecDepth 100000 in
theorem yoX5_hasBit : xYOk yX5_hasBit cX5_hasBit 2 (some .boolean) 2 := ⟨by decide, xm 300 (by decide +kernel) rfl, xm 41 (by decide +kernel) rfl, by decide +kernel, by decide +kernel⟩
set_option maxRecDepth 100000 in
def iX5_boxIn : Nat → Option (Instr × List Nat) := xtree 9 (fun pc => (bif Nat.blt pc 4 then (bif Nat.blt pc 2 then (bif Nat.blt pc 1 then (bif Nat.beq pc 0 then some (.iload_n 0, []) else none) else (bif Nat.beq pc 1 then some (.iload_n 1, []) else none)) else (bif Nat.blt pc 3 then (bif Nat.beq pc 2 then some (.iconst 4, []) else none) else (bif Nat.beq pc 3 then some (.imul, []) else none))) else (bif Nat.blt pc 7 then (bif Nat.blt pc 5 then (bif Nat.beq pc 4 then some (.ishr, []) else none) else (bif Nat.beq pc 5 then some (.bipush 15, []) else none)) else (bif Nat.blt pc 8 then (bif Nat.beq pc 7 then some (.iand, []) else none) else (bif Nat.beq pc 8 then some (.ireturn, []) else none)))))
set_option maxRecDepth 100000 in
theorem oX5_boxIn : xIOk cX5_boxIn iX5_boxIn := xIOk_of (N := 9) (fun pc h => xtree_none h) (by decide +kernel)
set_option maxRecDepth 100000 in
theorem yoX5_boxIn : xYOk yX5_boxIn cX5_boxIn 2 (some .int) 2 := ⟨by decide, xm 471 (by decide +kernel) rfl, xm 41 (by decide +kernel) rfl, by decide +kernel, by decide +kernel⟩
theorem loX5_46 : xLink RX5 46 yX5_isName true := ⟨xm 203 (by decide +kernel) rfl, Or.inl (xm 202 (by decide +kernel) rfl)⟩
theorem loX5_50 : xLink RX5 50 yX2_has false := ⟨xm 206 (by decide +kernel) rfl, xm 207 (by decide +kernel) rfl, xm 205 (by decide +kernel) rfl⟩
theorem loX5_54 : xLink RX5 54 yX2_length false := ⟨xm 210 (by decide +kernel) rfl, xm 211 (by decide +kernel) rfl, xm 217 (by decide +kernel) rfl⟩
theorem loX5_58 : xLink RX5 58 yX2_silents false := ⟨xm 219 (by decide +kernel) rfl, xm 220 (by decide +kernel) rfl, xm 218 (by decide +kernel) rfl⟩
theorem loX5_62 : xLink RX5 62 yX2_silentsIn false := ⟨xm 223 (by decide +kernel) rfl, xm 224 (by decide +kernel) rfl, xm 226 (by decide +kernel) rfl⟩
theorem loX5_65 : xLink RX5 65 yX2_append false := ⟨xm 228 (by decide +kernel) rfl, xm 229 (by decide +kernel) rfl, xm 227 (by decide +kernel) rfl⟩
theorem loX5_69 : xLink RX5 69 yX2_empty false := ⟨xm 236 (by decide +kernel) rfl, xm 237 (by decide +kernel) rfl, xm 235 (by decide +kernel) rfl⟩
theorem loX5_73 : xLink RX5 73 yX2_traces false := ⟨xm 244 (by decide +kernel) rfl, xm 245 (by decide +kernel) rfl, xm 243 (by decide +kernel) rfl⟩
theorem loX5_76 : xLink RX5 76 yX2_hopAt false := ⟨xm 214 (by decide +kernel) rfl, xm 215 (by decide +kernel) rfl, xm 247 (by decide +kernel) rfl⟩
theorem loX5_80 : xLink RX5 80 yX2_keepHand false := ⟨xm 249 (by decide +kernel) rfl, xm 250 (by decide +kernel) rfl, xm 248 (by decide +kernel) rfl⟩
theorem loX5_83 : xLink RX5 83 yX5_forgetAnswers false := ⟨xm 260 (by decide +kernel) rfl, xm 1 (by decide +kernel) rfl, xm 258 (by decide +kernel) rfl⟩
theorem loX5_86 : xLink RX5 86 yX5_isTrace false := ⟨xm 276 (by decide +kernel) rfl, xm 2 (by decide +kernel) rfl, xm 274 (by decide +kernel) rfl⟩
theorem loX5_89 : xLink RX5 89 yX2_remove false := ⟨xm 279 (by decide +kernel) rfl, xm 280 (by decide +kernel) rfl, xm 278 (by decide +kernel) rfl⟩
theorem loX5_92 : xLink RX5 92 yX4_areOneBox false := ⟨xm 287 (by decide +kernel) rfl, xm 288 (by decide +kernel) rfl, xm 286 (by decide +kernel) rfl⟩
theorem loX5_95 : xLink RX5 95 yX4_areToldApart false := ⟨xm 295 (by decide +kernel) rfl, xm 296 (by decide +kernel) rfl, xm 294 (by decide +kernel) rfl⟩
theorem loX5_98 : xLink RX5 98 yX4_haveBoxesApart false := ⟨xm 302 (by decide +kernel) rfl, xm 303 (by decide +kernel) rfl, xm 301 (by decide +kernel) rfl⟩
theorem loX5_101 : xLink RX5 101 yX4_add false := ⟨xm 308 (by decide +kernel) rfl, xm 309 (by decide +kernel) rfl, xm 307 (by decide +kernel) rfl⟩
theorem loX5_105 : xLink RX5 105 yX4_times false := ⟨xm 327 (by decide +kernel) rfl, xm 328 (by decide +kernel) rfl, xm 326 (by decide +kernel) rfl⟩
theorem loX5_108 : xLink RX5 108 yX4_clear false := ⟨xm 331 (by decide +kernel) rfl, xm 332 (by decide +kernel) rfl, xm 330 (by decide +kernel) rfl⟩
theorem loX5_111 : xLink RX5 111 yX0_many false := ⟨xm 346 (by decide +kernel) rfl, xm 347 (by decide +kernel) rfl, xm 345 (by decide +kernel) rfl⟩
theorem loX5_114 : xLink RX5 114 yX5_boxesOfNames false := ⟨xm 444 (by decide +kernel) rfl, xm 11 (by decide +kernel) rfl, xm 442 (by decide +kernel) rfl⟩
theorem loX5_117 : xLink RX5 117 yX0_newBoxes false := ⟨xm 450 (by decide +kernel) rfl, xm 451 (by decide +kernel) rfl, xm 449 (by decide +kernel) rfl⟩
theorem loX5_120 : xLink RX5 120 yX0_lines false := ⟨xm 454 (by decide +kernel) rfl, xm 455 (by decide +kernel) rfl, xm 453 (by decide +kernel) rfl⟩
theorem loX5_123 : xLink RX5 123 yX5_isNet false := ⟨xm 463 (by decide +kernel) rfl, xm 12 (by decide +kernel) rfl, xm 461 (by decide +kernel) rfl⟩
theorem loX5_126 : xLink RX5 126 yX0_code false := ⟨xm 466 (by decide +kernel) rfl, xm 467 (by decide +kernel) rfl, xm 465 (by decide +kernel) rfl⟩
theorem loX5_129 : xLink RX5 129 yX5_boxIn true := ⟨xm 470 (by decide +kernel) rfl, Or.inl (xm 469 (by decide +kernel) rfl)⟩
theorem loX5_132 : xLink RX5 132 yX5_isTraced false := ⟨xm 478 (by decide +kernel) rfl, xm 13 (by decide +kernel) rfl, xm 476 (by decide +kernel) rfl⟩
theorem loX5_135 : xLink RX5 135 yX4_box false := ⟨xm 291 (by decide +kernel) rfl, xm 292 (by decide +kernel) rfl, xm 481 (by decide +kernel) rfl⟩
theorem loX5_138 : xLink RX5 138 yX3_wayIn false := ⟨xm 483 (by decide +kernel) rfl, xm 484 (by decide +kernel) rfl, xm 482 (by decide +kernel) rfl⟩
theorem loX5_142 : xLink RX5 142 yX3_make false := ⟨xm 499 (by decide +kernel) rfl, xm 500 (by decide +kernel) rfl, xm 498 (by decide +kernel) rfl⟩
theorem loX5_145 : xLink RX5 145 yX3_lineBetween false := ⟨xm 538 (by decide +kernel) rfl, xm 539 (by decide +kernel) rfl, xm 537 (by decide +kernel) rfl⟩
theorem loX5_148 : xLink RX5 148 yX2_all false := ⟨xm 359 (by decide +kernel) rfl, xm 360 (by decide +kernel) rfl, xm 546 (by decide +kernel) rfl⟩
theorem loX5_151 : xLink RX5 151 yJ6_bitCount_0f7a4 true := ⟨xm 419 (by decide +kernel) rfl, Or.inl (xm 448 (by decide +kernel) rfl)⟩
theorem loX5_156 : xLink RX5 156 yX0_someFits false := ⟨xm 363 (by decide +kernel) rfl, xm 364 (by decide +kernel) rfl, xm 547 (by decide +kernel) rfl⟩
theorem loX5_159 : xLink RX5 159 yX3_bestPair false := ⟨xm 553 (by decide +kernel) rfl, xm 554 (by decide +kernel) rfl, xm 552 (by decide +kernel) rfl⟩
theorem loX5_162 : xLink RX5 162 yX3_bestHeap false := ⟨xm 561 (by decide +kernel) rfl, xm 562 (by decide +kernel) rfl, xm 560 (by decide +kernel) rfl⟩
theorem loX5_165 : xLink RX5 165 yX2_names false := ⟨xm 351 (by decide +kernel) rfl, xm 352 (by decide +kernel) rfl, xm 446 (by decide +kernel) rfl⟩
theorem loX5_168 : xLink RX5 168 yX0_forgetFound false := ⟨xm 263 (by decide +kernel) rfl, xm 264 (by decide +kernel) rfl, xm 262 (by decide +kernel) rfl⟩
theorem loX5_171 : xLink RX5 171 yX3_forgetMade false := ⟨xm 267 (by decide +kernel) rfl, xm 268 (by decide +kernel) rfl, xm 266 (by decide +kernel) rfl⟩
theorem loX5_174 : xLink RX5 174 yX5_hasBit true := ⟨xm 299 (by decide +kernel) rfl, Or.inl (xm 480 (by decide +kernel) rfl)⟩
theorem loX5_177 : xLink RX5 177 yX4_boxes false := ⟨xm 355 (by decide +kernel) rfl, xm 356 (by decide +kernel) rfl, xm 447 (by decide +kernel) rfl⟩
end
section
theorem inX6 : ∀ w ∈ u_ws RX6 TX6 21, w ∈ xtb := fun w h => List.mem_filter.mpr ⟨(show ∀ w ∈ u_ws RX6 TX6 21, w ∈ lw_tbl by decide +kernel) w h, (show ∀ w ∈ u_ws RX6 TX6 21, goodWord w = true by decide +kernel) w h⟩
def fldX6 : xFld := [(52, 6, 0, 0), (7, 6, 1, 2), (13, 6, 2, 2), (64, 6, 3, 0), (16, 6, 4, 2), (19, 6, 5, 2), (22, 6, 6, 2), (71, 6, 7, 0), (26, 6, 8, 2), (29, 6, 9, 2), (32, 6, 10, 2), (35, 6, 11, 2), (91, 6, 12, 0), (97, 6, 13, 0), (103, 6, 14, 0), (106, 6, 15, 0), (38, 6, 16, 2), (42, 6, 17, 2), (45, 6, 18, 2), (139, 6, 19, 0), (145, 6, 20, 0)]
theorem foX6 : ∀ q ∈ fldX6, xFOk RX6 q := List.forall_mem_cons.mpr ⟨⟨RX6, TX6, 21, tyX6, rfl, by decide, by decide, inX6, xm 575 (by decide +kernel) rfl, tyX6_ok, nmX6, by decide, by decide⟩, List.forall_mem_cons.mpr ⟨⟨RX6, TX6, 21, tyX6, rfl, by decide, by decide, inX6, xm 576 (by decide +kernel) rfl, tyX6_ok, nmX6, by decide, by decide⟩, List.forall_mem_cons.mpr ⟨⟨RX6, TX6, 21, tyX6, rfl, by decide, by decide, inX6, xm 577 (by decide +kernel) rfl, tyX6_ok, nmX6, by decide, by decide⟩, List.forall_mem_cons.mpr ⟨⟨RX6, TX6, 21, tyX6, rfl, by decide, by decide, inX6, xm 578 (by decide +kernel) rfl, tyX6_ok, nmX6, by decide, by decide⟩, List.forall_mem_cons.mpr ⟨⟨RX6, TX6, 21, tyX6, rfl, by decide, by decide, inX6, xm 579 (by decide +kernel) rfl, tyX6_ok, nmX6, by decide, by decide⟩, List.forall_mem_cons.mpr ⟨⟨RX6, TX6, 21, tyX6, rfl, by decide, by decide, inX6, xm 580 (by decide +kernel) rfl, tyX6_ok, nmX6, by decide, by decide⟩, List.forall_mem_cons.mpr ⟨⟨RX6, TX6, 21, tyX6, rfl, by decide, by decide, inX6, xm 581 (by decide +kernel) rfl, tyX6_ok, nmX6, by decide, by decide⟩, List.forall_mem_cons.mpr ⟨⟨RX6, TX6, 21, tyX6, rfl, by decide, by decide, inX6, xm 582 (by decide +kernel) rfl, tyX6_ok, nmX6, by decide, by decide⟩, List.forall_mem_cons.mpr ⟨⟨RX6, TX6, 21, tyX6, rfl, by decide, by decide, inX6, xm 583 (by decide +kernel) rfl, tyX6_ok, nmX6, by decide, by decide⟩, List.forall_mem_cons.mpr ⟨⟨RX6, TX6, 21, tyX6, rfl, by decide, by decide, inX6, xm 584 (by decide +kernel) rfl, tyX6_ok, nmX6, by decide, by decide⟩, List.forall_mem_cons.mpr ⟨⟨RX6, TX6, 21, tyX6, rfl, by decide, by decide, inX6, xm 585 (by decide +kernel) rfl, tyX6_ok, nmX6, by decide, by decide⟩, List.forall_mem_cons.mpr ⟨⟨RX6, TX6, 21, tyX6, rfl, by decide, by decide, inX6, xm 586 (by decide +kernel) rfl, tyX6_ok, nmX6, by decide, by decide⟩, List.forall_mem_cons.mpr ⟨⟨RX6, TX6, 21, tyX6, rfl, by decide, by decide, inX6, xm 587 (by decide +kernel) rfl, tyX6_ok, nmX6, by decide, by decide⟩, List.forall_mem_cons.mpr ⟨⟨RX6, TX6, 21, tyX6, rfl, by decide, by decide, inX6, xm 588 (by decide +kernel) rfl, tyX6_ok, nmX6, by decide, by decide⟩, List.forall_mem_cons.mpr ⟨⟨RX6, TX6, 21, tyX6, rfl, by decide, by decide, inX6, xm 589 (by decide +kernel) rfl, tyX6_ok, nmX6, by decide, by decide⟩, List.forall_mem_cons.mpr ⟨⟨RX6, TX6, 21, tyX6, rfl, by decide, by decide, inX6, xm 590 (by decide +kernel) rfl, tyX6_ok, nmX6, by decide, by decide⟩, List.forall_mem_cons.mpr ⟨⟨RX6, TX6, 21, tyX6, rfl, by decide, by decide, inX6, xm 591 (by decide +kernel) rfl, tyX6_ok, nmX6, by decide, by decide⟩, List.forall_mem_cons.mpr ⟨⟨RX6, TX6, 21, tyX6, rfl, by decide, by decide, inX6, xm 592 (by decide +kernel) rfl, tyX6_ok, nmX6, by decide, by decide⟩, List.forall_mem_cons.mpr ⟨⟨RX6, TX6, 21, tyX6, rfl, by decide, by decide, inX6, xm 593 (by decide +kernel) rfl, tyX6_ok, nmX6, by decide, by decide⟩, List.forall_mem_cons.mpr ⟨⟨RX6, TX6, 21, tyX6, rfl, by decide, by decide, inX6, xm 594 (by decide +kernel) rfl, tyX6_ok, nmX6, by decide, by decide⟩, List.forall_mem_cons.mpr ⟨⟨RX6, TX6, 21, tyX6, rfl, by decide, by decide, inX6, xm 595 (by decide +kernel) rfl, tyX6_ok, nmX6, by decide, by decide⟩, fun _ h => absurd h List.not_mem_nil⟩⟩⟩⟩⟩⟩⟩⟩⟩⟩⟩⟩⟩⟩⟩⟩⟩⟩⟩⟩⟩
set_option maxRecDepth 100000 in
def iX6_in : Nat → Option (Instr × List Nat) := xtree 16 (fun pc => (bif Nat.blt pc 7 then (bif Nat.blt pc 2 then (bif Nat.blt pc 1 then (bif Nat.beq pc 0 then some (.iload_n 0, []) else none) else (bif Nat.beq pc 1 then some (.iload_n 1, []) else none)) else (bif Nat.blt pc 5 then (bif Nat.beq pc 2 then some (.if_icmp .lt 12, [14]) else none) else (bif Nat.blt pc 6 then (bif Nat.beq pc 5 then some (.iload_n 0, []) else none) else (bif Nat.beq pc 6 then some (.iload_n 2, []) else none)))) else (bif Nat.blt pc 11 then (bif Nat.blt pc 10 then (bif Nat.beq pc 7 then some (.if_icmp .gt 7, [14]) else none) else (bif Nat.beq pc 10 then some (.iconst 1, []) else none)) else (bif Nat.blt pc 14 then (bif Nat.beq pc 11 then some (.goto 4, [15]) else none) else (bif Nat.blt pc 15 then (bif Nat.beq pc 14 then some (.iconst 0, []) else none) else (bif Nat.beq pc 15 then some (.ireturn, []) else none))))))
set_option maxRecDepth 100000 in
theorem oX6_in : xIOk cX6_in iX6_in := xIOk_of (N := 16) (fun pc h => xtree_none h) (by decide +kernel)
set_option maxRecDepth 100000 in
theorem yoX6_in : xYOk yX6_in cX6_in 3 (some .boolean) 3 := ⟨by decide, xm 646 (by decide +kernel) rfl, xm 47 (by decide +kernel) rfl, by decide +kernel, by decide +kernel⟩
set_option maxRecDepth 100000 in
def iX6_isName : Nat → Option (Instr × List Nat) := xtree 7 (fun pc => (bif Nat.blt pc 2 then (bif Nat.blt pc 1 then (bif Nat.beq pc 0 then some (.iload_n 0, []) else none) else (bif Nat.beq pc 1 then some (.iconst 0, []) else none)) else (bif Nat.blt pc 3 then (bif Nat.beq pc 2 then some (.iconst 5, []) else none) else (bif Nat.blt pc 6 then (bif Nat.beq pc 3 then some (.invokestatic 48, []) else none) else (bif Nat.beq pc 6 then some (.ireturn, []) else none)))))
set_option maxRecDepth 100000 in
theorem oX6_isName : xIOk cX6_isName iX6_isName := xIOk_of (N := 7) (fun pc h => xtree_none h) (by decide +kernel)
set_option maxRecDepth 100000 in
theorem yoX6_isName : xYOk yX6_isName cX6_isName 1 (some .boolean) 1 := ⟨by decide, xm 673 (by decide +kernel) rfl, xm 47 (by decide +kernel) rfl, by decide +kernel, by decide +kernel⟩
set_option maxRecDepth 100000 in
def iX6_silentOf : Nat → Option (Instr × List Nat) := xtree 45 (fun pc => (bif Nat.blt pc 22 then (bif Nat.blt pc 9 then (bif Nat.blt pc 3 then (bif Nat.blt pc 1 then (bif Nat.beq pc 0 then some (.iconst 0, []) else none) else (bif Nat.blt pc 2 then (bif Nat.beq pc 1 then some (.istore_n 2, []) else none) else (bif Nat.beq pc 2 then some (.iconst 0, []) else none))) else (bif Nat.blt pc 5 then (bif Nat.blt pc 4 then (bif Nat.beq pc 3 then some (.istore_n 3, []) else none) else (bif Nat.beq pc 4 then some (.iload_n 3, []) else none)) else (bif Nat.blt pc 6 then (bif Nat.beq pc 5 then some (.aload_n 0, []) else none) else (bif Nat.beq pc 6 then some (.getfield 7, []) else none)))) else (bif Nat.blt pc 15 then (bif Nat.blt pc 11 then (bif Nat.blt pc 10 then (bif Nat.beq pc 9 then some (.iload_n 1, []) else none) else (bif Nat.beq pc 10 then some (.iaload, []) else none)) else (bif Nat.blt pc 14 then (bif Nat.beq pc 11 then some (.if_icmp .ge 32, [43]) else none) else (bif Nat.beq pc 14 then some (.iload_n 2, []) else none))) else (bif Nat.blt pc 19 then (bif Nat.blt pc 16 then (bif Nat.beq pc 15 then some (.aload_n 0, []) else none) else (bif Nat.beq pc 16 then some (.getfield 13, []) else none)) else (bif Nat.blt pc 21 then (bif Nat.beq pc 19 then some (.bipush 6, []) else none) else (bif Nat.beq pc 21 then some (.iload_n 1, []) else none))))) else (bif Nat.blt pc 31 then (bif Nat.blt pc 25 then (bif Nat.blt pc 23 then (bif Nat.beq pc 22 then some (.imul, []) else none) else (bif Nat.blt pc 24 then (bif Nat.beq pc 23 then some (.iload_n 3, []) else none) else (bif Nat.beq pc 24 then some (.iadd, []) else none))) else (bif Nat.blt pc 27 then (bif Nat.blt pc 26 then (bif Nat.beq pc 25 then some (.iaload, []) else none) else (bif Nat.beq pc 26 then some (.iconst (-1), []) else none)) else (bif Nat.blt pc 30 then (bif Nat.beq pc 27 then some (.if_icmp .ne 7, [34]) else none) else (bif Nat.beq pc 30 then some (.iconst 1, []) else none)))) else (bif Nat.blt pc 37 then (bif Nat.blt pc 35 then (bif Nat.blt pc 34 then (bif Nat.beq pc 31 then some (.goto 4, [35]) else none) else (bif Nat.beq pc 34 then some (.iconst 0, []) else none)) else (bif Nat.blt pc 36 then (bif Nat.beq pc 35 then some (.iadd, []) else none) else (bif Nat.beq pc 36 then some (.istore_n 2, []) else none))) else (bif Nat.blt pc 43 then (bif Nat.blt pc 40 then (bif Nat.beq pc 37 then some (.iinc 3 1, []) else none) else (bif Nat.beq pc 40 then some (.goto (-36), [4]) else none)) else (bif Nat.blt pc 44 then (bif Nat.beq pc 43 then some (.iload_n 2, []) else none) else (bif Nat.beq pc 44 then some (.ireturn, []) else none)))))))
set_option maxRecDepth 100000 in
theorem oX6_silentOf : xIOk cX6_silentOf iX6_silentOf := xIOk_of (N := 45) (fun pc h => xtree_none h) (by decide +kernel)
set_option maxRecDepth 100000 in
theorem yoX6_silentOf : xYOk yX6_silentOf cX6_silentOf 4 (some .int) 1 := ⟨by decide, xm 654 (by decide +kernel) rfl, xm 47 (by decide +kernel) rfl, by decide +kernel, by decide +kernel⟩
set_option maxRecDepth 100000 in
def iX6_silentMany : Nat → Option (Instr × List Nat) := xtree 28 (fun pc => (bif Nat.blt pc 13 then (bif Nat.blt pc 4 then (bif Nat.blt pc 2 then (bif Nat.blt pc 1 then (bif Nat.beq pc 0 then some (.iconst 0, []) else none) else (bif Nat.beq pc 1 then some (.istore_n 1, []) else none)) else (bif Nat.blt pc 3 then (bif Nat.beq pc 2 then some (.iconst 0, []) else none) else (bif Nat.beq pc 3 then some (.istore_n 2, []) else none))) else (bif Nat.blt pc 6 then (bif Nat.blt pc 5 then (bif Nat.beq pc 4 then some (.iload_n 2, []) else none) else (bif Nat.beq pc 5 then some (.aload_n 0, []) else none)) else (bif Nat.blt pc 9 then (bif Nat.beq pc 6 then some (.getfield 52, []) else none) else (bif Nat.blt pc 12 then (bif Nat.beq pc 9 then some (.if_icmp .ge 17, [26]) else none) else (bif Nat.beq pc 12 then some (.iload_n 1, []) else none))))) else (bif Nat.blt pc 19 then (bif Nat.blt pc 15 then (bif Nat.blt pc 14 then (bif Nat.beq pc 13 then some (.aload_n 0, []) else none) else (bif Nat.beq pc 14 then some (.iload_n 2, []) else none)) else (bif Nat.blt pc 18 then (bif Nat.beq pc 15 then some (.invokevirtual 56, []) else none) else (bif Nat.beq pc 18 then some (.iadd, []) else none))) else (bif Nat.blt pc 23 then (bif Nat.blt pc 20 then (bif Nat.beq pc 19 then some (.istore_n 1, []) else none) else (bif Nat.beq pc 20 then some (.iinc 2 1, []) else none)) else (bif Nat.blt pc 26 then (bif Nat.beq pc 23 then some (.goto (-19), [4]) else none) else (bif Nat.blt pc 27 then (bif Nat.beq pc 26 then some (.iload_n 1, []) else none) else (bif Nat.beq pc 27 then some (.ireturn, []) else none)))))))
set_option maxRecDepth 100000 in
theorem oX6_silentMany : xIOk cX6_silentMany iX6_silentMany := xIOk_of (N := 28) (fun pc h => xtree_none h) (by decide +kernel)
set_option maxRecDepth 100000 in
theorem yoX6_silentMany : xYOk yX6_silentMany cX6_silentMany 3 (some .int) 0 := ⟨by decide, xm 650 (by decide +kernel) rfl, xm 47 (by decide +kernel) rfl, by decide +kernel, by decide +kernel⟩
set_option maxRecDepth 100000 in
def iX6_hop : Nat → Option (Instr × List Nat) := xtree 116 (fun pc => (bif Nat.blt pc 56 then (bif Nat.blt pc 28 then (bif Nat.blt pc 13 then (bif Nat.blt pc 6 then (bif Nat.blt pc 2 then (bif Nat.blt pc 1 then (bif Nat.beq pc 0 then some (.iload_n 1, []) else none) else (bif Nat.beq pc 1 then some (.iconst (-1), []) else none)) else (bif Nat.blt pc 3 then (bif Nat.beq pc 2 then some (.iconst 5, []) else none) else (bif Nat.beq pc 3 then some (.invokestatic 48, []) else none))) else (bif Nat.blt pc 11 then (bif Nat.blt pc 9 then (bif Nat.beq pc 6 then some (.ifCond .ne 6, [12]) else none) else (bif Nat.beq pc 9 then some (.bipush (-2), []) else none)) else (bif Nat.blt pc 12 then (bif Nat.beq pc 11 then some (.ireturn, []) else none) else (bif Nat.beq pc 12 then some (.aload_n 0, []) else none)))) else (bif Nat.blt pc 19 then (bif Nat.blt pc 17 then (bif Nat.blt pc 16 then (bif Nat.beq pc 13 then some (.invokevirtual 60, []) else none) else (bif Nat.beq pc 16 then some (.istore_n 2, []) else none)) else (bif Nat.blt pc 18 then (bif Nat.beq pc 17 then some (.iconst 0, []) else none) else (bif Nat.beq pc 18 then some (.istore_n 3, []) else none))) else (bif Nat.blt pc 21 then (bif Nat.blt pc 20 then (bif Nat.beq pc 19 then some (.iload_n 3, []) else none) else (bif Nat.beq pc 20 then some (.aload_n 0, []) else none)) else (bif Nat.blt pc 24 then (bif Nat.beq pc 21 then some (.getfield 64, []) else none) else (bif Nat.blt pc 27 then (bif Nat.beq pc 24 then some (.if_icmp .ge 45, [69]) else none) else (bif Nat.beq pc 27 then some (.iload_n 1, []) else none)))))) else (bif Nat.blt pc 42 then (bif Nat.blt pc 36 then (bif Nat.blt pc 32 then (bif Nat.blt pc 29 then (bif Nat.beq pc 28 then some (.iconst (-1), []) else none) else (bif Nat.beq pc 29 then some (.if_icmp .eq 16, [45]) else none)) else (bif Nat.blt pc 33 then (bif Nat.beq pc 32 then some (.aload_n 0, []) else none) else (bif Nat.beq pc 33 then some (.getfield 16, []) else none))) else (bif Nat.blt pc 38 then (bif Nat.blt pc 37 then (bif Nat.beq pc 36 then some (.iload_n 3, []) else none) else (bif Nat.beq pc 37 then some (.iaload, []) else none)) else (bif Nat.blt pc 39 then (bif Nat.beq pc 38 then some (.iload_n 1, []) else none) else (bif Nat.beq pc 39 then some (.if_icmp .ne 6, [45]) else none)))) else (bif Nat.blt pc 47 then (bif Nat.blt pc 45 then (bif Nat.blt pc 44 then (bif Nat.beq pc 42 then some (.bipush (-3), []) else none) else (bif Nat.beq pc 44 then some (.ireturn, []) else none)) else (bif Nat.blt pc 46 then (bif Nat.beq pc 45 then some (.iload_n 2, []) else none) else (bif Nat.beq pc 46 then some (.aload_n 0, []) else none))) else (bif Nat.blt pc 51 then (bif Nat.blt pc 50 then (bif Nat.beq pc 47 then some (.getfield 16, []) else none) else (bif Nat.beq pc 50 then some (.iload_n 3, []) else none)) else (bif Nat.blt pc 52 then (bif Nat.beq pc 51 then some (.iaload, []) else none) else (bif Nat.blt pc 53 then (bif Nat.beq pc 52 then some (.iconst (-1), []) else none) else (bif Nat.beq pc 53 then some (.if_icmp .ne 7, [60]) else none))))))) else (bif Nat.blt pc 88 then (bif Nat.blt pc 70 then (bif Nat.blt pc 62 then (bif Nat.blt pc 60 then (bif Nat.blt pc 57 then (bif Nat.beq pc 56 then some (.iconst 1, []) else none) else (bif Nat.beq pc 57 then some (.goto 4, [61]) else none)) else (bif Nat.blt pc 61 then (bif Nat.beq pc 60 then some (.iconst 0, []) else none) else (bif Nat.beq pc 61 then some (.iadd, []) else none))) else (bif Nat.blt pc 66 then (bif Nat.blt pc 63 then (bif Nat.beq pc 62 then some (.istore_n 2, []) else none) else (bif Nat.beq pc 63 then some (.iinc 3 1, []) else none)) else (bif Nat.blt pc 69 then (bif Nat.beq pc 66 then some (.goto (-47), [19]) else none) else (bif Nat.beq pc 69 then some (.aload_n 0, []) else none)))) else (bif Nat.blt pc 79 then (bif Nat.blt pc 75 then (bif Nat.blt pc 73 then (bif Nat.beq pc 70 then some (.getfield 64, []) else none) else (bif Nat.beq pc 73 then some (.bipush 6, []) else none)) else (bif Nat.blt pc 78 then (bif Nat.beq pc 75 then some (.if_icmp .eq 13, [88]) else none) else (bif Nat.beq pc 78 then some (.iload_n 1, []) else none))) else (bif Nat.blt pc 83 then (bif Nat.blt pc 80 then (bif Nat.beq pc 79 then some (.iconst (-1), []) else none) else (bif Nat.beq pc 80 then some (.if_icmp .ne 11, [91]) else none)) else (bif Nat.blt pc 84 then (bif Nat.beq pc 83 then some (.iload_n 2, []) else none) else (bif Nat.blt pc 85 then (bif Nat.beq pc 84 then some (.iconst 4, []) else none) else (bif Nat.beq pc 85 then some (.if_icmp .ne 6, [91]) else none)))))) else (bif Nat.blt pc 101 then (bif Nat.blt pc 95 then (bif Nat.blt pc 91 then (bif Nat.blt pc 90 then (bif Nat.beq pc 88 then some (.bipush (-5), []) else none) else (bif Nat.beq pc 90 then some (.ireturn, []) else none)) else (bif Nat.blt pc 92 then (bif Nat.beq pc 91 then some (.aload_n 0, []) else none) else (bif Nat.beq pc 92 then some (.getfield 16, []) else none))) else (bif Nat.blt pc 99 then (bif Nat.blt pc 96 then (bif Nat.beq pc 95 then some (.aload_n 0, []) else none) else (bif Nat.beq pc 96 then some (.getfield 64, []) else none)) else (bif Nat.blt pc 100 then (bif Nat.beq pc 99 then some (.iload_n 1, []) else none) else (bif Nat.beq pc 100 then some (.iastore, []) else none)))) else (bif Nat.blt pc 107 then (bif Nat.blt pc 103 then (bif Nat.blt pc 102 then (bif Nat.beq pc 101 then some (.aload_n 0, []) else none) else (bif Nat.beq pc 102 then some (.dup, []) else none)) else (bif Nat.blt pc 106 then (bif Nat.beq pc 103 then some (.getfield 64, []) else none) else (bif Nat.beq pc 106 then some (.iconst 1, []) else none))) else (bif Nat.blt pc 111 then (bif Nat.blt pc 108 then (bif Nat.beq pc 107 then some (.iadd, []) else none) else (bif Nat.beq pc 108 then some (.putfield 64, []) else none)) else (bif Nat.blt pc 112 then (bif Nat.beq pc 111 then some (.aload_n 0, []) else none) else (bif Nat.blt pc 115 then (bif Nat.beq pc 112 then some (.getfield 64, []) else none) else (bif Nat.beq pc 115 then some (.ireturn, []) else none)))))))))
set_option maxRecDepth 100000 in
theorem oX6_hop : xIOk cX6_hop iX6_hop := xIOk_of (N := 116) (fun pc h => xtree_none h) (by decide +kernel)
set_option maxRecDepth 100000 in
theorem yoX6_hop : xYOk yX6_hop cX6_hop 4 (some .int) 1 := ⟨by decide, xm 643 (by decide +kernel) rfl, xm 47 (by decide +kernel) rfl, by decide +kernel, by decide +kernel⟩
set_option maxRecDepth 100000 in
def iX6_drop : Nat → Option (Instr × List Nat) := xtree 12 (fun pc => (bif Nat.blt pc 6 then (bif Nat.blt pc 4 then (bif Nat.blt pc 1 then (bif Nat.beq pc 0 then some (.aload_n 0, []) else none) else (bif Nat.beq pc 1 then some (.getfield 64, []) else none)) else (bif Nat.blt pc 5 then (bif Nat.beq pc 4 then some (.istore_n 1, []) else none) else (bif Nat.beq pc 5 then some (.aload_n 0, []) else none))) else (bif Nat.blt pc 10 then (bif Nat.blt pc 7 then (bif Nat.beq pc 6 then some (.iconst 0, []) else none) else (bif Nat.beq pc 7 then some (.putfield 64, []) else none)) else (bif Nat.blt pc 11 then (bif Nat.beq pc 10 then some (.iload_n 1, []) else none) else (bif Nat.beq pc 11 then some (.ireturn, []) else none)))))
set_option maxRecDepth 100000 in
theorem oX6_drop : xIOk cX6_drop iX6_drop := xIOk_of (N := 12) (fun pc h => xtree_none h) (by decide +kernel)
set_option maxRecDepth 100000 in
theorem yoX6_drop : xYOk yX6_drop cX6_drop 2 (some .int) 0 := ⟨by decide, xm 658 (by decide +kernel) rfl, xm 47 (by decide +kernel) rfl, by decide +kernel, by decide +kernel⟩
set_option maxRecDepth 100000 in
def iX6_trace : Nat → Option (Instr × List Nat) := xtree 119 (fun pc => (bif Nat.blt pc 59 then (bif Nat.blt pc 31 then (bif Nat.blt pc 16 then (bif Nat.blt pc 9 then (bif Nat.blt pc 4 then (bif Nat.blt pc 1 then (bif Nat.beq pc 0 then some (.aload_n 0, []) else none) else (bif Nat.beq pc 1 then some (.getfield 52, []) else none)) else (bif Nat.blt pc 6 then (bif Nat.beq pc 4 then some (.bipush 6, []) else none) else (bif Nat.beq pc 6 then some (.if_icmp .ne 6, [12]) else none))) else (bif Nat.blt pc 12 then (bif Nat.blt pc 11 then (bif Nat.beq pc 9 then some (.bipush (-5), []) else none) else (bif Nat.beq pc 11 then some (.ireturn, []) else none)) else (bif Nat.blt pc 13 then (bif Nat.beq pc 12 then some (.aload_n 0, []) else none) else (bif Nat.beq pc 13 then some (.getfield 64, []) else none)))) else (bif Nat.blt pc 24 then (bif Nat.blt pc 20 then (bif Nat.blt pc 17 then (bif Nat.beq pc 16 then some (.iconst 2, []) else none) else (bif Nat.beq pc 17 then some (.if_icmp .lt 28, [45]) else none)) else (bif Nat.blt pc 21 then (bif Nat.beq pc 20 then some (.aload_n 0, []) else none) else (bif Nat.beq pc 21 then some (.getfield 16, []) else none))) else (bif Nat.blt pc 26 then (bif Nat.blt pc 25 then (bif Nat.beq pc 24 then some (.iconst 0, []) else none) else (bif Nat.beq pc 25 then some (.iaload, []) else none)) else (bif Nat.blt pc 27 then (bif Nat.beq pc 26 then some (.iconst (-1), []) else none) else (bif Nat.blt pc 30 then (bif Nat.beq pc 27 then some (.if_icmp .eq 18, [45]) else none) else (bif Nat.beq pc 30 then some (.aload_n 0, []) else none)))))) else (bif Nat.blt pc 45 then (bif Nat.blt pc 39 then (bif Nat.blt pc 35 then (bif Nat.blt pc 34 then (bif Nat.beq pc 31 then some (.getfield 16, []) else none) else (bif Nat.beq pc 34 then some (.aload_n 0, []) else none)) else (bif Nat.blt pc 38 then (bif Nat.beq pc 35 then some (.getfield 64, []) else none) else (bif Nat.beq pc 38 then some (.iconst 1, []) else none))) else (bif Nat.blt pc 41 then (bif Nat.blt pc 40 then (bif Nat.beq pc 39 then some (.isub, []) else none) else (bif Nat.beq pc 40 then some (.iaload, []) else none)) else (bif Nat.blt pc 42 then (bif Nat.beq pc 41 then some (.iconst (-1), []) else none) else (bif Nat.beq pc 42 then some (.if_icmp .ne 6, [48]) else none)))) else (bif Nat.blt pc 50 then (bif Nat.blt pc 48 then (bif Nat.blt pc 47 then (bif Nat.beq pc 45 then some (.bipush (-6), []) else none) else (bif Nat.beq pc 47 then some (.ireturn, []) else none)) else (bif Nat.blt pc 49 then (bif Nat.beq pc 48 then some (.iconst 0, []) else none) else (bif Nat.beq pc 49 then some (.istore_n 1, []) else none))) else (bif Nat.blt pc 52 then (bif Nat.blt pc 51 then (bif Nat.beq pc 50 then some (.iload_n 1, []) else none) else (bif Nat.beq pc 51 then some (.aload_n 0, []) else none)) else (bif Nat.blt pc 55 then (bif Nat.beq pc 52 then some (.getfield 64, []) else none) else (bif Nat.blt pc 58 then (bif Nat.beq pc 55 then some (.if_icmp .ge 29, [84]) else none) else (bif Nat.beq pc 58 then some (.aload_n 0, []) else none))))))) else (bif Nat.blt pc 89 then (bif Nat.blt pc 72 then (bif Nat.blt pc 68 then (bif Nat.blt pc 64 then (bif Nat.blt pc 62 then (bif Nat.beq pc 59 then some (.getfield 13, []) else none) else (bif Nat.beq pc 62 then some (.bipush 6, []) else none)) else (bif Nat.blt pc 65 then (bif Nat.beq pc 64 then some (.aload_n 0, []) else none) else (bif Nat.beq pc 65 then some (.getfield 52, []) else none))) else (bif Nat.blt pc 70 then (bif Nat.blt pc 69 then (bif Nat.beq pc 68 then some (.imul, []) else none) else (bif Nat.beq pc 69 then some (.iload_n 1, []) else none)) else (bif Nat.blt pc 71 then (bif Nat.beq pc 70 then some (.iadd, []) else none) else (bif Nat.beq pc 71 then some (.aload_n 0, []) else none)))) else (bif Nat.blt pc 78 then (bif Nat.blt pc 76 then (bif Nat.blt pc 75 then (bif Nat.beq pc 72 then some (.getfield 16, []) else none) else (bif Nat.beq pc 75 then some (.iload_n 1, []) else none)) else (bif Nat.blt pc 77 then (bif Nat.beq pc 76 then some (.iaload, []) else none) else (bif Nat.beq pc 77 then some (.iastore, []) else none))) else (bif Nat.blt pc 84 then (bif Nat.blt pc 81 then (bif Nat.beq pc 78 then some (.iinc 1 1, []) else none) else (bif Nat.beq pc 81 then some (.goto (-31), [50]) else none)) else (bif Nat.blt pc 85 then (bif Nat.beq pc 84 then some (.aload_n 0, []) else none) else (bif Nat.blt pc 88 then (bif Nat.beq pc 85 then some (.getfield 7, []) else none) else (bif Nat.beq pc 88 then some (.aload_n 0, []) else none)))))) else (bif Nat.blt pc 104 then (bif Nat.blt pc 97 then (bif Nat.blt pc 93 then (bif Nat.blt pc 92 then (bif Nat.beq pc 89 then some (.getfield 52, []) else none) else (bif Nat.beq pc 92 then some (.aload_n 0, []) else none)) else (bif Nat.blt pc 96 then (bif Nat.beq pc 93 then some (.getfield 64, []) else none) else (bif Nat.beq pc 96 then some (.iastore, []) else none))) else (bif Nat.blt pc 99 then (bif Nat.blt pc 98 then (bif Nat.beq pc 97 then some (.aload_n 0, []) else none) else (bif Nat.beq pc 98 then some (.iconst 0, []) else none)) else (bif Nat.blt pc 102 then (bif Nat.beq pc 99 then some (.putfield 64, []) else none) else (bif Nat.blt pc 103 then (bif Nat.beq pc 102 then some (.aload_n 0, []) else none) else (bif Nat.beq pc 103 then some (.dup, []) else none))))) else (bif Nat.blt pc 112 then (bif Nat.blt pc 108 then (bif Nat.blt pc 107 then (bif Nat.beq pc 104 then some (.getfield 52, []) else none) else (bif Nat.beq pc 107 then some (.iconst 1, []) else none)) else (bif Nat.blt pc 109 then (bif Nat.beq pc 108 then some (.iadd, []) else none) else (bif Nat.beq pc 109 then some (.putfield 52, []) else none))) else (bif Nat.blt pc 116 then (bif Nat.blt pc 113 then (bif Nat.beq pc 112 then some (.aload_n 0, []) else none) else (bif Nat.beq pc 113 then some (.getfield 52, []) else none)) else (bif Nat.blt pc 117 then (bif Nat.beq pc 116 then some (.iconst 1, []) else none) else (bif Nat.blt pc 118 then (bif Nat.beq pc 117 then some (.isub, []) else none) else (bif Nat.beq pc 118 then some (.ireturn, []) else none)))))))))
set_option maxRecDepth 100000 in
theorem oX6_trace : xIOk cX6_trace iX6_trace := xIOk_of (N := 119) (fun pc h => xtree_none h) (by decide +kernel)
set_option maxRecDepth 100000 in
theorem yoX6_trace : xYOk yX6_trace cX6_trace 2 (some .int) 0 := ⟨by decide, xm 662 (by decide +kernel) rfl, xm 47 (by decide +kernel) rfl, by decide +kernel, by decide +kernel⟩
set_option maxRecDepth 100000 in
def iX6_forget : Nat → Option (Instr × List Nat) := xtree 100 (fun pc => (bif Nat.blt pc 50 then (bif Nat.blt pc 24 then (bif Nat.blt pc 11 then (bif Nat.blt pc 3 then (bif Nat.blt pc 1 then (bif Nat.beq pc 0 then some (.iload_n 1, []) else none) else (bif Nat.blt pc 2 then (bif Nat.beq pc 1 then some (.iconst 0, []) else none) else (bif Nat.beq pc 2 then some (.aload_n 0, []) else none))) else (bif Nat.blt pc 7 then (bif Nat.blt pc 6 then (bif Nat.beq pc 3 then some (.getfield 52, []) else none) else (bif Nat.beq pc 6 then some (.iconst 1, []) else none)) else (bif Nat.blt pc 8 then (bif Nat.beq pc 7 then some (.isub, []) else none) else (bif Nat.beq pc 8 then some (.invokestatic 48, []) else none)))) else (bif Nat.blt pc 18 then (bif Nat.blt pc 16 then (bif Nat.blt pc 14 then (bif Nat.beq pc 11 then some (.ifCond .ne 6, [17]) else none) else (bif Nat.beq pc 14 then some (.bipush (-2), []) else none)) else (bif Nat.blt pc 17 then (bif Nat.beq pc 16 then some (.ireturn, []) else none) else (bif Nat.beq pc 17 then some (.aload_n 0, []) else none))) else (bif Nat.blt pc 22 then (bif Nat.blt pc 19 then (bif Nat.beq pc 18 then some (.dup, []) else none) else (bif Nat.beq pc 19 then some (.getfield 52, []) else none)) else (bif Nat.blt pc 23 then (bif Nat.beq pc 22 then some (.iconst 1, []) else none) else (bif Nat.beq pc 23 then some (.isub, []) else none))))) else (bif Nat.blt pc 38 then (bif Nat.blt pc 30 then (bif Nat.blt pc 28 then (bif Nat.blt pc 27 then (bif Nat.beq pc 24 then some (.putfield 52, []) else none) else (bif Nat.beq pc 27 then some (.iload_n 1, []) else none)) else (bif Nat.blt pc 29 then (bif Nat.beq pc 28 then some (.istore_n 2, []) else none) else (bif Nat.beq pc 29 then some (.iload_n 2, []) else none))) else (bif Nat.blt pc 34 then (bif Nat.blt pc 31 then (bif Nat.beq pc 30 then some (.aload_n 0, []) else none) else (bif Nat.beq pc 31 then some (.getfield 52, []) else none)) else (bif Nat.blt pc 37 then (bif Nat.beq pc 34 then some (.if_icmp .ge 61, [95]) else none) else (bif Nat.beq pc 37 then some (.aload_n 0, []) else none)))) else (bif Nat.blt pc 46 then (bif Nat.blt pc 42 then (bif Nat.blt pc 41 then (bif Nat.beq pc 38 then some (.getfield 7, []) else none) else (bif Nat.beq pc 41 then some (.iload_n 2, []) else none)) else (bif Nat.blt pc 43 then (bif Nat.beq pc 42 then some (.aload_n 0, []) else none) else (bif Nat.beq pc 43 then some (.getfield 7, []) else none))) else (bif Nat.blt pc 48 then (bif Nat.blt pc 47 then (bif Nat.beq pc 46 then some (.iload_n 2, []) else none) else (bif Nat.beq pc 47 then some (.iconst 1, []) else none)) else (bif Nat.blt pc 49 then (bif Nat.beq pc 48 then some (.iadd, []) else none) else (bif Nat.beq pc 49 then some (.iaload, []) else none)))))) else (bif Nat.blt pc 73 then (bif Nat.blt pc 60 then (bif Nat.blt pc 53 then (bif Nat.blt pc 51 then (bif Nat.beq pc 50 then some (.iastore, []) else none) else (bif Nat.blt pc 52 then (bif Nat.beq pc 51 then some (.iconst 0, []) else none) else (bif Nat.beq pc 52 then some (.istore_n 3, []) else none))) else (bif Nat.blt pc 56 then (bif Nat.blt pc 54 then (bif Nat.beq pc 53 then some (.iload_n 3, []) else none) else (bif Nat.beq pc 54 then some (.bipush 6, []) else none)) else (bif Nat.blt pc 59 then (bif Nat.beq pc 56 then some (.if_icmp .ge 33, [89]) else none) else (bif Nat.beq pc 59 then some (.aload_n 0, []) else none)))) else (bif Nat.blt pc 67 then (bif Nat.blt pc 65 then (bif Nat.blt pc 63 then (bif Nat.beq pc 60 then some (.getfield 13, []) else none) else (bif Nat.beq pc 63 then some (.bipush 6, []) else none)) else (bif Nat.blt pc 66 then (bif Nat.beq pc 65 then some (.iload_n 2, []) else none) else (bif Nat.beq pc 66 then some (.imul, []) else none))) else (bif Nat.blt pc 69 then (bif Nat.blt pc 68 then (bif Nat.beq pc 67 then some (.iload_n 3, []) else none) else (bif Nat.beq pc 68 then some (.iadd, []) else none)) else (bif Nat.blt pc 70 then (bif Nat.beq pc 69 then some (.aload_n 0, []) else none) else (bif Nat.beq pc 70 then some (.getfield 13, []) else none))))) else (bif Nat.blt pc 82 then (bif Nat.blt pc 78 then (bif Nat.blt pc 76 then (bif Nat.blt pc 75 then (bif Nat.beq pc 73 then some (.bipush 6, []) else none) else (bif Nat.beq pc 75 then some (.iload_n 2, []) else none)) else (bif Nat.blt pc 77 then (bif Nat.beq pc 76 then some (.iconst 1, []) else none) else (bif Nat.beq pc 77 then some (.iadd, []) else none))) else (bif Nat.blt pc 80 then (bif Nat.blt pc 79 then (bif Nat.beq pc 78 then some (.imul, []) else none) else (bif Nat.beq pc 79 then some (.iload_n 3, []) else none)) else (bif Nat.blt pc 81 then (bif Nat.beq pc 80 then some (.iadd, []) else none) else (bif Nat.beq pc 81 then some (.iaload, []) else none)))) else (bif Nat.blt pc 92 then (bif Nat.blt pc 86 then (bif Nat.blt pc 83 then (bif Nat.beq pc 82 then some (.iastore, []) else none) else (bif Nat.beq pc 83 then some (.iinc 3 1, []) else none)) else (bif Nat.blt pc 89 then (bif Nat.beq pc 86 then some (.goto (-33), [53]) else none) else (bif Nat.beq pc 89 then some (.iinc 2 1, []) else none))) else (bif Nat.blt pc 96 then (bif Nat.blt pc 95 then (bif Nat.beq pc 92 then some (.goto (-63), [29]) else none) else (bif Nat.beq pc 95 then some (.aload_n 0, []) else none)) else (bif Nat.blt pc 99 then (bif Nat.beq pc 96 then some (.getfield 52, []) else none) else (bif Nat.beq pc 99 then some (.ireturn, []) else none))))))))
set_option maxRecDepth 100000 in
theorem oX6_forget : xIOk cX6_forget iX6_forget := xIOk_of (N := 100) (fun pc h => xtree_none h) (by decide +kernel)
set_option maxRecDepth 100000 in
theorem yoX6_forget : xYOk yX6_forget cX6_forget 4 (some .int) 1 := ⟨by decide, xm 666 (by decide +kernel) rfl, xm 47 (by decide +kernel) rfl, by decide +kernel, by decide +kernel⟩
set_option maxRecDepth 100000 in
def iX6_tell : Nat → Option (Instr × List Nat) := xtree 321 (fun pc => (bif Nat.blt pc 159 then (bif Nat.blt pc 76 then (bif Nat.blt pc 38 then (bif Nat.blt pc 21 then (bif Nat.blt pc 11 then (bif Nat.blt pc 4 then (bif Nat.blt pc 1 then (bif Nat.beq pc 0 then some (.iload_n 1, []) else none) else (bif Nat.beq pc 1 then some (.invokestatic 67, []) else none)) else (bif Nat.blt pc 7 then (bif Nat.beq pc 4 then some (.ifCond .eq 15, [19]) else none) else (bif Nat.blt pc 8 then (bif Nat.beq pc 7 then some (.iload_n 2, []) else none) else (bif Nat.beq pc 8 then some (.invokestatic 67, []) else none)))) else (bif Nat.blt pc 15 then (bif Nat.blt pc 14 then (bif Nat.beq pc 11 then some (.ifCond .eq 8, [19]) else none) else (bif Nat.beq pc 14 then some (.iload_n 1, []) else none)) else (bif Nat.blt pc 16 then (bif Nat.beq pc 15 then some (.iload_n 2, []) else none) else (bif Nat.blt pc 19 then (bif Nat.beq pc 16 then some (.if_icmp .ne 6, [22]) else none) else (bif Nat.beq pc 19 then some (.bipush (-2), []) else none))))) else (bif Nat.blt pc 30 then (bif Nat.blt pc 23 then (bif Nat.blt pc 22 then (bif Nat.beq pc 21 then some (.ireturn, []) else none) else (bif Nat.beq pc 22 then some (.iload_n 3, []) else none)) else (bif Nat.blt pc 26 then (bif Nat.beq pc 23 then some (.ifCond .eq 21, [44]) else none) else (bif Nat.blt pc 27 then (bif Nat.beq pc 26 then some (.aload_n 0, []) else none) else (bif Nat.beq pc 27 then some (.getfield 19, []) else none)))) else (bif Nat.blt pc 33 then (bif Nat.blt pc 31 then (bif Nat.beq pc 30 then some (.iload_n 1, []) else none) else (bif Nat.blt pc 32 then (bif Nat.beq pc 31 then some (.iaload, []) else none) else (bif Nat.beq pc 32 then some (.aload_n 0, []) else none))) else (bif Nat.blt pc 36 then (bif Nat.beq pc 33 then some (.getfield 19, []) else none) else (bif Nat.blt pc 37 then (bif Nat.beq pc 36 then some (.iload_n 2, []) else none) else (bif Nat.beq pc 37 then some (.iaload, []) else none)))))) else (bif Nat.blt pc 58 then (bif Nat.blt pc 50 then (bif Nat.blt pc 44 then (bif Nat.blt pc 41 then (bif Nat.beq pc 38 then some (.if_icmp .ne 23, [61]) else none) else (bif Nat.beq pc 41 then some (.goto 17, [58]) else none)) else (bif Nat.blt pc 45 then (bif Nat.beq pc 44 then some (.aload_n 0, []) else none) else (bif Nat.blt pc 48 then (bif Nat.beq pc 45 then some (.getfield 22, []) else none) else (bif Nat.beq pc 48 then some (.bipush 6, []) else none)))) else (bif Nat.blt pc 53 then (bif Nat.blt pc 51 then (bif Nat.beq pc 50 then some (.iload_n 1, []) else none) else (bif Nat.blt pc 52 then (bif Nat.beq pc 51 then some (.imul, []) else none) else (bif Nat.beq pc 52 then some (.iload_n 2, []) else none))) else (bif Nat.blt pc 54 then (bif Nat.beq pc 53 then some (.iadd, []) else none) else (bif Nat.blt pc 55 then (bif Nat.beq pc 54 then some (.baload, []) else none) else (bif Nat.beq pc 55 then some (.ifCond .eq 6, [61]) else none))))) else (bif Nat.blt pc 66 then (bif Nat.blt pc 61 then (bif Nat.blt pc 60 then (bif Nat.beq pc 58 then some (.bipush (-3), []) else none) else (bif Nat.beq pc 60 then some (.ireturn, []) else none)) else (bif Nat.blt pc 62 then (bif Nat.beq pc 61 then some (.iload_n 3, []) else none) else (bif Nat.blt pc 65 then (bif Nat.beq pc 62 then some (.ifCond .ne 22, [84]) else none) else (bif Nat.beq pc 65 then some (.aload_n 0, []) else none)))) else (bif Nat.blt pc 71 then (bif Nat.blt pc 69 then (bif Nat.beq pc 66 then some (.getfield 19, []) else none) else (bif Nat.blt pc 70 then (bif Nat.beq pc 69 then some (.iload_n 1, []) else none) else (bif Nat.beq pc 70 then some (.iaload, []) else none))) else (bif Nat.blt pc 72 then (bif Nat.beq pc 71 then some (.aload_n 0, []) else none) else (bif Nat.blt pc 75 then (bif Nat.beq pc 72 then some (.getfield 19, []) else none) else (bif Nat.beq pc 75 then some (.iload_n 2, []) else none))))))) else (bif Nat.blt pc 120 then (bif Nat.blt pc 97 then (bif Nat.blt pc 85 then (bif Nat.blt pc 80 then (bif Nat.blt pc 77 then (bif Nat.beq pc 76 then some (.iaload, []) else none) else (bif Nat.beq pc 77 then some (.if_icmp .ne 7, [84]) else none)) else (bif Nat.blt pc 81 then (bif Nat.beq pc 80 then some (.iconst 1, []) else none) else (bif Nat.blt pc 84 then (bif Nat.beq pc 81 then some (.goto 4, [85]) else none) else (bif Nat.beq pc 84 then some (.iconst 0, []) else none)))) else (bif Nat.blt pc 90 then (bif Nat.blt pc 87 then (bif Nat.beq pc 85 then some (.istore 4, []) else none) else (bif Nat.blt pc 88 then (bif Nat.beq pc 87 then some (.iconst 0, []) else none) else (bif Nat.beq pc 88 then some (.istore 5, []) else none))) else (bif Nat.blt pc 92 then (bif Nat.beq pc 90 then some (.iload 5, []) else none) else (bif Nat.blt pc 94 then (bif Nat.beq pc 92 then some (.bipush 6, []) else none) else (bif Nat.beq pc 94 then some (.if_icmp .ge 89, [183]) else none))))) else (bif Nat.blt pc 106 then (bif Nat.blt pc 101 then (bif Nat.blt pc 98 then (bif Nat.beq pc 97 then some (.iload_n 3, []) else none) else (bif Nat.beq pc 98 then some (.ifCond .eq 85, [183]) else none)) else (bif Nat.blt pc 102 then (bif Nat.beq pc 101 then some (.iconst 0, []) else none) else (bif Nat.blt pc 104 then (bif Nat.beq pc 102 then some (.istore 6, []) else none) else (bif Nat.beq pc 104 then some (.iload 6, []) else none)))) else (bif Nat.blt pc 113 then (bif Nat.blt pc 108 then (bif Nat.beq pc 106 then some (.bipush 6, []) else none) else (bif Nat.blt pc 111 then (bif Nat.beq pc 108 then some (.if_icmp .ge 69, [177]) else none) else (bif Nat.beq pc 111 then some (.iload 4, []) else none))) else (bif Nat.blt pc 116 then (bif Nat.beq pc 113 then some (.ifCond .ne 51, [164]) else none) else (bif Nat.blt pc 117 then (bif Nat.beq pc 116 then some (.aload_n 0, []) else none) else (bif Nat.beq pc 117 then some (.getfield 19, []) else none)))))) else (bif Nat.blt pc 139 then (bif Nat.blt pc 128 then (bif Nat.blt pc 123 then (bif Nat.blt pc 122 then (bif Nat.beq pc 120 then some (.iload 5, []) else none) else (bif Nat.beq pc 122 then some (.iaload, []) else none)) else (bif Nat.blt pc 124 then (bif Nat.beq pc 123 then some (.aload_n 0, []) else none) else (bif Nat.blt pc 127 then (bif Nat.beq pc 124 then some (.getfield 19, []) else none) else (bif Nat.beq pc 127 then some (.iload_n 1, []) else none)))) else (bif Nat.blt pc 133 then (bif Nat.blt pc 129 then (bif Nat.beq pc 128 then some (.iaload, []) else none) else (bif Nat.blt pc 132 then (bif Nat.beq pc 129 then some (.if_icmp .ne 39, [168]) else none) else (bif Nat.beq pc 132 then some (.aload_n 0, []) else none))) else (bif Nat.blt pc 136 then (bif Nat.beq pc 133 then some (.getfield 19, []) else none) else (bif Nat.blt pc 138 then (bif Nat.beq pc 136 then some (.iload 6, []) else none) else (bif Nat.beq pc 138 then some (.iaload, []) else none))))) else (bif Nat.blt pc 148 then (bif Nat.blt pc 143 then (bif Nat.blt pc 140 then (bif Nat.beq pc 139 then some (.aload_n 0, []) else none) else (bif Nat.beq pc 140 then some (.getfield 19, []) else none)) else (bif Nat.blt pc 144 then (bif Nat.beq pc 143 then some (.iload_n 2, []) else none) else (bif Nat.blt pc 145 then (bif Nat.beq pc 144 then some (.iaload, []) else none) else (bif Nat.beq pc 145 then some (.if_icmp .ne 23, [168]) else none)))) else (bif Nat.blt pc 154 then (bif Nat.blt pc 149 then (bif Nat.beq pc 148 then some (.aload_n 0, []) else none) else (bif Nat.blt pc 152 then (bif Nat.beq pc 149 then some (.getfield 22, []) else none) else (bif Nat.beq pc 152 then some (.bipush 6, []) else none))) else (bif Nat.blt pc 156 then (bif Nat.beq pc 154 then some (.iload 5, []) else none) else (bif Nat.blt pc 157 then (bif Nat.beq pc 156 then some (.imul, []) else none) else (bif Nat.beq pc 157 then some (.iload 6, []) else none)))))))) else (bif Nat.blt pc 243 then (bif Nat.blt pc 202 then (bif Nat.blt pc 183 then (bif Nat.blt pc 168 then (bif Nat.blt pc 161 then (bif Nat.blt pc 160 then (bif Nat.beq pc 159 then some (.iadd, []) else none) else (bif Nat.beq pc 160 then some (.baload, []) else none)) else (bif Nat.blt pc 164 then (bif Nat.beq pc 161 then some (.ifCond .eq 7, [168]) else none) else (bif Nat.blt pc 165 then (bif Nat.beq pc 164 then some (.iconst 1, []) else none) else (bif Nat.beq pc 165 then some (.goto 4, [169]) else none)))) else (bif Nat.blt pc 174 then (bif Nat.blt pc 169 then (bif Nat.beq pc 168 then some (.iconst 0, []) else none) else (bif Nat.blt pc 171 then (bif Nat.beq pc 169 then some (.istore 4, []) else none) else (bif Nat.beq pc 171 then some (.iinc 6 1, []) else none))) else (bif Nat.blt pc 177 then (bif Nat.beq pc 174 then some (.goto (-70), [104]) else none) else (bif Nat.blt pc 180 then (bif Nat.beq pc 177 then some (.iinc 5 1, []) else none) else (bif Nat.beq pc 180 then some (.goto (-90), [90]) else none))))) else (bif Nat.blt pc 192 then (bif Nat.blt pc 188 then (bif Nat.blt pc 185 then (bif Nat.beq pc 183 then some (.iload 4, []) else none) else (bif Nat.beq pc 185 then some (.ifCond .eq 6, [191]) else none)) else (bif Nat.blt pc 190 then (bif Nat.beq pc 188 then some (.bipush (-4), []) else none) else (bif Nat.blt pc 191 then (bif Nat.beq pc 190 then some (.ireturn, []) else none) else (bif Nat.beq pc 191 then some (.aload_n 0, []) else none)))) else (bif Nat.blt pc 197 then (bif Nat.blt pc 193 then (bif Nat.beq pc 192 then some (.dup, []) else none) else (bif Nat.blt pc 196 then (bif Nat.beq pc 193 then some (.getfield 71, []) else none) else (bif Nat.beq pc 196 then some (.iconst 1, []) else none))) else (bif Nat.blt pc 198 then (bif Nat.beq pc 197 then some (.iadd, []) else none) else (bif Nat.blt pc 201 then (bif Nat.beq pc 198 then some (.putfield 71, []) else none) else (bif Nat.beq pc 201 then some (.iload_n 3, []) else none)))))) else (bif Nat.blt pc 221 then (bif Nat.blt pc 211 then (bif Nat.blt pc 206 then (bif Nat.blt pc 205 then (bif Nat.beq pc 202 then some (.ifCond .eq 93, [295]) else none) else (bif Nat.beq pc 205 then some (.aload_n 0, []) else none)) else (bif Nat.blt pc 209 then (bif Nat.beq pc 206 then some (.getfield 19, []) else none) else (bif Nat.blt pc 210 then (bif Nat.beq pc 209 then some (.iload_n 1, []) else none) else (bif Nat.beq pc 210 then some (.iaload, []) else none)))) else (bif Nat.blt pc 217 then (bif Nat.blt pc 213 then (bif Nat.beq pc 211 then some (.istore 5, []) else none) else (bif Nat.blt pc 214 then (bif Nat.beq pc 213 then some (.aload_n 0, []) else none) else (bif Nat.beq pc 214 then some (.getfield 19, []) else none))) else (bif Nat.blt pc 218 then (bif Nat.beq pc 217 then some (.iload_n 2, []) else none) else (bif Nat.blt pc 219 then (bif Nat.beq pc 218 then some (.iaload, []) else none) else (bif Nat.beq pc 219 then some (.istore 6, []) else none))))) else (bif Nat.blt pc 231 then (bif Nat.blt pc 224 then (bif Nat.blt pc 222 then (bif Nat.beq pc 221 then some (.iconst 0, []) else none) else (bif Nat.beq pc 222 then some (.istore 7, []) else none)) else (bif Nat.blt pc 226 then (bif Nat.beq pc 224 then some (.iload 7, []) else none) else (bif Nat.blt pc 228 then (bif Nat.beq pc 226 then some (.bipush 6, []) else none) else (bif Nat.beq pc 228 then some (.if_icmp .ge 64, [292]) else none)))) else (bif Nat.blt pc 237 then (bif Nat.blt pc 232 then (bif Nat.beq pc 231 then some (.aload_n 0, []) else none) else (bif Nat.blt pc 235 then (bif Nat.beq pc 232 then some (.getfield 19, []) else none) else (bif Nat.beq pc 235 then some (.iload 7, []) else none))) else (bif Nat.blt pc 238 then (bif Nat.beq pc 237 then some (.aload_n 0, []) else none) else (bif Nat.blt pc 241 then (bif Nat.beq pc 238 then some (.getfield 19, []) else none) else (bif Nat.beq pc 241 then some (.iload 7, []) else none))))))) else (bif Nat.blt pc 289 then (bif Nat.blt pc 265 then (bif Nat.blt pc 253 then (bif Nat.blt pc 246 then (bif Nat.blt pc 244 then (bif Nat.beq pc 243 then some (.iaload, []) else none) else (bif Nat.beq pc 244 then some (.iload 5, []) else none)) else (bif Nat.blt pc 249 then (bif Nat.beq pc 246 then some (.if_icmp .eq 15, [261]) else none) else (bif Nat.blt pc 250 then (bif Nat.beq pc 249 then some (.aload_n 0, []) else none) else (bif Nat.beq pc 250 then some (.getfield 19, []) else none)))) else (bif Nat.blt pc 258 then (bif Nat.blt pc 255 then (bif Nat.beq pc 253 then some (.iload 7, []) else none) else (bif Nat.blt pc 256 then (bif Nat.beq pc 255 then some (.iaload, []) else none) else (bif Nat.beq pc 256 then some (.iload 6, []) else none))) else (bif Nat.blt pc 261 then (bif Nat.beq pc 258 then some (.if_icmp .ne 20, [278]) else none) else (bif Nat.blt pc 263 then (bif Nat.beq pc 261 then some (.iload 5, []) else none) else (bif Nat.beq pc 263 then some (.iload 6, []) else none))))) else (bif Nat.blt pc 278 then (bif Nat.blt pc 270 then (bif Nat.blt pc 268 then (bif Nat.beq pc 265 then some (.if_icmp .ge 8, [273]) else none) else (bif Nat.beq pc 268 then some (.iload 5, []) else none)) else (bif Nat.blt pc 273 then (bif Nat.beq pc 270 then some (.goto 15, [285]) else none) else (bif Nat.blt pc 275 then (bif Nat.beq pc 273 then some (.iload 6, []) else none) else (bif Nat.beq pc 275 then some (.goto 10, [285]) else none)))) else (bif Nat.blt pc 284 then (bif Nat.blt pc 279 then (bif Nat.beq pc 278 then some (.aload_n 0, []) else none) else (bif Nat.blt pc 282 then (bif Nat.beq pc 279 then some (.getfield 19, []) else none) else (bif Nat.beq pc 282 then some (.iload 7, []) else none))) else (bif Nat.blt pc 285 then (bif Nat.beq pc 284 then some (.iaload, []) else none) else (bif Nat.blt pc 286 then (bif Nat.beq pc 285 then some (.iastore, []) else none) else (bif Nat.beq pc 286 then some (.iinc 7 1, []) else none)))))) else (bif Nat.blt pc 307 then (bif Nat.blt pc 301 then (bif Nat.blt pc 295 then (bif Nat.blt pc 292 then (bif Nat.beq pc 289 then some (.goto (-65), [224]) else none) else (bif Nat.beq pc 292 then some (.goto 27, [319]) else none)) else (bif Nat.blt pc 296 then (bif Nat.beq pc 295 then some (.aload_n 0, []) else none) else (bif Nat.blt pc 299 then (bif Nat.beq pc 296 then some (.getfield 22, []) else none) else (bif Nat.beq pc 299 then some (.bipush 6, []) else none)))) else (bif Nat.blt pc 304 then (bif Nat.blt pc 302 then (bif Nat.beq pc 301 then some (.iload_n 1, []) else none) else (bif Nat.blt pc 303 then (bif Nat.beq pc 302 then some (.imul, []) else none) else (bif Nat.beq pc 303 then some (.iload_n 2, []) else none))) else (bif Nat.blt pc 305 then (bif Nat.beq pc 304 then some (.iadd, []) else none) else (bif Nat.blt pc 306 then (bif Nat.beq pc 305 then some (.iconst 1, []) else none) else (bif Nat.beq pc 306 then some (.bastore, []) else none))))) else (bif Nat.blt pc 315 then (bif Nat.blt pc 311 then (bif Nat.blt pc 308 then (bif Nat.beq pc 307 then some (.aload_n 0, []) else none) else (bif Nat.beq pc 308 then some (.getfield 22, []) else none)) else (bif Nat.blt pc 313 then (bif Nat.beq pc 311 then some (.bipush 6, []) else none) else (bif Nat.blt pc 314 then (bif Nat.beq pc 313 then some (.iload_n 2, []) else none) else (bif Nat.beq pc 314 then some (.imul, []) else none)))) else (bif Nat.blt pc 318 then (bif Nat.blt pc 316 then (bif Nat.beq pc 315 then some (.iload_n 1, []) else none) else (bif Nat.blt pc 317 then (bif Nat.beq pc 316 then some (.iadd, []) else none) else (bif Nat.beq pc 317 then some (.iconst 1, []) else none))) else (bif Nat.blt pc 319 then (bif Nat.beq pc 318 then some (.bastore, []) else none) else (bif Nat.blt pc 320 then (bif Nat.beq pc 319 then some (.iconst 1, []) else none) else (bif Nat.beq pc 320 then some (.ireturn, []) else none))))))))))
set_option maxRecDepth 100000 in
theorem oX6_tell : xIOk cX6_tell iX6_tell := xIOk_of (N := 321) (fun pc h => xtree_none h) (by decide +kernel)
set_option maxRecDepth 100000 in
theorem yoX6_tell : xYOk yX6_tell cX6_tell 8 (some .int) 3 := ⟨by decide, xm 670 (by decide +kernel) rfl, xm 47 (by decide +kernel) rfl, by decide +kernel, by decide +kernel⟩
set_option maxRecDepth 100000 in
def iX6_untell : Nat → Option (Instr × List Nat) := xtree 54 (fun pc => (bif Nat.blt pc 25 then (bif Nat.blt pc 12 then (bif Nat.blt pc 6 then (bif Nat.blt pc 4 then (bif Nat.blt pc 1 then (bif Nat.beq pc 0 then some (.aload_n 0, []) else none) else (bif Nat.beq pc 1 then some (.getfield 71, []) else none)) else (bif Nat.blt pc 5 then (bif Nat.beq pc 4 then some (.istore_n 1, []) else none) else (bif Nat.beq pc 5 then some (.aload_n 0, []) else none))) else (bif Nat.blt pc 10 then (bif Nat.blt pc 7 then (bif Nat.beq pc 6 then some (.iconst 0, []) else none) else (bif Nat.beq pc 7 then some (.putfield 71, []) else none)) else (bif Nat.blt pc 11 then (bif Nat.beq pc 10 then some (.iconst 0, []) else none) else (bif Nat.beq pc 11 then some (.istore_n 2, []) else none)))) else (bif Nat.blt pc 19 then (bif Nat.blt pc 15 then (bif Nat.blt pc 13 then (bif Nat.beq pc 12 then some (.iload_n 2, []) else none) else (bif Nat.beq pc 13 then some (.bipush 6, []) else none)) else (bif Nat.blt pc 18 then (bif Nat.beq pc 15 then some (.if_icmp .ge 16, [31]) else none) else (bif Nat.beq pc 18 then some (.aload_n 0, []) else none))) else (bif Nat.blt pc 23 then (bif Nat.blt pc 22 then (bif Nat.beq pc 19 then some (.getfield 19, []) else none) else (bif Nat.beq pc 22 then some (.iload_n 2, []) else none)) else (bif Nat.blt pc 24 then (bif Nat.beq pc 23 then some (.iload_n 2, []) else none) else (bif Nat.beq pc 24 then some (.iastore, []) else none))))) else (bif Nat.blt pc 40 then (bif Nat.blt pc 33 then (bif Nat.blt pc 31 then (bif Nat.blt pc 28 then (bif Nat.beq pc 25 then some (.iinc 2 1, []) else none) else (bif Nat.beq pc 28 then some (.goto (-16), [12]) else none)) else (bif Nat.blt pc 32 then (bif Nat.beq pc 31 then some (.iconst 0, []) else none) else (bif Nat.beq pc 32 then some (.istore_n 2, []) else none))) else (bif Nat.blt pc 36 then (bif Nat.blt pc 34 then (bif Nat.beq pc 33 then some (.iload_n 2, []) else none) else (bif Nat.beq pc 34 then some (.bipush 36, []) else none)) else (bif Nat.blt pc 39 then (bif Nat.beq pc 36 then some (.if_icmp .ge 16, [52]) else none) else (bif Nat.beq pc 39 then some (.aload_n 0, []) else none)))) else (bif Nat.blt pc 46 then (bif Nat.blt pc 44 then (bif Nat.blt pc 43 then (bif Nat.beq pc 40 then some (.getfield 22, []) else none) else (bif Nat.beq pc 43 then some (.iload_n 2, []) else none)) else (bif Nat.blt pc 45 then (bif Nat.beq pc 44 then some (.iconst 0, []) else none) else (bif Nat.beq pc 45 then some (.bastore, []) else none))) else (bif Nat.blt pc 52 then (bif Nat.blt pc 49 then (bif Nat.beq pc 46 then some (.iinc 2 1, []) else none) else (bif Nat.beq pc 49 then some (.goto (-16), [33]) else none)) else (bif Nat.blt pc 53 then (bif Nat.beq pc 52 then some (.iload_n 1, []) else none) else (bif Nat.beq pc 53 then some (.ireturn, []) else none)))))))
set_option maxRecDepth 100000 in
theorem oX6_untell : xIOk cX6_untell iX6_untell := xIOk_of (N := 54) (fun pc h => xtree_none h) (by decide +kernel)
set_option maxRecDepth 100000 in
theorem yoX6_untell : xYOk yX6_untell cX6_untell 3 (some .int) 0 := ⟨by decide, xm 677 (by decide +kernel) rfl, xm 47 (by decide +kernel) rfl, by decide +kernel, by decide +kernel⟩
set_option maxRecDepth 100000 in
def iX6_at : Nat → Option (Instr × List Nat) := xtree 47 (fun pc => (bif Nat.blt pc 22 then (bif Nat.blt pc 11 then (bif Nat.blt pc 3 then (bif Nat.blt pc 1 then (bif Nat.beq pc 0 then some (.iload_n 1, []) else none) else (bif Nat.blt pc 2 then (bif Nat.beq pc 1 then some (.iconst 0, []) else none) else (bif Nat.beq pc 2 then some (.aload_n 0, []) else none))) else (bif Nat.blt pc 7 then (bif Nat.blt pc 6 then (bif Nat.beq pc 3 then some (.getfield 52, []) else none) else (bif Nat.beq pc 6 then some (.iconst 1, []) else none)) else (bif Nat.blt pc 8 then (bif Nat.beq pc 7 then some (.isub, []) else none) else (bif Nat.beq pc 8 then some (.invokestatic 48, []) else none)))) else (bif Nat.blt pc 16 then (bif Nat.blt pc 14 then (bif Nat.beq pc 11 then some (.ifCond .eq 33, [44]) else none) else (bif Nat.blt pc 15 then (bif Nat.beq pc 14 then some (.iload_n 2, []) else none) else (bif Nat.beq pc 15 then some (.iconst 0, []) else none))) else (bif Nat.blt pc 20 then (bif Nat.blt pc 17 then (bif Nat.beq pc 16 then some (.aload_n 0, []) else none) else (bif Nat.beq pc 17 then some (.getfield 7, []) else none)) else (bif Nat.blt pc 21 then (bif Nat.beq pc 20 then some (.iload_n 1, []) else none) else (bif Nat.beq pc 21 then some (.iaload, []) else none))))) else (bif Nat.blt pc 36 then (bif Nat.blt pc 27 then (bif Nat.blt pc 23 then (bif Nat.beq pc 22 then some (.iconst 1, []) else none) else (bif Nat.blt pc 24 then (bif Nat.beq pc 23 then some (.isub, []) else none) else (bif Nat.beq pc 24 then some (.invokestatic 48, []) else none))) else (bif Nat.blt pc 31 then (bif Nat.blt pc 30 then (bif Nat.beq pc 27 then some (.ifCond .eq 17, [44]) else none) else (bif Nat.beq pc 30 then some (.aload_n 0, []) else none)) else (bif Nat.blt pc 34 then (bif Nat.beq pc 31 then some (.getfield 13, []) else none) else (bif Nat.beq pc 34 then some (.bipush 6, []) else none)))) else (bif Nat.blt pc 40 then (bif Nat.blt pc 38 then (bif Nat.blt pc 37 then (bif Nat.beq pc 36 then some (.iload_n 1, []) else none) else (bif Nat.beq pc 37 then some (.imul, []) else none)) else (bif Nat.blt pc 39 then (bif Nat.beq pc 38 then some (.iload_n 2, []) else none) else (bif Nat.beq pc 39 then some (.iadd, []) else none))) else (bif Nat.blt pc 44 then (bif Nat.blt pc 41 then (bif Nat.beq pc 40 then some (.iaload, []) else none) else (bif Nat.beq pc 41 then some (.goto 5, [46]) else none)) else (bif Nat.blt pc 46 then (bif Nat.beq pc 44 then some (.bipush (-2), []) else none) else (bif Nat.beq pc 46 then some (.ireturn, []) else none)))))))
set_option maxRecDepth 100000 in
theorem oX6_at : xIOk cX6_at iX6_at := xIOk_of (N := 47) (fun pc h => xtree_none h) (by decide +kernel)
set_option maxRecDepth 100000 in
theorem yoX6_at : xYOk yX6_at cX6_at 3 (some .int) 2 := ⟨by decide, xm 681 (by decide +kernel) rfl, xm 47 (by decide +kernel) rfl, by decide +kernel, by decide +kernel⟩
set_option maxRecDepth 100000 in
def iX6_isThere : Nat → Option (Instr × List Nat) := xtree 80 (fun pc => (bif Nat.blt pc 36 then (bif Nat.blt pc 19 then (bif Nat.blt pc 7 then (bif Nat.blt pc 2 then (bif Nat.blt pc 1 then (bif Nat.beq pc 0 then some (.iconst 0, []) else none) else (bif Nat.beq pc 1 then some (.istore_n 3, []) else none)) else (bif Nat.blt pc 3 then (bif Nat.beq pc 2 then some (.iconst 0, []) else none) else (bif Nat.blt pc 5 then (bif Nat.beq pc 3 then some (.istore 4, []) else none) else (bif Nat.beq pc 5 then some (.iload 4, []) else none)))) else (bif Nat.blt pc 14 then (bif Nat.blt pc 8 then (bif Nat.beq pc 7 then some (.aload_n 0, []) else none) else (bif Nat.blt pc 11 then (bif Nat.beq pc 8 then some (.getfield 52, []) else none) else (bif Nat.beq pc 11 then some (.if_icmp .ge 67, [78]) else none))) else (bif Nat.blt pc 15 then (bif Nat.beq pc 14 then some (.iconst 0, []) else none) else (bif Nat.blt pc 17 then (bif Nat.beq pc 15 then some (.istore 5, []) else none) else (bif Nat.beq pc 17 then some (.iload 5, []) else none))))) else (bif Nat.blt pc 29 then (bif Nat.blt pc 23 then (bif Nat.blt pc 20 then (bif Nat.beq pc 19 then some (.aload_n 0, []) else none) else (bif Nat.beq pc 20 then some (.getfield 7, []) else none)) else (bif Nat.blt pc 25 then (bif Nat.beq pc 23 then some (.iload 4, []) else none) else (bif Nat.blt pc 26 then (bif Nat.beq pc 25 then some (.iaload, []) else none) else (bif Nat.beq pc 26 then some (.if_icmp .ge 46, [72]) else none)))) else (bif Nat.blt pc 33 then (bif Nat.blt pc 30 then (bif Nat.beq pc 29 then some (.iload_n 1, []) else none) else (bif Nat.blt pc 32 then (bif Nat.beq pc 30 then some (.iload 4, []) else none) else (bif Nat.beq pc 32 then some (.ishr, []) else none))) else (bif Nat.blt pc 34 then (bif Nat.beq pc 33 then some (.iconst 1, []) else none) else (bif Nat.blt pc 35 then (bif Nat.beq pc 34 then some (.iand, []) else none) else (bif Nat.beq pc 35 then some (.iconst 1, []) else none)))))) else (bif Nat.blt pc 56 then (bif Nat.blt pc 47 then (bif Nat.blt pc 40 then (bif Nat.blt pc 39 then (bif Nat.beq pc 36 then some (.if_icmp .ne 36, [72]) else none) else (bif Nat.beq pc 39 then some (.iload_n 3, []) else none)) else (bif Nat.blt pc 43 then (bif Nat.beq pc 40 then some (.ifCond .ne 20, [60]) else none) else (bif Nat.blt pc 44 then (bif Nat.beq pc 43 then some (.aload_n 0, []) else none) else (bif Nat.beq pc 44 then some (.getfield 13, []) else none)))) else (bif Nat.blt pc 52 then (bif Nat.blt pc 49 then (bif Nat.beq pc 47 then some (.bipush 6, []) else none) else (bif Nat.blt pc 51 then (bif Nat.beq pc 49 then some (.iload 4, []) else none) else (bif Nat.beq pc 51 then some (.imul, []) else none))) else (bif Nat.blt pc 54 then (bif Nat.beq pc 52 then some (.iload 5, []) else none) else (bif Nat.blt pc 55 then (bif Nat.beq pc 54 then some (.iadd, []) else none) else (bif Nat.beq pc 55 then some (.iaload, []) else none))))) else (bif Nat.blt pc 66 then (bif Nat.blt pc 61 then (bif Nat.blt pc 57 then (bif Nat.beq pc 56 then some (.iload_n 2, []) else none) else (bif Nat.blt pc 60 then (bif Nat.beq pc 57 then some (.if_icmp .ne 7, [64]) else none) else (bif Nat.beq pc 60 then some (.iconst 1, []) else none))) else (bif Nat.blt pc 64 then (bif Nat.beq pc 61 then some (.goto 4, [65]) else none) else (bif Nat.blt pc 65 then (bif Nat.beq pc 64 then some (.iconst 0, []) else none) else (bif Nat.beq pc 65 then some (.istore_n 3, []) else none)))) else (bif Nat.blt pc 75 then (bif Nat.blt pc 69 then (bif Nat.beq pc 66 then some (.iinc 5 1, []) else none) else (bif Nat.blt pc 72 then (bif Nat.beq pc 69 then some (.goto (-52), [17]) else none) else (bif Nat.beq pc 72 then some (.iinc 4 1, []) else none))) else (bif Nat.blt pc 78 then (bif Nat.beq pc 75 then some (.goto (-70), [5]) else none) else (bif Nat.blt pc 79 then (bif Nat.beq pc 78 then some (.iload_n 3, []) else none) else (bif Nat.beq pc 79 then some (.ireturn, []) else none))))))))
set_option maxRecDepth 100000 in
theorem oX6_isThere : xIOk cX6_isThere iX6_isThere := xIOk_of (N := 80) (fun pc h => xtree_none h) (by decide +kernel)
set_option maxRecDepth 100000 in
theorem yoX6_isThere : xYOk yX6_isThere cX6_isThere 6 (some .boolean) 2 := ⟨by decide, xm 701 (by decide +kernel) rfl, xm 47 (by decide +kernel) rfl, by decide +kernel, by decide +kernel⟩
set_option maxRecDepth 100000 in
def iX6_isBoxThere : Nat → Option (Instr × List Nat) := xtree 51 (fun pc => (bif Nat.blt pc 24 then (bif Nat.blt pc 12 then (bif Nat.blt pc 3 then (bif Nat.blt pc 1 then (bif Nat.beq pc 0 then some (.iconst 0, []) else none) else (bif Nat.blt pc 2 then (bif Nat.beq pc 1 then some (.istore_n 3, []) else none) else (bif Nat.beq pc 2 then some (.iconst 0, []) else none))) else (bif Nat.blt pc 7 then (bif Nat.blt pc 5 then (bif Nat.beq pc 3 then some (.istore 4, []) else none) else (bif Nat.beq pc 5 then some (.iload 4, []) else none)) else (bif Nat.blt pc 9 then (bif Nat.beq pc 7 then some (.bipush 6, []) else none) else (bif Nat.beq pc 9 then some (.if_icmp .ge 40, [49]) else none)))) else (bif Nat.blt pc 17 then (bif Nat.blt pc 13 then (bif Nat.beq pc 12 then some (.iload_n 3, []) else none) else (bif Nat.blt pc 16 then (bif Nat.beq pc 13 then some (.ifCond .ne 24, [37]) else none) else (bif Nat.beq pc 16 then some (.aload_n 0, []) else none))) else (bif Nat.blt pc 22 then (bif Nat.blt pc 20 then (bif Nat.beq pc 17 then some (.getfield 19, []) else none) else (bif Nat.beq pc 20 then some (.iload 4, []) else none)) else (bif Nat.blt pc 23 then (bif Nat.beq pc 22 then some (.iaload, []) else none) else (bif Nat.beq pc 23 then some (.iload_n 2, []) else none))))) else (bif Nat.blt pc 38 then (bif Nat.blt pc 29 then (bif Nat.blt pc 27 then (bif Nat.beq pc 24 then some (.if_icmp .ne 17, [41]) else none) else (bif Nat.blt pc 28 then (bif Nat.beq pc 27 then some (.aload_n 0, []) else none) else (bif Nat.beq pc 28 then some (.iload_n 1, []) else none))) else (bif Nat.blt pc 34 then (bif Nat.blt pc 31 then (bif Nat.beq pc 29 then some (.iload 4, []) else none) else (bif Nat.beq pc 31 then some (.invokevirtual 74, []) else none)) else (bif Nat.blt pc 37 then (bif Nat.beq pc 34 then some (.ifCond .eq 7, [41]) else none) else (bif Nat.beq pc 37 then some (.iconst 1, []) else none)))) else (bif Nat.blt pc 43 then (bif Nat.blt pc 41 then (bif Nat.beq pc 38 then some (.goto 4, [42]) else none) else (bif Nat.blt pc 42 then (bif Nat.beq pc 41 then some (.iconst 0, []) else none) else (bif Nat.beq pc 42 then some (.istore_n 3, []) else none))) else (bif Nat.blt pc 49 then (bif Nat.blt pc 46 then (bif Nat.beq pc 43 then some (.iinc 4 1, []) else none) else (bif Nat.beq pc 46 then some (.goto (-41), [5]) else none)) else (bif Nat.blt pc 50 then (bif Nat.beq pc 49 then some (.iload_n 3, []) else none) else (bif Nat.beq pc 50 then some (.ireturn, []) else none)))))))
set_option maxRecDepth 100000 in
theorem oX6_isBoxThere : xIOk cX6_isBoxThere iX6_isBoxThere := xIOk_of (N := 51) (fun pc h => xtree_none h) (by decide +kernel)
set_option maxRecDepth 100000 in
theorem yoX6_isBoxThere : xYOk yX6_isBoxThere cX6_isBoxThere 5 (some .boolean) 2 := ⟨by decide, xm 697 (by decide +kernel) rfl, xm 47 (by decide +kernel) rfl, by decide +kernel, by decide +kernel⟩
set_option maxRecDepth 100000 in
def iX6_boxMany : Nat → Option (Instr × List Nat) := xtree 35 (fun pc => (bif Nat.blt pc 14 then (bif Nat.blt pc 5 then (bif Nat.blt pc 2 then (bif Nat.blt pc 1 then (bif Nat.beq pc 0 then some (.iconst 0, []) else none) else (bif Nat.beq pc 1 then some (.istore_n 2, []) else none)) else (bif Nat.blt pc 3 then (bif Nat.beq pc 2 then some (.iconst 0, []) else none) else (bif Nat.blt pc 4 then (bif Nat.beq pc 3 then some (.istore_n 3, []) else none) else (bif Nat.beq pc 4 then some (.iload_n 3, []) else none)))) else (bif Nat.blt pc 11 then (bif Nat.blt pc 7 then (bif Nat.beq pc 5 then some (.bipush 6, []) else none) else (bif Nat.blt pc 10 then (bif Nat.beq pc 7 then some (.if_icmp .ge 26, [33]) else none) else (bif Nat.beq pc 10 then some (.iload_n 2, []) else none))) else (bif Nat.blt pc 12 then (bif Nat.beq pc 11 then some (.aload_n 0, []) else none) else (bif Nat.blt pc 13 then (bif Nat.beq pc 12 then some (.iload_n 1, []) else none) else (bif Nat.beq pc 13 then some (.iload_n 3, []) else none))))) else (bif Nat.blt pc 25 then (bif Nat.blt pc 20 then (bif Nat.blt pc 17 then (bif Nat.beq pc 14 then some (.invokevirtual 78, []) else none) else (bif Nat.beq pc 17 then some (.ifCond .eq 7, [24]) else none)) else (bif Nat.blt pc 21 then (bif Nat.beq pc 20 then some (.iconst 1, []) else none) else (bif Nat.blt pc 24 then (bif Nat.beq pc 21 then some (.goto 4, [25]) else none) else (bif Nat.beq pc 24 then some (.iconst 0, []) else none)))) else (bif Nat.blt pc 30 then (bif Nat.blt pc 26 then (bif Nat.beq pc 25 then some (.iadd, []) else none) else (bif Nat.blt pc 27 then (bif Nat.beq pc 26 then some (.istore_n 2, []) else none) else (bif Nat.beq pc 27 then some (.iinc 3 1, []) else none))) else (bif Nat.blt pc 33 then (bif Nat.beq pc 30 then some (.goto (-26), [4]) else none) else (bif Nat.blt pc 34 then (bif Nat.beq pc 33 then some (.iload_n 2, []) else none) else (bif Nat.beq pc 34 then some (.ireturn, []) else none)))))))
set_option maxRecDepth 100000 in
theorem oX6_boxMany : xIOk cX6_boxMany iX6_boxMany := xIOk_of (N := 35) (fun pc h => xtree_none h) (by decide +kernel)
set_option maxRecDepth 100000 in
theorem yoX6_boxMany : xYOk yX6_boxMany cX6_boxMany 4 (some .int) 1 := ⟨by decide, xm 693 (by decide +kernel) rfl, xm 47 (by decide +kernel) rfl, by decide +kernel, by decide +kernel⟩
set_option maxRecDepth 100000 in
def iX6_layPlaces : Nat → Option (Instr × List Nat) := xtree 110 (fun pc => (bif Nat.blt pc 50 then (bif Nat.blt pc 26 then (bif Nat.blt pc 12 then (bif Nat.blt pc 4 then (bif Nat.blt pc 2 then (bif Nat.blt pc 1 then (bif Nat.beq pc 0 then some (.iconst 0, []) else none) else (bif Nat.beq pc 1 then some (.istore_n 2, []) else none)) else (bif Nat.blt pc 3 then (bif Nat.beq pc 2 then some (.iconst 0, []) else none) else (bif Nat.beq pc 3 then some (.istore_n 3, []) else none))) else (bif Nat.blt pc 6 then (bif Nat.blt pc 5 then (bif Nat.beq pc 4 then some (.iload_n 3, []) else none) else (bif Nat.beq pc 5 then some (.aload_n 0, []) else none)) else (bif Nat.blt pc 9 then (bif Nat.beq pc 6 then some (.getfield 52, []) else none) else (bif Nat.beq pc 9 then some (.if_icmp .ge 100, [109]) else none)))) else (bif Nat.blt pc 18 then (bif Nat.blt pc 15 then (bif Nat.blt pc 13 then (bif Nat.beq pc 12 then some (.iconst 0, []) else none) else (bif Nat.beq pc 13 then some (.istore 4, []) else none)) else (bif Nat.blt pc 17 then (bif Nat.beq pc 15 then some (.iload 4, []) else none) else (bif Nat.beq pc 17 then some (.aload_n 0, []) else none))) else (bif Nat.blt pc 22 then (bif Nat.blt pc 21 then (bif Nat.beq pc 18 then some (.getfield 7, []) else none) else (bif Nat.beq pc 21 then some (.iload_n 3, []) else none)) else (bif Nat.blt pc 23 then (bif Nat.beq pc 22 then some (.iaload, []) else none) else (bif Nat.beq pc 23 then some (.if_icmp .ge 80, [103]) else none))))) else (bif Nat.blt pc 36 then (bif Nat.blt pc 30 then (bif Nat.blt pc 28 then (bif Nat.blt pc 27 then (bif Nat.beq pc 26 then some (.iload_n 1, []) else none) else (bif Nat.beq pc 27 then some (.iload_n 3, []) else none)) else (bif Nat.blt pc 29 then (bif Nat.beq pc 28 then some (.ishr, []) else none) else (bif Nat.beq pc 29 then some (.iconst 1, []) else none))) else (bif Nat.blt pc 32 then (bif Nat.blt pc 31 then (bif Nat.beq pc 30 then some (.iand, []) else none) else (bif Nat.beq pc 31 then some (.iconst 1, []) else none)) else (bif Nat.blt pc 35 then (bif Nat.beq pc 32 then some (.if_icmp .ne 71, [103]) else none) else (bif Nat.beq pc 35 then some (.aload_n 0, []) else none)))) else (bif Nat.blt pc 43 then (bif Nat.blt pc 41 then (bif Nat.blt pc 39 then (bif Nat.beq pc 36 then some (.getfield 13, []) else none) else (bif Nat.beq pc 39 then some (.bipush 6, []) else none)) else (bif Nat.blt pc 42 then (bif Nat.beq pc 41 then some (.iload_n 3, []) else none) else (bif Nat.beq pc 42 then some (.imul, []) else none))) else (bif Nat.blt pc 46 then (bif Nat.blt pc 45 then (bif Nat.beq pc 43 then some (.iload 4, []) else none) else (bif Nat.beq pc 45 then some (.iadd, []) else none)) else (bif Nat.blt pc 47 then (bif Nat.beq pc 46 then some (.iaload, []) else none) else (bif Nat.blt pc 49 then (bif Nat.beq pc 47 then some (.istore 5, []) else none) else (bif Nat.beq pc 49 then some (.aload_n 0, []) else none))))))) else (bif Nat.blt pc 79 then (bif Nat.blt pc 63 then (bif Nat.blt pc 57 then (bif Nat.blt pc 55 then (bif Nat.blt pc 53 then (bif Nat.beq pc 50 then some (.getfield 29, []) else none) else (bif Nat.beq pc 53 then some (.bipush 6, []) else none)) else (bif Nat.blt pc 56 then (bif Nat.beq pc 55 then some (.iload_n 3, []) else none) else (bif Nat.beq pc 56 then some (.imul, []) else none))) else (bif Nat.blt pc 60 then (bif Nat.blt pc 59 then (bif Nat.beq pc 57 then some (.iload 4, []) else none) else (bif Nat.beq pc 59 then some (.iadd, []) else none)) else (bif Nat.blt pc 62 then (bif Nat.beq pc 60 then some (.iload 5, []) else none) else (bif Nat.beq pc 62 then some (.iconst (-1), []) else none)))) else (bif Nat.blt pc 71 then (bif Nat.blt pc 67 then (bif Nat.blt pc 66 then (bif Nat.beq pc 63 then some (.if_icmp .ne 12, [75]) else none) else (bif Nat.beq pc 66 then some (.aload_n 0, []) else none)) else (bif Nat.blt pc 70 then (bif Nat.beq pc 67 then some (.getfield 26, []) else none) else (bif Nat.beq pc 70 then some (.iload_n 2, []) else none))) else (bif Nat.blt pc 75 then (bif Nat.blt pc 72 then (bif Nat.beq pc 71 then some (.iaload, []) else none) else (bif Nat.beq pc 72 then some (.goto 10, [82]) else none)) else (bif Nat.blt pc 76 then (bif Nat.beq pc 75 then some (.aload_n 0, []) else none) else (bif Nat.beq pc 76 then some (.getfield 19, []) else none))))) else (bif Nat.blt pc 91 then (bif Nat.blt pc 84 then (bif Nat.blt pc 82 then (bif Nat.blt pc 81 then (bif Nat.beq pc 79 then some (.iload 5, []) else none) else (bif Nat.beq pc 81 then some (.iaload, []) else none)) else (bif Nat.blt pc 83 then (bif Nat.beq pc 82 then some (.iastore, []) else none) else (bif Nat.beq pc 83 then some (.iload_n 2, []) else none))) else (bif Nat.blt pc 87 then (bif Nat.blt pc 86 then (bif Nat.beq pc 84 then some (.iload 5, []) else none) else (bif Nat.beq pc 86 then some (.iconst (-1), []) else none)) else (bif Nat.blt pc 90 then (bif Nat.beq pc 87 then some (.if_icmp .ne 7, [94]) else none) else (bif Nat.beq pc 90 then some (.iconst 1, []) else none)))) else (bif Nat.blt pc 97 then (bif Nat.blt pc 95 then (bif Nat.blt pc 94 then (bif Nat.beq pc 91 then some (.goto 4, [95]) else none) else (bif Nat.beq pc 94 then some (.iconst 0, []) else none)) else (bif Nat.blt pc 96 then (bif Nat.beq pc 95 then some (.iadd, []) else none) else (bif Nat.beq pc 96 then some (.istore_n 2, []) else none))) else (bif Nat.blt pc 103 then (bif Nat.blt pc 100 then (bif Nat.beq pc 97 then some (.iinc 4 1, []) else none) else (bif Nat.beq pc 100 then some (.goto (-85), [15]) else none)) else (bif Nat.blt pc 106 then (bif Nat.beq pc 103 then some (.iinc 3 1, []) else none) else (bif Nat.blt pc 109 then (bif Nat.beq pc 106 then some (.goto (-102), [4]) else none) else (bif Nat.beq pc 109 then some (.return_, []) else none)))))))))
set_option maxRecDepth 100000 in
theorem oX6_layPlaces : xIOk cX6_layPlaces iX6_layPlaces := xIOk_of (N := 110) (fun pc h => xtree_none h) (by decide +kernel)
set_option maxRecDepth 100000 in
theorem yoX6_layPlaces : xYOk yX6_layPlaces cX6_layPlaces 6 none 1 := ⟨by decide, xm 721 (by decide +kernel) rfl, xm 47 (by decide +kernel) rfl, by decide +kernel, by decide +kernel⟩
set_option maxRecDepth 100000 in
def iX6_layLines : Nat → Option (Instr × List Nat) := xtree 287 (fun pc => (bif Nat.blt pc 136 then (bif Nat.blt pc 64 then (bif Nat.blt pc 34 then (bif Nat.blt pc 15 then (bif Nat.blt pc 8 then (bif Nat.blt pc 2 then (bif Nat.blt pc 1 then (bif Nat.beq pc 0 then some (.iconst 0, []) else none) else (bif Nat.beq pc 1 then some (.istore_n 2, []) else none)) else (bif Nat.blt pc 3 then (bif Nat.beq pc 2 then some (.iload_n 2, []) else none) else (bif Nat.blt pc 5 then (bif Nat.beq pc 3 then some (.bipush 100, []) else none) else (bif Nat.beq pc 5 then some (.if_icmp .ge 16, [21]) else none)))) else (bif Nat.blt pc 12 then (bif Nat.blt pc 9 then (bif Nat.beq pc 8 then some (.aload_n 0, []) else none) else (bif Nat.beq pc 9 then some (.getfield 32, []) else none)) else (bif Nat.blt pc 13 then (bif Nat.beq pc 12 then some (.iload_n 2, []) else none) else (bif Nat.blt pc 14 then (bif Nat.beq pc 13 then some (.iconst 0, []) else none) else (bif Nat.beq pc 14 then some (.bastore, []) else none))))) else (bif Nat.blt pc 24 then (bif Nat.blt pc 21 then (bif Nat.blt pc 18 then (bif Nat.beq pc 15 then some (.iinc 2 1, []) else none) else (bif Nat.beq pc 18 then some (.goto (-16), [2]) else none)) else (bif Nat.blt pc 22 then (bif Nat.beq pc 21 then some (.iconst 0, []) else none) else (bif Nat.blt pc 23 then (bif Nat.beq pc 22 then some (.istore_n 2, []) else none) else (bif Nat.beq pc 23 then some (.iload_n 2, []) else none)))) else (bif Nat.blt pc 31 then (bif Nat.blt pc 25 then (bif Nat.beq pc 24 then some (.aload_n 0, []) else none) else (bif Nat.blt pc 28 then (bif Nat.beq pc 25 then some (.getfield 52, []) else none) else (bif Nat.beq pc 28 then some (.if_icmp .ge 92, [120]) else none))) else (bif Nat.blt pc 32 then (bif Nat.beq pc 31 then some (.iconst 1, []) else none) else (bif Nat.blt pc 33 then (bif Nat.beq pc 32 then some (.istore_n 3, []) else none) else (bif Nat.beq pc 33 then some (.iload_n 3, []) else none)))))) else (bif Nat.blt pc 48 then (bif Nat.blt pc 43 then (bif Nat.blt pc 38 then (bif Nat.blt pc 35 then (bif Nat.beq pc 34 then some (.aload_n 0, []) else none) else (bif Nat.beq pc 35 then some (.getfield 7, []) else none)) else (bif Nat.blt pc 39 then (bif Nat.beq pc 38 then some (.iload_n 2, []) else none) else (bif Nat.blt pc 40 then (bif Nat.beq pc 39 then some (.iaload, []) else none) else (bif Nat.beq pc 40 then some (.if_icmp .ge 74, [114]) else none)))) else (bif Nat.blt pc 45 then (bif Nat.blt pc 44 then (bif Nat.beq pc 43 then some (.iload_n 1, []) else none) else (bif Nat.beq pc 44 then some (.iload_n 2, []) else none)) else (bif Nat.blt pc 46 then (bif Nat.beq pc 45 then some (.ishr, []) else none) else (bif Nat.blt pc 47 then (bif Nat.beq pc 46 then some (.iconst 1, []) else none) else (bif Nat.beq pc 47 then some (.iand, []) else none))))) else (bif Nat.blt pc 58 then (bif Nat.blt pc 52 then (bif Nat.blt pc 49 then (bif Nat.beq pc 48 then some (.iconst 1, []) else none) else (bif Nat.beq pc 49 then some (.if_icmp .ne 65, [114]) else none)) else (bif Nat.blt pc 53 then (bif Nat.beq pc 52 then some (.aload_n 0, []) else none) else (bif Nat.blt pc 56 then (bif Nat.beq pc 53 then some (.getfield 29, []) else none) else (bif Nat.beq pc 56 then some (.bipush 6, []) else none)))) else (bif Nat.blt pc 61 then (bif Nat.blt pc 59 then (bif Nat.beq pc 58 then some (.iload_n 2, []) else none) else (bif Nat.blt pc 60 then (bif Nat.beq pc 59 then some (.imul, []) else none) else (bif Nat.beq pc 60 then some (.iload_n 3, []) else none))) else (bif Nat.blt pc 62 then (bif Nat.beq pc 61 then some (.iadd, []) else none) else (bif Nat.blt pc 63 then (bif Nat.beq pc 62 then some (.iconst 1, []) else none) else (bif Nat.beq pc 63 then some (.isub, []) else none))))))) else (bif Nat.blt pc 95 then (bif Nat.blt pc 78 then (bif Nat.blt pc 73 then (bif Nat.blt pc 67 then (bif Nat.blt pc 65 then (bif Nat.beq pc 64 then some (.iaload, []) else none) else (bif Nat.beq pc 65 then some (.istore 4, []) else none)) else (bif Nat.blt pc 68 then (bif Nat.beq pc 67 then some (.aload_n 0, []) else none) else (bif Nat.blt pc 71 then (bif Nat.beq pc 68 then some (.getfield 29, []) else none) else (bif Nat.beq pc 71 then some (.bipush 6, []) else none)))) else (bif Nat.blt pc 75 then (bif Nat.blt pc 74 then (bif Nat.beq pc 73 then some (.iload_n 2, []) else none) else (bif Nat.beq pc 74 then some (.imul, []) else none)) else (bif Nat.blt pc 76 then (bif Nat.beq pc 75 then some (.iload_n 3, []) else none) else (bif Nat.blt pc 77 then (bif Nat.beq pc 76 then some (.iadd, []) else none) else (bif Nat.beq pc 77 then some (.iaload, []) else none))))) else (bif Nat.blt pc 88 then (bif Nat.blt pc 81 then (bif Nat.blt pc 80 then (bif Nat.beq pc 78 then some (.istore 5, []) else none) else (bif Nat.beq pc 80 then some (.aload_n 0, []) else none)) else (bif Nat.blt pc 84 then (bif Nat.beq pc 81 then some (.getfield 32, []) else none) else (bif Nat.blt pc 86 then (bif Nat.beq pc 84 then some (.bipush 10, []) else none) else (bif Nat.beq pc 86 then some (.iload 4, []) else none)))) else (bif Nat.blt pc 92 then (bif Nat.blt pc 89 then (bif Nat.beq pc 88 then some (.imul, []) else none) else (bif Nat.blt pc 91 then (bif Nat.beq pc 89 then some (.iload 5, []) else none) else (bif Nat.beq pc 91 then some (.iadd, []) else none))) else (bif Nat.blt pc 93 then (bif Nat.beq pc 92 then some (.iconst 1, []) else none) else (bif Nat.blt pc 94 then (bif Nat.beq pc 93 then some (.bastore, []) else none) else (bif Nat.beq pc 94 then some (.aload_n 0, []) else none)))))) else (bif Nat.blt pc 117 then (bif Nat.blt pc 105 then (bif Nat.blt pc 100 then (bif Nat.blt pc 98 then (bif Nat.beq pc 95 then some (.getfield 32, []) else none) else (bif Nat.beq pc 98 then some (.bipush 10, []) else none)) else (bif Nat.blt pc 102 then (bif Nat.beq pc 100 then some (.iload 5, []) else none) else (bif Nat.blt pc 103 then (bif Nat.beq pc 102 then some (.imul, []) else none) else (bif Nat.beq pc 103 then some (.iload 4, []) else none)))) else (bif Nat.blt pc 108 then (bif Nat.blt pc 106 then (bif Nat.beq pc 105 then some (.iadd, []) else none) else (bif Nat.blt pc 107 then (bif Nat.beq pc 106 then some (.iconst 1, []) else none) else (bif Nat.beq pc 107 then some (.bastore, []) else none))) else (bif Nat.blt pc 111 then (bif Nat.beq pc 108 then some (.iinc 3 1, []) else none) else (bif Nat.blt pc 114 then (bif Nat.beq pc 111 then some (.goto (-78), [33]) else none) else (bif Nat.beq pc 114 then some (.iinc 2 1, []) else none))))) else (bif Nat.blt pc 125 then (bif Nat.blt pc 121 then (bif Nat.blt pc 120 then (bif Nat.beq pc 117 then some (.goto (-94), [23]) else none) else (bif Nat.beq pc 120 then some (.iconst 0, []) else none)) else (bif Nat.blt pc 122 then (bif Nat.beq pc 121 then some (.istore_n 2, []) else none) else (bif Nat.blt pc 123 then (bif Nat.beq pc 122 then some (.iload_n 2, []) else none) else (bif Nat.beq pc 123 then some (.bipush 100, []) else none)))) else (bif Nat.blt pc 132 then (bif Nat.blt pc 128 then (bif Nat.beq pc 125 then some (.if_icmp .ge 45, [170]) else none) else (bif Nat.blt pc 129 then (bif Nat.beq pc 128 then some (.aload_n 0, []) else none) else (bif Nat.beq pc 129 then some (.getfield 35, []) else none))) else (bif Nat.blt pc 133 then (bif Nat.beq pc 132 then some (.iload_n 2, []) else none) else (bif Nat.blt pc 134 then (bif Nat.beq pc 133 then some (.iload_n 2, []) else none) else (bif Nat.beq pc 134 then some (.bipush 10, []) else none)))))))) else (bif Nat.blt pc 211 then (bif Nat.blt pc 173 then (bif Nat.blt pc 153 then (bif Nat.blt pc 144 then (bif Nat.blt pc 138 then (bif Nat.blt pc 137 then (bif Nat.beq pc 136 then some (.idiv, []) else none) else (bif Nat.beq pc 137 then some (.iload_n 2, []) else none)) else (bif Nat.blt pc 140 then (bif Nat.beq pc 138 then some (.bipush 10, []) else none) else (bif Nat.blt pc 141 then (bif Nat.beq pc 140 then some (.irem, []) else none) else (bif Nat.beq pc 141 then some (.if_icmp .ne 7, [148]) else none)))) else (bif Nat.blt pc 148 then (bif Nat.blt pc 145 then (bif Nat.beq pc 144 then some (.iconst 0, []) else none) else (bif Nat.beq pc 145 then some (.goto 18, [163]) else none)) else (bif Nat.blt pc 149 then (bif Nat.beq pc 148 then some (.aload_n 0, []) else none) else (bif Nat.blt pc 152 then (bif Nat.beq pc 149 then some (.getfield 32, []) else none) else (bif Nat.beq pc 152 then some (.iload_n 2, []) else none))))) else (bif Nat.blt pc 163 then (bif Nat.blt pc 157 then (bif Nat.blt pc 154 then (bif Nat.beq pc 153 then some (.baload, []) else none) else (bif Nat.beq pc 154 then some (.ifCond .eq 7, [161]) else none)) else (bif Nat.blt pc 158 then (bif Nat.beq pc 157 then some (.iconst 1, []) else none) else (bif Nat.blt pc 161 then (bif Nat.beq pc 158 then some (.goto 5, [163]) else none) else (bif Nat.beq pc 161 then some (.bipush 100, []) else none)))) else (bif Nat.blt pc 170 then (bif Nat.blt pc 164 then (bif Nat.beq pc 163 then some (.iastore, []) else none) else (bif Nat.blt pc 167 then (bif Nat.beq pc 164 then some (.iinc 2 1, []) else none) else (bif Nat.beq pc 167 then some (.goto (-45), [122]) else none))) else (bif Nat.blt pc 171 then (bif Nat.beq pc 170 then some (.iconst 0, []) else none) else (bif Nat.blt pc 172 then (bif Nat.beq pc 171 then some (.istore_n 2, []) else none) else (bif Nat.beq pc 172 then some (.iload_n 2, []) else none)))))) else (bif Nat.blt pc 193 then (bif Nat.blt pc 181 then (bif Nat.blt pc 178 then (bif Nat.blt pc 175 then (bif Nat.beq pc 173 then some (.bipush 10, []) else none) else (bif Nat.beq pc 175 then some (.if_icmp .ge 111, [286]) else none)) else (bif Nat.blt pc 179 then (bif Nat.beq pc 178 then some (.iconst 0, []) else none) else (bif Nat.blt pc 180 then (bif Nat.beq pc 179 then some (.istore_n 3, []) else none) else (bif Nat.beq pc 180 then some (.iload_n 3, []) else none)))) else (bif Nat.blt pc 187 then (bif Nat.blt pc 183 then (bif Nat.beq pc 181 then some (.bipush 10, []) else none) else (bif Nat.blt pc 186 then (bif Nat.beq pc 183 then some (.if_icmp .ge 97, [280]) else none) else (bif Nat.beq pc 186 then some (.iconst 0, []) else none))) else (bif Nat.blt pc 189 then (bif Nat.beq pc 187 then some (.istore 4, []) else none) else (bif Nat.blt pc 191 then (bif Nat.beq pc 189 then some (.iload 4, []) else none) else (bif Nat.beq pc 191 then some (.bipush 10, []) else none))))) else (bif Nat.blt pc 203 then (bif Nat.blt pc 197 then (bif Nat.blt pc 196 then (bif Nat.beq pc 193 then some (.if_icmp .ge 81, [274]) else none) else (bif Nat.beq pc 196 then some (.aload_n 0, []) else none)) else (bif Nat.blt pc 200 then (bif Nat.beq pc 197 then some (.getfield 35, []) else none) else (bif Nat.blt pc 202 then (bif Nat.beq pc 200 then some (.bipush 10, []) else none) else (bif Nat.beq pc 202 then some (.iload_n 3, []) else none)))) else (bif Nat.blt pc 206 then (bif Nat.blt pc 204 then (bif Nat.beq pc 203 then some (.imul, []) else none) else (bif Nat.blt pc 205 then (bif Nat.beq pc 204 then some (.iload_n 2, []) else none) else (bif Nat.beq pc 205 then some (.iadd, []) else none))) else (bif Nat.blt pc 207 then (bif Nat.beq pc 206 then some (.iaload, []) else none) else (bif Nat.blt pc 208 then (bif Nat.beq pc 207 then some (.aload_n 0, []) else none) else (bif Nat.beq pc 208 then some (.getfield 35, []) else none))))))) else (bif Nat.blt pc 243 then (bif Nat.blt pc 226 then (bif Nat.blt pc 218 then (bif Nat.blt pc 214 then (bif Nat.blt pc 213 then (bif Nat.beq pc 211 then some (.bipush 10, []) else none) else (bif Nat.beq pc 213 then some (.iload_n 2, []) else none)) else (bif Nat.blt pc 215 then (bif Nat.beq pc 214 then some (.imul, []) else none) else (bif Nat.blt pc 217 then (bif Nat.beq pc 215 then some (.iload 4, []) else none) else (bif Nat.beq pc 217 then some (.iadd, []) else none)))) else (bif Nat.blt pc 220 then (bif Nat.blt pc 219 then (bif Nat.beq pc 218 then some (.iaload, []) else none) else (bif Nat.beq pc 219 then some (.iadd, []) else none)) else (bif Nat.blt pc 222 then (bif Nat.beq pc 220 then some (.istore 5, []) else none) else (bif Nat.blt pc 223 then (bif Nat.beq pc 222 then some (.aload_n 0, []) else none) else (bif Nat.beq pc 223 then some (.getfield 35, []) else none))))) else (bif Nat.blt pc 233 then (bif Nat.blt pc 229 then (bif Nat.blt pc 228 then (bif Nat.beq pc 226 then some (.bipush 10, []) else none) else (bif Nat.beq pc 228 then some (.iload_n 3, []) else none)) else (bif Nat.blt pc 230 then (bif Nat.beq pc 229 then some (.imul, []) else none) else (bif Nat.blt pc 232 then (bif Nat.beq pc 230 then some (.iload 4, []) else none) else (bif Nat.beq pc 232 then some (.iadd, []) else none)))) else (bif Nat.blt pc 239 then (bif Nat.blt pc 235 then (bif Nat.beq pc 233 then some (.iload 5, []) else none) else (bif Nat.blt pc 236 then (bif Nat.beq pc 235 then some (.aload_n 0, []) else none) else (bif Nat.beq pc 236 then some (.getfield 35, []) else none))) else (bif Nat.blt pc 241 then (bif Nat.beq pc 239 then some (.bipush 10, []) else none) else (bif Nat.blt pc 242 then (bif Nat.beq pc 241 then some (.iload_n 3, []) else none) else (bif Nat.beq pc 242 then some (.imul, []) else none)))))) else (bif Nat.blt pc 263 then (bif Nat.blt pc 252 then (bif Nat.blt pc 246 then (bif Nat.blt pc 245 then (bif Nat.beq pc 243 then some (.iload 4, []) else none) else (bif Nat.beq pc 245 then some (.iadd, []) else none)) else (bif Nat.blt pc 247 then (bif Nat.beq pc 246 then some (.iaload, []) else none) else (bif Nat.blt pc 250 then (bif Nat.beq pc 247 then some (.if_icmp .ge 8, [255]) else none) else (bif Nat.beq pc 250 then some (.iload 5, []) else none)))) else (bif Nat.blt pc 259 then (bif Nat.blt pc 255 then (bif Nat.beq pc 252 then some (.goto 15, [267]) else none) else (bif Nat.blt pc 256 then (bif Nat.beq pc 255 then some (.aload_n 0, []) else none) else (bif Nat.beq pc 256 then some (.getfield 35, []) else none))) else (bif Nat.blt pc 261 then (bif Nat.beq pc 259 then some (.bipush 10, []) else none) else (bif Nat.blt pc 262 then (bif Nat.beq pc 261 then some (.iload_n 3, []) else none) else (bif Nat.beq pc 262 then some (.imul, []) else none))))) else (bif Nat.blt pc 271 then (bif Nat.blt pc 266 then (bif Nat.blt pc 265 then (bif Nat.beq pc 263 then some (.iload 4, []) else none) else (bif Nat.beq pc 265 then some (.iadd, []) else none)) else (bif Nat.blt pc 267 then (bif Nat.beq pc 266 then some (.iaload, []) else none) else (bif Nat.blt pc 268 then (bif Nat.beq pc 267 then some (.iastore, []) else none) else (bif Nat.beq pc 268 then some (.iinc 4 1, []) else none)))) else (bif Nat.blt pc 280 then (bif Nat.blt pc 274 then (bif Nat.beq pc 271 then some (.goto (-82), [189]) else none) else (bif Nat.blt pc 277 then (bif Nat.beq pc 274 then some (.iinc 3 1, []) else none) else (bif Nat.beq pc 277 then some (.goto (-97), [180]) else none))) else (bif Nat.blt pc 283 then (bif Nat.beq pc 280 then some (.iinc 2 1, []) else none) else (bif Nat.blt pc 286 then (bif Nat.beq pc 283 then some (.goto (-111), [172]) else none) else (bif Nat.beq pc 286 then some (.return_, []) else none))))))))))
set_option maxRecDepth 100000 in
theorem oX6_layLines : xIOk cX6_layLines iX6_layLines := xIOk_of (N := 287) (fun pc h => xtree_none h) (by decide +kernel)
set_option maxRecDepth 100000 in
theorem yoX6_layLines : xYOk yX6_layLines cX6_layLines 6 none 1 := ⟨by decide, xm 729 (by decide +kernel) rfl, xm 47 (by decide +kernel) rfl, by decide +kernel, by decide +kernel⟩
set_option maxRecDepth 100000 in
def iX6_hasOnce : Nat → Option (Instr × List Nat) := xtree 54 (fun pc => (bif Nat.blt pc 27 then (bif Nat.blt pc 11 then (bif Nat.blt pc 4 then (bif Nat.blt pc 2 then (bif Nat.blt pc 1 then (bif Nat.beq pc 0 then some (.iconst 0, []) else none) else (bif Nat.beq pc 1 then some (.istore_n 2, []) else none)) else (bif Nat.blt pc 3 then (bif Nat.beq pc 2 then some (.iconst 0, []) else none) else (bif Nat.beq pc 3 then some (.istore_n 3, []) else none))) else (bif Nat.blt pc 6 then (bif Nat.blt pc 5 then (bif Nat.beq pc 4 then some (.iload_n 3, []) else none) else (bif Nat.beq pc 5 then some (.aload_n 0, []) else none)) else (bif Nat.blt pc 9 then (bif Nat.beq pc 6 then some (.getfield 7, []) else none) else (bif Nat.blt pc 10 then (bif Nat.beq pc 9 then some (.iload_n 1, []) else none) else (bif Nat.beq pc 10 then some (.iaload, []) else none))))) else (bif Nat.blt pc 21 then (bif Nat.blt pc 15 then (bif Nat.blt pc 14 then (bif Nat.beq pc 11 then some (.if_icmp .ge 41, [52]) else none) else (bif Nat.beq pc 14 then some (.aload_n 0, []) else none)) else (bif Nat.blt pc 18 then (bif Nat.beq pc 15 then some (.getfield 29, []) else none) else (bif Nat.blt pc 20 then (bif Nat.beq pc 18 then some (.bipush 6, []) else none) else (bif Nat.beq pc 20 then some (.iload_n 1, []) else none)))) else (bif Nat.blt pc 23 then (bif Nat.blt pc 22 then (bif Nat.beq pc 21 then some (.imul, []) else none) else (bif Nat.beq pc 22 then some (.iload_n 3, []) else none)) else (bif Nat.blt pc 24 then (bif Nat.beq pc 23 then some (.iadd, []) else none) else (bif Nat.blt pc 25 then (bif Nat.beq pc 24 then some (.iaload, []) else none) else (bif Nat.beq pc 25 then some (.istore 4, []) else none)))))) else (bif Nat.blt pc 39 then (bif Nat.blt pc 32 then (bif Nat.blt pc 30 then (bif Nat.blt pc 28 then (bif Nat.beq pc 27 then some (.iload_n 2, []) else none) else (bif Nat.beq pc 28 then some (.iload 4, []) else none)) else (bif Nat.blt pc 31 then (bif Nat.beq pc 30 then some (.ishr, []) else none) else (bif Nat.beq pc 31 then some (.iconst 1, []) else none))) else (bif Nat.blt pc 34 then (bif Nat.blt pc 33 then (bif Nat.beq pc 32 then some (.iand, []) else none) else (bif Nat.beq pc 33 then some (.iconst 1, []) else none)) else (bif Nat.blt pc 37 then (bif Nat.beq pc 34 then some (.if_icmp .ne 5, [39]) else none) else (bif Nat.blt pc 38 then (bif Nat.beq pc 37 then some (.iconst 0, []) else none) else (bif Nat.beq pc 38 then some (.ireturn, []) else none))))) else (bif Nat.blt pc 45 then (bif Nat.blt pc 41 then (bif Nat.blt pc 40 then (bif Nat.beq pc 39 then some (.iload_n 2, []) else none) else (bif Nat.beq pc 40 then some (.iconst 1, []) else none)) else (bif Nat.blt pc 43 then (bif Nat.beq pc 41 then some (.iload 4, []) else none) else (bif Nat.blt pc 44 then (bif Nat.beq pc 43 then some (.ishl, []) else none) else (bif Nat.beq pc 44 then some (.ior, []) else none)))) else (bif Nat.blt pc 49 then (bif Nat.blt pc 46 then (bif Nat.beq pc 45 then some (.istore_n 2, []) else none) else (bif Nat.beq pc 46 then some (.iinc 3 1, []) else none)) else (bif Nat.blt pc 52 then (bif Nat.beq pc 49 then some (.goto (-45), [4]) else none) else (bif Nat.blt pc 53 then (bif Nat.beq pc 52 then some (.iconst 1, []) else none) else (bif Nat.beq pc 53 then some (.ireturn, []) else none))))))))
set_option maxRecDepth 100000 in
theorem oX6_hasOnce : xIOk cX6_hasOnce iX6_hasOnce := xIOk_of (N := 54) (fun pc h => xtree_none h) (by decide +kernel)
set_option maxRecDepth 100000 in
theorem yoX6_hasOnce : xYOk yX6_hasOnce cX6_hasOnce 5 (some .boolean) 1 := ⟨by decide, xm 725 (by decide +kernel) rfl, xm 47 (by decide +kernel) rfl, by decide +kernel, by decide +kernel⟩
set_option maxRecDepth 100000 in
def iX6_fits : Nat → Option (Instr × List Nat) := xtree 127 (fun pc => (bif Nat.blt pc 65 then (bif Nat.blt pc 32 then (bif Nat.blt pc 16 then (bif Nat.blt pc 7 then (bif Nat.blt pc 2 then (bif Nat.blt pc 1 then (bif Nat.beq pc 0 then some (.aload_n 0, []) else none) else (bif Nat.beq pc 1 then some (.iload_n 1, []) else none)) else (bif Nat.blt pc 5 then (bif Nat.beq pc 2 then some (.invokevirtual 81, []) else none) else (bif Nat.blt pc 6 then (bif Nat.beq pc 5 then some (.iconst 0, []) else none) else (bif Nat.beq pc 6 then some (.istore_n 2, []) else none)))) else (bif Nat.blt pc 9 then (bif Nat.blt pc 8 then (bif Nat.beq pc 7 then some (.iload_n 2, []) else none) else (bif Nat.beq pc 8 then some (.aload_n 0, []) else none)) else (bif Nat.blt pc 12 then (bif Nat.beq pc 9 then some (.getfield 52, []) else none) else (bif Nat.blt pc 15 then (bif Nat.beq pc 12 then some (.if_icmp .ge 28, [40]) else none) else (bif Nat.beq pc 15 then some (.iload_n 1, []) else none))))) else (bif Nat.blt pc 21 then (bif Nat.blt pc 18 then (bif Nat.blt pc 17 then (bif Nat.beq pc 16 then some (.iload_n 2, []) else none) else (bif Nat.beq pc 17 then some (.ishr, []) else none)) else (bif Nat.blt pc 19 then (bif Nat.beq pc 18 then some (.iconst 1, []) else none) else (bif Nat.blt pc 20 then (bif Nat.beq pc 19 then some (.iand, []) else none) else (bif Nat.beq pc 20 then some (.iconst 1, []) else none)))) else (bif Nat.blt pc 25 then (bif Nat.blt pc 24 then (bif Nat.beq pc 21 then some (.if_icmp .ne 13, [34]) else none) else (bif Nat.beq pc 24 then some (.aload_n 0, []) else none)) else (bif Nat.blt pc 26 then (bif Nat.beq pc 25 then some (.iload_n 2, []) else none) else (bif Nat.blt pc 29 then (bif Nat.beq pc 26 then some (.invokevirtual 85, []) else none) else (bif Nat.beq pc 29 then some (.ifCond .ne 5, [34]) else none)))))) else (bif Nat.blt pc 48 then (bif Nat.blt pc 41 then (bif Nat.blt pc 34 then (bif Nat.blt pc 33 then (bif Nat.beq pc 32 then some (.iconst 0, []) else none) else (bif Nat.beq pc 33 then some (.ireturn, []) else none)) else (bif Nat.blt pc 37 then (bif Nat.beq pc 34 then some (.iinc 2 1, []) else none) else (bif Nat.blt pc 40 then (bif Nat.beq pc 37 then some (.goto (-30), [7]) else none) else (bif Nat.beq pc 40 then some (.aload_n 0, []) else none)))) else (bif Nat.blt pc 45 then (bif Nat.blt pc 42 then (bif Nat.beq pc 41 then some (.iload_n 1, []) else none) else (bif Nat.beq pc 42 then some (.invokevirtual 88, []) else none)) else (bif Nat.blt pc 46 then (bif Nat.beq pc 45 then some (.iconst 0, []) else none) else (bif Nat.blt pc 47 then (bif Nat.beq pc 46 then some (.istore_n 2, []) else none) else (bif Nat.beq pc 47 then some (.iload_n 2, []) else none))))) else (bif Nat.blt pc 57 then (bif Nat.blt pc 52 then (bif Nat.blt pc 49 then (bif Nat.beq pc 48 then some (.aload_n 0, []) else none) else (bif Nat.beq pc 49 then some (.getfield 52, []) else none)) else (bif Nat.blt pc 55 then (bif Nat.beq pc 52 then some (.if_icmp .ge 73, [125]) else none) else (bif Nat.blt pc 56 then (bif Nat.beq pc 55 then some (.iload_n 1, []) else none) else (bif Nat.beq pc 56 then some (.iload_n 2, []) else none)))) else (bif Nat.blt pc 60 then (bif Nat.blt pc 58 then (bif Nat.beq pc 57 then some (.ishr, []) else none) else (bif Nat.blt pc 59 then (bif Nat.beq pc 58 then some (.iconst 1, []) else none) else (bif Nat.beq pc 59 then some (.iand, []) else none))) else (bif Nat.blt pc 61 then (bif Nat.beq pc 60 then some (.iconst 1, []) else none) else (bif Nat.blt pc 64 then (bif Nat.beq pc 61 then some (.if_icmp .ne 58, [119]) else none) else (bif Nat.beq pc 64 then some (.aload_n 0, []) else none))))))) else (bif Nat.blt pc 94 then (bif Nat.blt pc 81 then (bif Nat.blt pc 73 then (bif Nat.blt pc 70 then (bif Nat.blt pc 68 then (bif Nat.beq pc 65 then some (.getfield 29, []) else none) else (bif Nat.beq pc 68 then some (.bipush 6, []) else none)) else (bif Nat.blt pc 71 then (bif Nat.beq pc 70 then some (.iload_n 2, []) else none) else (bif Nat.blt pc 72 then (bif Nat.beq pc 71 then some (.imul, []) else none) else (bif Nat.beq pc 72 then some (.iaload, []) else none)))) else (bif Nat.blt pc 75 then (bif Nat.blt pc 74 then (bif Nat.beq pc 73 then some (.istore_n 3, []) else none) else (bif Nat.beq pc 74 then some (.aload_n 0, []) else none)) else (bif Nat.blt pc 78 then (bif Nat.beq pc 75 then some (.getfield 29, []) else none) else (bif Nat.blt pc 80 then (bif Nat.beq pc 78 then some (.bipush 6, []) else none) else (bif Nat.beq pc 80 then some (.iload_n 2, []) else none))))) else (bif Nat.blt pc 88 then (bif Nat.blt pc 83 then (bif Nat.blt pc 82 then (bif Nat.beq pc 81 then some (.imul, []) else none) else (bif Nat.beq pc 82 then some (.aload_n 0, []) else none)) else (bif Nat.blt pc 86 then (bif Nat.beq pc 83 then some (.getfield 7, []) else none) else (bif Nat.blt pc 87 then (bif Nat.beq pc 86 then some (.iload_n 2, []) else none) else (bif Nat.beq pc 87 then some (.iaload, []) else none)))) else (bif Nat.blt pc 90 then (bif Nat.blt pc 89 then (bif Nat.beq pc 88 then some (.iadd, []) else none) else (bif Nat.beq pc 89 then some (.iconst 1, []) else none)) else (bif Nat.blt pc 91 then (bif Nat.beq pc 90 then some (.isub, []) else none) else (bif Nat.blt pc 92 then (bif Nat.beq pc 91 then some (.iaload, []) else none) else (bif Nat.beq pc 92 then some (.istore 4, []) else none)))))) else (bif Nat.blt pc 110 then (bif Nat.blt pc 102 then (bif Nat.blt pc 98 then (bif Nat.blt pc 95 then (bif Nat.beq pc 94 then some (.aload_n 0, []) else none) else (bif Nat.beq pc 95 then some (.getfield 35, []) else none)) else (bif Nat.blt pc 100 then (bif Nat.beq pc 98 then some (.bipush 10, []) else none) else (bif Nat.blt pc 101 then (bif Nat.beq pc 100 then some (.iload_n 3, []) else none) else (bif Nat.beq pc 101 then some (.imul, []) else none)))) else (bif Nat.blt pc 105 then (bif Nat.blt pc 104 then (bif Nat.beq pc 102 then some (.iload 4, []) else none) else (bif Nat.beq pc 104 then some (.iadd, []) else none)) else (bif Nat.blt pc 106 then (bif Nat.beq pc 105 then some (.iaload, []) else none) else (bif Nat.blt pc 107 then (bif Nat.beq pc 106 then some (.aload_n 0, []) else none) else (bif Nat.beq pc 107 then some (.getfield 7, []) else none))))) else (bif Nat.blt pc 117 then (bif Nat.blt pc 112 then (bif Nat.blt pc 111 then (bif Nat.beq pc 110 then some (.iload_n 2, []) else none) else (bif Nat.beq pc 111 then some (.iaload, []) else none)) else (bif Nat.blt pc 113 then (bif Nat.beq pc 112 then some (.iconst 1, []) else none) else (bif Nat.blt pc 114 then (bif Nat.beq pc 113 then some (.isub, []) else none) else (bif Nat.beq pc 114 then some (.if_icmp .ge 5, [119]) else none)))) else (bif Nat.blt pc 122 then (bif Nat.blt pc 118 then (bif Nat.beq pc 117 then some (.iconst 0, []) else none) else (bif Nat.blt pc 119 then (bif Nat.beq pc 118 then some (.ireturn, []) else none) else (bif Nat.beq pc 119 then some (.iinc 2 1, []) else none))) else (bif Nat.blt pc 125 then (bif Nat.beq pc 122 then some (.goto (-75), [47]) else none) else (bif Nat.blt pc 126 then (bif Nat.beq pc 125 then some (.iconst 1, []) else none) else (bif Nat.beq pc 126 then some (.ireturn, []) else none)))))))))
set_option maxRecDepth 100000 in
theorem oX6_fits : xIOk cX6_fits iX6_fits := xIOk_of (N := 127) (fun pc h => xtree_none h) (by decide +kernel)
set_option maxRecDepth 100000 in
theorem yoX6_fits : xYOk yX6_fits cX6_fits 5 (some .boolean) 1 := ⟨by decide, xm 717 (by decide +kernel) rfl, xm 47 (by decide +kernel) rfl, by decide +kernel, by decide +kernel⟩
set_option maxRecDepth 100000 in
def iX6_begin : Nat → Option (Instr × List Nat) := xtree 79 (fun pc => (bif Nat.blt pc 37 then (bif Nat.blt pc 17 then (bif Nat.blt pc 7 then (bif Nat.blt pc 2 then (bif Nat.blt pc 1 then (bif Nat.beq pc 0 then some (.aload_n 0, []) else none) else (bif Nat.beq pc 1 then some (.iconst 0, []) else none)) else (bif Nat.blt pc 5 then (bif Nat.beq pc 2 then some (.putfield 91, []) else none) else (bif Nat.blt pc 6 then (bif Nat.beq pc 5 then some (.iconst 0, []) else none) else (bif Nat.beq pc 6 then some (.istore_n 2, []) else none)))) else (bif Nat.blt pc 12 then (bif Nat.blt pc 8 then (bif Nat.beq pc 7 then some (.iload_n 2, []) else none) else (bif Nat.blt pc 9 then (bif Nat.beq pc 8 then some (.aload_n 0, []) else none) else (bif Nat.beq pc 9 then some (.getfield 52, []) else none))) else (bif Nat.blt pc 15 then (bif Nat.beq pc 12 then some (.if_icmp .ge 36, [48]) else none) else (bif Nat.blt pc 16 then (bif Nat.beq pc 15 then some (.aload_n 0, []) else none) else (bif Nat.beq pc 16 then some (.dup, []) else none))))) else (bif Nat.blt pc 25 then (bif Nat.blt pc 22 then (bif Nat.blt pc 20 then (bif Nat.beq pc 17 then some (.getfield 91, []) else none) else (bif Nat.blt pc 21 then (bif Nat.beq pc 20 then some (.iload_n 1, []) else none) else (bif Nat.beq pc 21 then some (.iload_n 2, []) else none))) else (bif Nat.blt pc 23 then (bif Nat.beq pc 22 then some (.ishr, []) else none) else (bif Nat.blt pc 24 then (bif Nat.beq pc 23 then some (.iconst 1, []) else none) else (bif Nat.beq pc 24 then some (.iand, []) else none)))) else (bif Nat.blt pc 30 then (bif Nat.blt pc 26 then (bif Nat.beq pc 25 then some (.iconst 1, []) else none) else (bif Nat.blt pc 29 then (bif Nat.beq pc 26 then some (.if_icmp .ne 11, [37]) else none) else (bif Nat.beq pc 29 then some (.aload_n 0, []) else none))) else (bif Nat.blt pc 31 then (bif Nat.beq pc 30 then some (.iload_n 2, []) else none) else (bif Nat.blt pc 34 then (bif Nat.beq pc 31 then some (.invokevirtual 56, []) else none) else (bif Nat.beq pc 34 then some (.goto 4, [38]) else none)))))) else (bif Nat.blt pc 59 then (bif Nat.blt pc 49 then (bif Nat.blt pc 42 then (bif Nat.blt pc 38 then (bif Nat.beq pc 37 then some (.iconst 0, []) else none) else (bif Nat.blt pc 39 then (bif Nat.beq pc 38 then some (.iadd, []) else none) else (bif Nat.beq pc 39 then some (.putfield 91, []) else none))) else (bif Nat.blt pc 45 then (bif Nat.beq pc 42 then some (.iinc 2 1, []) else none) else (bif Nat.blt pc 48 then (bif Nat.beq pc 45 then some (.goto (-38), [7]) else none) else (bif Nat.beq pc 48 then some (.iconst 0, []) else none)))) else (bif Nat.blt pc 52 then (bif Nat.blt pc 50 then (bif Nat.beq pc 49 then some (.istore_n 2, []) else none) else (bif Nat.blt pc 51 then (bif Nat.beq pc 50 then some (.iload_n 2, []) else none) else (bif Nat.beq pc 51 then some (.aload_n 0, []) else none))) else (bif Nat.blt pc 55 then (bif Nat.beq pc 52 then some (.getfield 91, []) else none) else (bif Nat.blt pc 58 then (bif Nat.beq pc 55 then some (.if_icmp .ge 23, [78]) else none) else (bif Nat.beq pc 58 then some (.aload_n 0, []) else none))))) else (bif Nat.blt pc 67 then (bif Nat.blt pc 64 then (bif Nat.blt pc 62 then (bif Nat.beq pc 59 then some (.getfield 26, []) else none) else (bif Nat.blt pc 63 then (bif Nat.beq pc 62 then some (.iload_n 2, []) else none) else (bif Nat.beq pc 63 then some (.iconst (-1), []) else none))) else (bif Nat.blt pc 65 then (bif Nat.beq pc 64 then some (.iastore, []) else none) else (bif Nat.blt pc 66 then (bif Nat.beq pc 65 then some (.aload_n 0, []) else none) else (bif Nat.beq pc 66 then some (.iload_n 1, []) else none)))) else (bif Nat.blt pc 72 then (bif Nat.blt pc 68 then (bif Nat.beq pc 67 then some (.iload_n 2, []) else none) else (bif Nat.blt pc 71 then (bif Nat.beq pc 68 then some (.invokevirtual 94, []) else none) else (bif Nat.beq pc 71 then some (.pop, []) else none))) else (bif Nat.blt pc 75 then (bif Nat.beq pc 72 then some (.iinc 2 1, []) else none) else (bif Nat.blt pc 78 then (bif Nat.beq pc 75 then some (.goto (-25), [50]) else none) else (bif Nat.beq pc 78 then some (.return_, []) else none))))))))
set_option maxRecDepth 100000 in
theorem oX6_begin : xIOk cX6_begin iX6_begin := xIOk_of (N := 79) (fun pc h => xtree_none h) (by decide +kernel)
set_option maxRecDepth 100000 in
theorem yoX6_begin : xYOk yX6_begin cX6_begin 3 none 1 := ⟨by decide, xm 705 (by decide +kernel) rfl, xm 47 (by decide +kernel) rfl, by decide +kernel, by decide +kernel⟩
set_option maxRecDepth 100000 in
def iX6_raise : Nat → Option (Instr × List Nat) := xtree 96 (fun pc => (bif Nat.blt pc 47 then (bif Nat.blt pc 23 then (bif Nat.blt pc 9 then (bif Nat.blt pc 4 then (bif Nat.blt pc 2 then (bif Nat.beq pc 0 then some (.bipush 6, []) else none) else (bif Nat.blt pc 3 then (bif Nat.beq pc 2 then some (.istore_n 3, []) else none) else (bif Nat.beq pc 3 then some (.iconst 0, []) else none))) else (bif Nat.blt pc 6 then (bif Nat.beq pc 4 then some (.istore 4, []) else none) else (bif Nat.blt pc 8 then (bif Nat.beq pc 6 then some (.iload 4, []) else none) else (bif Nat.beq pc 8 then some (.iload_n 2, []) else none)))) else (bif Nat.blt pc 16 then (bif Nat.blt pc 12 then (bif Nat.beq pc 9 then some (.if_icmp .ge 34, [43]) else none) else (bif Nat.blt pc 13 then (bif Nat.beq pc 12 then some (.aload_n 0, []) else none) else (bif Nat.beq pc 13 then some (.getfield 26, []) else none))) else (bif Nat.blt pc 19 then (bif Nat.blt pc 18 then (bif Nat.beq pc 16 then some (.iload 4, []) else none) else (bif Nat.beq pc 18 then some (.iaload, []) else none)) else (bif Nat.blt pc 20 then (bif Nat.beq pc 19 then some (.iload_n 3, []) else none) else (bif Nat.beq pc 20 then some (.if_icmp .lt 15, [35]) else none))))) else (bif Nat.blt pc 32 then (bif Nat.blt pc 29 then (bif Nat.blt pc 24 then (bif Nat.beq pc 23 then some (.aload_n 0, []) else none) else (bif Nat.blt pc 27 then (bif Nat.beq pc 24 then some (.getfield 26, []) else none) else (bif Nat.beq pc 27 then some (.iload 4, []) else none))) else (bif Nat.blt pc 30 then (bif Nat.beq pc 29 then some (.iaload, []) else none) else (bif Nat.blt pc 31 then (bif Nat.beq pc 30 then some (.iconst 1, []) else none) else (bif Nat.beq pc 31 then some (.iadd, []) else none)))) else (bif Nat.blt pc 37 then (bif Nat.blt pc 35 then (bif Nat.beq pc 32 then some (.goto 4, [36]) else none) else (bif Nat.blt pc 36 then (bif Nat.beq pc 35 then some (.iload_n 3, []) else none) else (bif Nat.beq pc 36 then some (.istore_n 3, []) else none))) else (bif Nat.blt pc 43 then (bif Nat.blt pc 40 then (bif Nat.beq pc 37 then some (.iinc 4 1, []) else none) else (bif Nat.beq pc 40 then some (.goto (-34), [6]) else none)) else (bif Nat.blt pc 44 then (bif Nat.beq pc 43 then some (.aload_n 0, []) else none) else (bif Nat.beq pc 44 then some (.getfield 26, []) else none)))))) else (bif Nat.blt pc 70 then (bif Nat.blt pc 55 then (bif Nat.blt pc 50 then (bif Nat.blt pc 48 then (bif Nat.beq pc 47 then some (.iload_n 2, []) else none) else (bif Nat.blt pc 49 then (bif Nat.beq pc 48 then some (.iaload, []) else none) else (bif Nat.beq pc 49 then some (.iconst 1, []) else none))) else (bif Nat.blt pc 51 then (bif Nat.beq pc 50 then some (.iadd, []) else none) else (bif Nat.blt pc 53 then (bif Nat.beq pc 51 then some (.istore 4, []) else none) else (bif Nat.beq pc 53 then some (.iload 4, []) else none)))) else (bif Nat.blt pc 61 then (bif Nat.blt pc 57 then (bif Nat.beq pc 55 then some (.bipush 6, []) else none) else (bif Nat.blt pc 60 then (bif Nat.beq pc 57 then some (.if_icmp .ge 19, [76]) else none) else (bif Nat.beq pc 60 then some (.aload_n 0, []) else none))) else (bif Nat.blt pc 64 then (bif Nat.blt pc 62 then (bif Nat.beq pc 61 then some (.iload_n 1, []) else none) else (bif Nat.beq pc 62 then some (.iload 4, []) else none)) else (bif Nat.blt pc 67 then (bif Nat.beq pc 64 then some (.invokevirtual 78, []) else none) else (bif Nat.beq pc 67 then some (.ifCond .ne 9, [76]) else none))))) else (bif Nat.blt pc 84 then (bif Nat.blt pc 77 then (bif Nat.blt pc 73 then (bif Nat.beq pc 70 then some (.iinc 4 1, []) else none) else (bif Nat.blt pc 76 then (bif Nat.beq pc 73 then some (.goto (-20), [53]) else none) else (bif Nat.beq pc 76 then some (.aload_n 0, []) else none))) else (bif Nat.blt pc 81 then (bif Nat.blt pc 80 then (bif Nat.beq pc 77 then some (.getfield 26, []) else none) else (bif Nat.beq pc 80 then some (.iload_n 2, []) else none)) else (bif Nat.blt pc 83 then (bif Nat.beq pc 81 then some (.iload 4, []) else none) else (bif Nat.beq pc 83 then some (.iastore, []) else none)))) else (bif Nat.blt pc 90 then (bif Nat.blt pc 86 then (bif Nat.beq pc 84 then some (.iload 4, []) else none) else (bif Nat.blt pc 87 then (bif Nat.beq pc 86 then some (.iload_n 3, []) else none) else (bif Nat.beq pc 87 then some (.if_icmp .gt 7, [94]) else none))) else (bif Nat.blt pc 94 then (bif Nat.blt pc 91 then (bif Nat.beq pc 90 then some (.iconst 1, []) else none) else (bif Nat.beq pc 91 then some (.goto 4, [95]) else none)) else (bif Nat.blt pc 95 then (bif Nat.beq pc 94 then some (.iconst 0, []) else none) else (bif Nat.beq pc 95 then some (.ireturn, []) else none))))))))
set_option maxRecDepth 100000 in
theorem oX6_raise : xIOk cX6_raise iX6_raise := xIOk_of (N := 96) (fun pc h => xtree_none h) (by decide +kernel)
set_option maxRecDepth 100000 in
theorem yoX6_raise : xYOk yX6_raise cX6_raise 5 (some .boolean) 2 := ⟨by decide, xm 709 (by decide +kernel) rfl, xm 47 (by decide +kernel) rfl, by decide +kernel, by decide +kernel⟩
set_option maxRecDepth 100000 in
def iX6_goOn : Nat → Option (Instr × List Nat) := xtree 72 (fun pc => (bif Nat.blt pc 35 then (bif Nat.blt pc 14 then (bif Nat.blt pc 7 then (bif Nat.blt pc 4 then (bif Nat.blt pc 1 then (bif Nat.beq pc 0 then some (.aload_n 0, []) else none) else (bif Nat.beq pc 1 then some (.getfield 91, []) else none)) else (bif Nat.blt pc 5 then (bif Nat.beq pc 4 then some (.iconst 1, []) else none) else (bif Nat.blt pc 6 then (bif Nat.beq pc 5 then some (.isub, []) else none) else (bif Nat.beq pc 6 then some (.istore_n 2, []) else none)))) else (bif Nat.blt pc 11 then (bif Nat.blt pc 8 then (bif Nat.beq pc 7 then some (.iload_n 2, []) else none) else (bif Nat.beq pc 8 then some (.ifCond .lt 18, [26]) else none)) else (bif Nat.blt pc 12 then (bif Nat.beq pc 11 then some (.aload_n 0, []) else none) else (bif Nat.blt pc 13 then (bif Nat.beq pc 12 then some (.iload_n 1, []) else none) else (bif Nat.beq pc 13 then some (.iload_n 2, []) else none))))) else (bif Nat.blt pc 27 then (bif Nat.blt pc 20 then (bif Nat.blt pc 17 then (bif Nat.beq pc 14 then some (.invokevirtual 94, []) else none) else (bif Nat.beq pc 17 then some (.ifCond .ne 9, [26]) else none)) else (bif Nat.blt pc 23 then (bif Nat.beq pc 20 then some (.iinc 2 (-1), []) else none) else (bif Nat.blt pc 26 then (bif Nat.beq pc 23 then some (.goto (-16), [7]) else none) else (bif Nat.beq pc 26 then some (.iload_n 2, []) else none)))) else (bif Nat.blt pc 30 then (bif Nat.blt pc 28 then (bif Nat.beq pc 27 then some (.iconst 1, []) else none) else (bif Nat.blt pc 29 then (bif Nat.beq pc 28 then some (.iadd, []) else none) else (bif Nat.beq pc 29 then some (.istore_n 3, []) else none))) else (bif Nat.blt pc 31 then (bif Nat.beq pc 30 then some (.iload_n 3, []) else none) else (bif Nat.blt pc 32 then (bif Nat.beq pc 31 then some (.aload_n 0, []) else none) else (bif Nat.beq pc 32 then some (.getfield 91, []) else none)))))) else (bif Nat.blt pc 51 then (bif Nat.blt pc 46 then (bif Nat.blt pc 39 then (bif Nat.blt pc 38 then (bif Nat.beq pc 35 then some (.if_icmp .ge 27, [62]) else none) else (bif Nat.beq pc 38 then some (.iload_n 2, []) else none)) else (bif Nat.blt pc 42 then (bif Nat.beq pc 39 then some (.ifCond .lt 23, [62]) else none) else (bif Nat.blt pc 43 then (bif Nat.beq pc 42 then some (.aload_n 0, []) else none) else (bif Nat.beq pc 43 then some (.getfield 26, []) else none)))) else (bif Nat.blt pc 48 then (bif Nat.blt pc 47 then (bif Nat.beq pc 46 then some (.iload_n 3, []) else none) else (bif Nat.beq pc 47 then some (.iconst (-1), []) else none)) else (bif Nat.blt pc 49 then (bif Nat.beq pc 48 then some (.iastore, []) else none) else (bif Nat.blt pc 50 then (bif Nat.beq pc 49 then some (.aload_n 0, []) else none) else (bif Nat.beq pc 50 then some (.iload_n 1, []) else none))))) else (bif Nat.blt pc 62 then (bif Nat.blt pc 55 then (bif Nat.blt pc 52 then (bif Nat.beq pc 51 then some (.iload_n 3, []) else none) else (bif Nat.beq pc 52 then some (.invokevirtual 94, []) else none)) else (bif Nat.blt pc 56 then (bif Nat.beq pc 55 then some (.pop, []) else none) else (bif Nat.blt pc 59 then (bif Nat.beq pc 56 then some (.iinc 3 1, []) else none) else (bif Nat.beq pc 59 then some (.goto (-29), [30]) else none)))) else (bif Nat.blt pc 67 then (bif Nat.blt pc 63 then (bif Nat.beq pc 62 then some (.iload_n 2, []) else none) else (bif Nat.blt pc 66 then (bif Nat.beq pc 63 then some (.ifCond .lt 7, [70]) else none) else (bif Nat.beq pc 66 then some (.iconst 1, []) else none))) else (bif Nat.blt pc 70 then (bif Nat.beq pc 67 then some (.goto 4, [71]) else none) else (bif Nat.blt pc 71 then (bif Nat.beq pc 70 then some (.iconst 0, []) else none) else (bif Nat.beq pc 71 then some (.ireturn, []) else none))))))))
set_option maxRecDepth 100000 in
theorem oX6_goOn : xIOk cX6_goOn iX6_goOn := xIOk_of (N := 72) (fun pc h => xtree_none h) (by decide +kernel)
set_option maxRecDepth 100000 in
theorem yoX6_goOn : xYOk yX6_goOn cX6_goOn 4 (some .boolean) 1 := ⟨by decide, xm 741 (by decide +kernel) rfl, xm 47 (by decide +kernel) rfl, by decide +kernel, by decide +kernel⟩
set_option maxRecDepth 100000 in
def iX6_newMany : Nat → Option (Instr × List Nat) := xtree 47 (fun pc => (bif Nat.blt pc 23 then (bif Nat.blt pc 10 then (bif Nat.blt pc 4 then (bif Nat.blt pc 2 then (bif Nat.beq pc 0 then some (.bipush 6, []) else none) else (bif Nat.blt pc 3 then (bif Nat.beq pc 2 then some (.istore_n 1, []) else none) else (bif Nat.beq pc 3 then some (.iconst 0, []) else none))) else (bif Nat.blt pc 6 then (bif Nat.blt pc 5 then (bif Nat.beq pc 4 then some (.istore_n 2, []) else none) else (bif Nat.beq pc 5 then some (.iload_n 2, []) else none)) else (bif Nat.blt pc 7 then (bif Nat.beq pc 6 then some (.aload_n 0, []) else none) else (bif Nat.beq pc 7 then some (.getfield 91, []) else none)))) else (bif Nat.blt pc 17 then (bif Nat.blt pc 13 then (bif Nat.beq pc 10 then some (.if_icmp .ge 32, [42]) else none) else (bif Nat.blt pc 14 then (bif Nat.beq pc 13 then some (.aload_n 0, []) else none) else (bif Nat.beq pc 14 then some (.getfield 26, []) else none))) else (bif Nat.blt pc 19 then (bif Nat.blt pc 18 then (bif Nat.beq pc 17 then some (.iload_n 2, []) else none) else (bif Nat.beq pc 18 then some (.iaload, []) else none)) else (bif Nat.blt pc 20 then (bif Nat.beq pc 19 then some (.iload_n 1, []) else none) else (bif Nat.beq pc 20 then some (.if_icmp .lt 14, [34]) else none))))) else (bif Nat.blt pc 34 then (bif Nat.blt pc 28 then (bif Nat.blt pc 24 then (bif Nat.beq pc 23 then some (.aload_n 0, []) else none) else (bif Nat.blt pc 27 then (bif Nat.beq pc 24 then some (.getfield 26, []) else none) else (bif Nat.beq pc 27 then some (.iload_n 2, []) else none))) else (bif Nat.blt pc 30 then (bif Nat.blt pc 29 then (bif Nat.beq pc 28 then some (.iaload, []) else none) else (bif Nat.beq pc 29 then some (.iconst 1, []) else none)) else (bif Nat.blt pc 31 then (bif Nat.beq pc 30 then some (.iadd, []) else none) else (bif Nat.beq pc 31 then some (.goto 4, [35]) else none)))) else (bif Nat.blt pc 42 then (bif Nat.blt pc 36 then (bif Nat.blt pc 35 then (bif Nat.beq pc 34 then some (.iload_n 1, []) else none) else (bif Nat.beq pc 35 then some (.istore_n 1, []) else none)) else (bif Nat.blt pc 39 then (bif Nat.beq pc 36 then some (.iinc 2 1, []) else none) else (bif Nat.beq pc 39 then some (.goto (-34), [5]) else none))) else (bif Nat.blt pc 45 then (bif Nat.blt pc 43 then (bif Nat.beq pc 42 then some (.iload_n 1, []) else none) else (bif Nat.beq pc 43 then some (.bipush 6, []) else none)) else (bif Nat.blt pc 46 then (bif Nat.beq pc 45 then some (.isub, []) else none) else (bif Nat.beq pc 46 then some (.ireturn, []) else none)))))))
set_option maxRecDepth 100000 in
theorem oX6_newMany : xIOk cX6_newMany iX6_newMany := xIOk_of (N := 47) (fun pc h => xtree_none h) (by decide +kernel)
set_option maxRecDepth 100000 in
theorem yoX6_newMany : xYOk yX6_newMany cX6_newMany 3 (some .int) 0 := ⟨by decide, xm 713 (by decide +kernel) rfl, xm 47 (by decide +kernel) rfl, by decide +kernel, by decide +kernel⟩
set_option maxRecDepth 100000 in
def iX6_lineMany : Nat → Option (Instr × List Nat) := xtree 53 (fun pc => (bif Nat.blt pc 24 then (bif Nat.blt pc 11 then (bif Nat.blt pc 4 then (bif Nat.blt pc 2 then (bif Nat.blt pc 1 then (bif Nat.beq pc 0 then some (.iconst 0, []) else none) else (bif Nat.beq pc 1 then some (.istore_n 1, []) else none)) else (bif Nat.blt pc 3 then (bif Nat.beq pc 2 then some (.iconst 0, []) else none) else (bif Nat.beq pc 3 then some (.istore_n 2, []) else none))) else (bif Nat.blt pc 7 then (bif Nat.blt pc 5 then (bif Nat.beq pc 4 then some (.iload_n 2, []) else none) else (bif Nat.beq pc 5 then some (.bipush 10, []) else none)) else (bif Nat.blt pc 10 then (bif Nat.beq pc 7 then some (.if_icmp .ge 44, [51]) else none) else (bif Nat.beq pc 10 then some (.iconst 0, []) else none)))) else (bif Nat.blt pc 17 then (bif Nat.blt pc 13 then (bif Nat.blt pc 12 then (bif Nat.beq pc 11 then some (.istore_n 3, []) else none) else (bif Nat.beq pc 12 then some (.iload_n 3, []) else none)) else (bif Nat.blt pc 14 then (bif Nat.beq pc 13 then some (.iload_n 2, []) else none) else (bif Nat.beq pc 14 then some (.if_icmp .ge 31, [45]) else none))) else (bif Nat.blt pc 19 then (bif Nat.blt pc 18 then (bif Nat.beq pc 17 then some (.iload_n 1, []) else none) else (bif Nat.beq pc 18 then some (.aload_n 0, []) else none)) else (bif Nat.blt pc 22 then (bif Nat.beq pc 19 then some (.getfield 32, []) else none) else (bif Nat.beq pc 22 then some (.bipush 10, []) else none))))) else (bif Nat.blt pc 36 then (bif Nat.blt pc 28 then (bif Nat.blt pc 26 then (bif Nat.blt pc 25 then (bif Nat.beq pc 24 then some (.iload_n 2, []) else none) else (bif Nat.beq pc 25 then some (.imul, []) else none)) else (bif Nat.blt pc 27 then (bif Nat.beq pc 26 then some (.iload_n 3, []) else none) else (bif Nat.beq pc 27 then some (.iadd, []) else none))) else (bif Nat.blt pc 32 then (bif Nat.blt pc 29 then (bif Nat.beq pc 28 then some (.baload, []) else none) else (bif Nat.beq pc 29 then some (.ifCond .eq 7, [36]) else none)) else (bif Nat.blt pc 33 then (bif Nat.beq pc 32 then some (.iconst 1, []) else none) else (bif Nat.beq pc 33 then some (.goto 4, [37]) else none)))) else (bif Nat.blt pc 42 then (bif Nat.blt pc 38 then (bif Nat.blt pc 37 then (bif Nat.beq pc 36 then some (.iconst 0, []) else none) else (bif Nat.beq pc 37 then some (.iadd, []) else none)) else (bif Nat.blt pc 39 then (bif Nat.beq pc 38 then some (.istore_n 1, []) else none) else (bif Nat.beq pc 39 then some (.iinc 3 1, []) else none))) else (bif Nat.blt pc 48 then (bif Nat.blt pc 45 then (bif Nat.beq pc 42 then some (.goto (-30), [12]) else none) else (bif Nat.beq pc 45 then some (.iinc 2 1, []) else none)) else (bif Nat.blt pc 51 then (bif Nat.beq pc 48 then some (.goto (-44), [4]) else none) else (bif Nat.blt pc 52 then (bif Nat.beq pc 51 then some (.iload_n 1, []) else none) else (bif Nat.beq pc 52 then some (.ireturn, []) else none))))))))
set_option maxRecDepth 100000 in
theorem oX6_lineMany : xIOk cX6_lineMany iX6_lineMany := xIOk_of (N := 53) (fun pc h => xtree_none h) (by decide +kernel)
set_option maxRecDepth 100000 in
theorem yoX6_lineMany : xYOk yX6_lineMany cX6_lineMany 4 (some .int) 0 := ⟨by decide, xm 733 (by decide +kernel) rfl, xm 47 (by decide +kernel) rfl, by decide +kernel, by decide +kernel⟩
set_option maxRecDepth 100000 in
def iX6_keep : Nat → Option (Instr × List Nat) := xtree 147 (fun pc => (bif Nat.blt pc 73 then (bif Nat.blt pc 36 then (bif Nat.blt pc 17 then (bif Nat.blt pc 7 then (bif Nat.blt pc 2 then (bif Nat.blt pc 1 then (bif Nat.beq pc 0 then some (.iconst 0, []) else none) else (bif Nat.beq pc 1 then some (.istore_n 1, []) else none)) else (bif Nat.blt pc 3 then (bif Nat.beq pc 2 then some (.iload_n 1, []) else none) else (bif Nat.blt pc 4 then (bif Nat.beq pc 3 then some (.iconst 4, []) else none) else (bif Nat.beq pc 4 then some (.if_icmp .ge 40, [44]) else none)))) else (bif Nat.blt pc 12 then (bif Nat.blt pc 8 then (bif Nat.beq pc 7 then some (.aload_n 0, []) else none) else (bif Nat.blt pc 11 then (bif Nat.beq pc 8 then some (.getfield 38, []) else none) else (bif Nat.beq pc 11 then some (.iconst 4, []) else none))) else (bif Nat.blt pc 13 then (bif Nat.beq pc 12 then some (.aload_n 0, []) else none) else (bif Nat.blt pc 16 then (bif Nat.beq pc 13 then some (.getfield 97, []) else none) else (bif Nat.beq pc 16 then some (.imul, []) else none))))) else (bif Nat.blt pc 24 then (bif Nat.blt pc 19 then (bif Nat.blt pc 18 then (bif Nat.beq pc 17 then some (.iload_n 1, []) else none) else (bif Nat.beq pc 18 then some (.iadd, []) else none)) else (bif Nat.blt pc 20 then (bif Nat.beq pc 19 then some (.iload_n 1, []) else none) else (bif Nat.blt pc 21 then (bif Nat.beq pc 20 then some (.aload_n 0, []) else none) else (bif Nat.beq pc 21 then some (.getfield 91, []) else none)))) else (bif Nat.blt pc 31 then (bif Nat.blt pc 27 then (bif Nat.beq pc 24 then some (.if_icmp .ge 12, [36]) else none) else (bif Nat.blt pc 28 then (bif Nat.beq pc 27 then some (.aload_n 0, []) else none) else (bif Nat.beq pc 28 then some (.getfield 26, []) else none))) else (bif Nat.blt pc 32 then (bif Nat.beq pc 31 then some (.iload_n 1, []) else none) else (bif Nat.blt pc 33 then (bif Nat.beq pc 32 then some (.iaload, []) else none) else (bif Nat.beq pc 33 then some (.goto 4, [37]) else none)))))) else (bif Nat.blt pc 55 then (bif Nat.blt pc 45 then (bif Nat.blt pc 38 then (bif Nat.blt pc 37 then (bif Nat.beq pc 36 then some (.iconst (-1), []) else none) else (bif Nat.beq pc 37 then some (.iastore, []) else none)) else (bif Nat.blt pc 41 then (bif Nat.beq pc 38 then some (.iinc 1 1, []) else none) else (bif Nat.blt pc 44 then (bif Nat.beq pc 41 then some (.goto (-39), [2]) else none) else (bif Nat.beq pc 44 then some (.iconst 0, []) else none)))) else (bif Nat.blt pc 49 then (bif Nat.blt pc 46 then (bif Nat.beq pc 45 then some (.istore_n 1, []) else none) else (bif Nat.blt pc 47 then (bif Nat.beq pc 46 then some (.iload_n 1, []) else none) else (bif Nat.beq pc 47 then some (.bipush 36, []) else none))) else (bif Nat.blt pc 52 then (bif Nat.beq pc 49 then some (.if_icmp .ge 87, [136]) else none) else (bif Nat.blt pc 54 then (bif Nat.beq pc 52 then some (.bipush 10, []) else none) else (bif Nat.beq pc 54 then some (.aload_n 0, []) else none))))) else (bif Nat.blt pc 64 then (bif Nat.blt pc 61 then (bif Nat.blt pc 58 then (bif Nat.beq pc 55 then some (.getfield 19, []) else none) else (bif Nat.blt pc 59 then (bif Nat.beq pc 58 then some (.iload_n 1, []) else none) else (bif Nat.beq pc 59 then some (.bipush 6, []) else none))) else (bif Nat.blt pc 62 then (bif Nat.beq pc 61 then some (.idiv, []) else none) else (bif Nat.blt pc 63 then (bif Nat.beq pc 62 then some (.iaload, []) else none) else (bif Nat.beq pc 63 then some (.imul, []) else none)))) else (bif Nat.blt pc 69 then (bif Nat.blt pc 65 then (bif Nat.beq pc 64 then some (.aload_n 0, []) else none) else (bif Nat.blt pc 68 then (bif Nat.beq pc 65 then some (.getfield 19, []) else none) else (bif Nat.beq pc 68 then some (.iload_n 1, []) else none))) else (bif Nat.blt pc 71 then (bif Nat.beq pc 69 then some (.bipush 6, []) else none) else (bif Nat.blt pc 72 then (bif Nat.beq pc 71 then some (.irem, []) else none) else (bif Nat.beq pc 72 then some (.iaload, []) else none))))))) else (bif Nat.blt pc 109 then (bif Nat.blt pc 89 then (bif Nat.blt pc 81 then (bif Nat.blt pc 75 then (bif Nat.blt pc 74 then (bif Nat.beq pc 73 then some (.iadd, []) else none) else (bif Nat.beq pc 74 then some (.istore_n 2, []) else none)) else (bif Nat.blt pc 76 then (bif Nat.beq pc 75 then some (.aload_n 0, []) else none) else (bif Nat.blt pc 79 then (bif Nat.beq pc 76 then some (.getfield 42, []) else none) else (bif Nat.beq pc 79 then some (.bipush 36, []) else none)))) else (bif Nat.blt pc 86 then (bif Nat.blt pc 82 then (bif Nat.beq pc 81 then some (.aload_n 0, []) else none) else (bif Nat.blt pc 85 then (bif Nat.beq pc 82 then some (.getfield 97, []) else none) else (bif Nat.beq pc 85 then some (.imul, []) else none))) else (bif Nat.blt pc 87 then (bif Nat.beq pc 86 then some (.iload_n 1, []) else none) else (bif Nat.blt pc 88 then (bif Nat.beq pc 87 then some (.iadd, []) else none) else (bif Nat.beq pc 88 then some (.aload_n 0, []) else none))))) else (bif Nat.blt pc 99 then (bif Nat.blt pc 93 then (bif Nat.blt pc 92 then (bif Nat.beq pc 89 then some (.getfield 35, []) else none) else (bif Nat.beq pc 92 then some (.iload_n 2, []) else none)) else (bif Nat.blt pc 94 then (bif Nat.beq pc 93 then some (.iaload, []) else none) else (bif Nat.blt pc 96 then (bif Nat.beq pc 94 then some (.bipush 100, []) else none) else (bif Nat.beq pc 96 then some (.if_icmp .ge 12, [108]) else none)))) else (bif Nat.blt pc 104 then (bif Nat.blt pc 100 then (bif Nat.beq pc 99 then some (.aload_n 0, []) else none) else (bif Nat.blt pc 103 then (bif Nat.beq pc 100 then some (.getfield 35, []) else none) else (bif Nat.beq pc 103 then some (.iload_n 2, []) else none))) else (bif Nat.blt pc 105 then (bif Nat.beq pc 104 then some (.iaload, []) else none) else (bif Nat.blt pc 108 then (bif Nat.beq pc 105 then some (.goto 4, [109]) else none) else (bif Nat.beq pc 108 then some (.iconst (-1), []) else none)))))) else (bif Nat.blt pc 127 then (bif Nat.blt pc 117 then (bif Nat.blt pc 111 then (bif Nat.blt pc 110 then (bif Nat.beq pc 109 then some (.iastore, []) else none) else (bif Nat.beq pc 110 then some (.aload_n 0, []) else none)) else (bif Nat.blt pc 114 then (bif Nat.beq pc 111 then some (.getfield 45, []) else none) else (bif Nat.blt pc 116 then (bif Nat.beq pc 114 then some (.bipush 36, []) else none) else (bif Nat.beq pc 116 then some (.aload_n 0, []) else none)))) else (bif Nat.blt pc 122 then (bif Nat.blt pc 120 then (bif Nat.beq pc 117 then some (.getfield 97, []) else none) else (bif Nat.blt pc 121 then (bif Nat.beq pc 120 then some (.imul, []) else none) else (bif Nat.beq pc 121 then some (.iload_n 1, []) else none))) else (bif Nat.blt pc 123 then (bif Nat.beq pc 122 then some (.iadd, []) else none) else (bif Nat.blt pc 124 then (bif Nat.beq pc 123 then some (.aload_n 0, []) else none) else (bif Nat.beq pc 124 then some (.getfield 32, []) else none))))) else (bif Nat.blt pc 137 then (bif Nat.blt pc 130 then (bif Nat.blt pc 128 then (bif Nat.beq pc 127 then some (.iload_n 2, []) else none) else (bif Nat.blt pc 129 then (bif Nat.beq pc 128 then some (.baload, []) else none) else (bif Nat.beq pc 129 then some (.bastore, []) else none))) else (bif Nat.blt pc 133 then (bif Nat.beq pc 130 then some (.iinc 1 1, []) else none) else (bif Nat.blt pc 136 then (bif Nat.beq pc 133 then some (.goto (-87), [46]) else none) else (bif Nat.beq pc 136 then some (.aload_n 0, []) else none)))) else (bif Nat.blt pc 142 then (bif Nat.blt pc 138 then (bif Nat.beq pc 137 then some (.dup, []) else none) else (bif Nat.blt pc 141 then (bif Nat.beq pc 138 then some (.getfield 97, []) else none) else (bif Nat.beq pc 141 then some (.iconst 1, []) else none))) else (bif Nat.blt pc 143 then (bif Nat.beq pc 142 then some (.iadd, []) else none) else (bif Nat.blt pc 146 then (bif Nat.beq pc 143 then some (.putfield 97, []) else none) else (bif Nat.beq pc 146 then some (.return_, []) else none)))))))))
set_option maxRecDepth 100000 in
theorem oX6_keep : xIOk cX6_keep iX6_keep := xIOk_of (N := 147) (fun pc h => xtree_none h) (by decide +kernel)
set_option maxRecDepth 100000 in
theorem yoX6_keep : xYOk yX6_keep cX6_keep 3 none 0 := ⟨by decide, xm 737 (by decide +kernel) rfl, xm 47 (by decide +kernel) rfl, by decide +kernel, by decide +kernel⟩
set_option maxRecDepth 100000 in
def iX6_findNets : Nat → Option (Instr × List Nat) := xtree 136 (fun pc => (bif Nat.blt pc 61 then (bif Nat.blt pc 27 then (bif Nat.blt pc 11 then (bif Nat.blt pc 6 then (bif Nat.blt pc 2 then (bif Nat.blt pc 1 then (bif Nat.beq pc 0 then some (.iconst 1, []) else none) else (bif Nat.beq pc 1 then some (.aload_n 0, []) else none)) else (bif Nat.blt pc 5 then (bif Nat.beq pc 2 then some (.getfield 52, []) else none) else (bif Nat.beq pc 5 then some (.ishl, []) else none))) else (bif Nat.blt pc 8 then (bif Nat.blt pc 7 then (bif Nat.beq pc 6 then some (.iconst 1, []) else none) else (bif Nat.beq pc 7 then some (.isub, []) else none)) else (bif Nat.blt pc 9 then (bif Nat.beq pc 8 then some (.istore_n 1, []) else none) else (bif Nat.blt pc 10 then (bif Nat.beq pc 9 then some (.aload_n 0, []) else none) else (bif Nat.beq pc 10 then some (.iload_n 1, []) else none))))) else (bif Nat.blt pc 17 then (bif Nat.blt pc 15 then (bif Nat.blt pc 14 then (bif Nat.beq pc 11 then some (.invokevirtual 100, []) else none) else (bif Nat.beq pc 14 then some (.istore_n 2, []) else none)) else (bif Nat.blt pc 16 then (bif Nat.beq pc 15 then some (.aload_n 0, []) else none) else (bif Nat.beq pc 16 then some (.iconst 0, []) else none))) else (bif Nat.blt pc 21 then (bif Nat.blt pc 20 then (bif Nat.beq pc 17 then some (.putfield 97, []) else none) else (bif Nat.beq pc 20 then some (.aload_n 0, []) else none)) else (bif Nat.blt pc 23 then (bif Nat.beq pc 21 then some (.bipush 100, []) else none) else (bif Nat.blt pc 26 then (bif Nat.beq pc 23 then some (.putfield 103, []) else none) else (bif Nat.beq pc 26 then some (.aload_n 0, []) else none)))))) else (bif Nat.blt pc 43 then (bif Nat.blt pc 34 then (bif Nat.blt pc 32 then (bif Nat.blt pc 29 then (bif Nat.beq pc 27 then some (.bipush 100, []) else none) else (bif Nat.beq pc 29 then some (.putfield 106, []) else none)) else (bif Nat.blt pc 33 then (bif Nat.beq pc 32 then some (.aload_n 0, []) else none) else (bif Nat.beq pc 33 then some (.iload_n 1, []) else none))) else (bif Nat.blt pc 38 then (bif Nat.blt pc 37 then (bif Nat.beq pc 34 then some (.invokevirtual 109, []) else none) else (bif Nat.beq pc 37 then some (.iconst 1, []) else none)) else (bif Nat.blt pc 39 then (bif Nat.beq pc 38 then some (.istore_n 3, []) else none) else (bif Nat.blt pc 40 then (bif Nat.beq pc 39 then some (.iload_n 3, []) else none) else (bif Nat.beq pc 40 then some (.ifCond .eq 95, [135]) else none))))) else (bif Nat.blt pc 50 then (bif Nat.blt pc 45 then (bif Nat.blt pc 44 then (bif Nat.beq pc 43 then some (.iload_n 2, []) else none) else (bif Nat.beq pc 44 then some (.aload_n 0, []) else none)) else (bif Nat.blt pc 48 then (bif Nat.beq pc 45 then some (.invokevirtual 112, []) else none) else (bif Nat.blt pc 49 then (bif Nat.beq pc 48 then some (.iadd, []) else none) else (bif Nat.beq pc 49 then some (.aload_n 0, []) else none)))) else (bif Nat.blt pc 56 then (bif Nat.blt pc 53 then (bif Nat.beq pc 50 then some (.getfield 103, []) else none) else (bif Nat.beq pc 53 then some (.if_icmp .gt 73, [126]) else none)) else (bif Nat.blt pc 57 then (bif Nat.beq pc 56 then some (.aload_n 0, []) else none) else (bif Nat.blt pc 58 then (bif Nat.beq pc 57 then some (.iload_n 1, []) else none) else (bif Nat.beq pc 58 then some (.invokevirtual 115, []) else none))))))) else (bif Nat.blt pc 98 then (bif Nat.blt pc 78 then (bif Nat.blt pc 69 then (bif Nat.blt pc 65 then (bif Nat.blt pc 64 then (bif Nat.beq pc 61 then some (.ifCond .eq 65, [126]) else none) else (bif Nat.beq pc 64 then some (.iload_n 2, []) else none)) else (bif Nat.blt pc 66 then (bif Nat.beq pc 65 then some (.aload_n 0, []) else none) else (bif Nat.beq pc 66 then some (.invokevirtual 112, []) else none))) else (bif Nat.blt pc 72 then (bif Nat.blt pc 70 then (bif Nat.beq pc 69 then some (.iadd, []) else none) else (bif Nat.beq pc 70 then some (.istore 4, []) else none)) else (bif Nat.blt pc 73 then (bif Nat.beq pc 72 then some (.aload_n 0, []) else none) else (bif Nat.blt pc 76 then (bif Nat.beq pc 73 then some (.invokevirtual 118, []) else none) else (bif Nat.beq pc 76 then some (.istore 5, []) else none))))) else (bif Nat.blt pc 89 then (bif Nat.blt pc 81 then (bif Nat.blt pc 80 then (bif Nat.beq pc 78 then some (.iload 4, []) else none) else (bif Nat.beq pc 80 then some (.aload_n 0, []) else none)) else (bif Nat.blt pc 84 then (bif Nat.beq pc 81 then some (.getfield 103, []) else none) else (bif Nat.blt pc 87 then (bif Nat.beq pc 84 then some (.if_icmp .lt 12, [96]) else none) else (bif Nat.beq pc 87 then some (.iload 5, []) else none)))) else (bif Nat.blt pc 93 then (bif Nat.blt pc 90 then (bif Nat.beq pc 89 then some (.aload_n 0, []) else none) else (bif Nat.beq pc 90 then some (.getfield 106, []) else none)) else (bif Nat.blt pc 96 then (bif Nat.beq pc 93 then some (.if_icmp .ge 20, [113]) else none) else (bif Nat.blt pc 97 then (bif Nat.beq pc 96 then some (.aload_n 0, []) else none) else (bif Nat.beq pc 97 then some (.iconst 0, []) else none)))))) else (bif Nat.blt pc 116 then (bif Nat.blt pc 107 then (bif Nat.blt pc 102 then (bif Nat.blt pc 101 then (bif Nat.beq pc 98 then some (.putfield 97, []) else none) else (bif Nat.beq pc 101 then some (.aload_n 0, []) else none)) else (bif Nat.blt pc 104 then (bif Nat.beq pc 102 then some (.iload 4, []) else none) else (bif Nat.beq pc 104 then some (.putfield 103, []) else none))) else (bif Nat.blt pc 110 then (bif Nat.blt pc 108 then (bif Nat.beq pc 107 then some (.aload_n 0, []) else none) else (bif Nat.beq pc 108 then some (.iload 5, []) else none)) else (bif Nat.blt pc 113 then (bif Nat.beq pc 110 then some (.putfield 106, []) else none) else (bif Nat.blt pc 115 then (bif Nat.beq pc 113 then some (.iload 5, []) else none) else (bif Nat.beq pc 115 then some (.aload_n 0, []) else none))))) else (bif Nat.blt pc 127 then (bif Nat.blt pc 122 then (bif Nat.blt pc 119 then (bif Nat.beq pc 116 then some (.getfield 106, []) else none) else (bif Nat.beq pc 119 then some (.if_icmp .ne 7, [126]) else none)) else (bif Nat.blt pc 123 then (bif Nat.beq pc 122 then some (.aload_n 0, []) else none) else (bif Nat.blt pc 126 then (bif Nat.beq pc 123 then some (.invokevirtual 121, []) else none) else (bif Nat.beq pc 126 then some (.aload_n 0, []) else none)))) else (bif Nat.blt pc 131 then (bif Nat.blt pc 128 then (bif Nat.beq pc 127 then some (.iload_n 1, []) else none) else (bif Nat.beq pc 128 then some (.invokevirtual 124, []) else none)) else (bif Nat.blt pc 132 then (bif Nat.beq pc 131 then some (.istore_n 3, []) else none) else (bif Nat.blt pc 135 then (bif Nat.beq pc 132 then some (.goto (-93), [39]) else none) else (bif Nat.beq pc 135 then some (.return_, []) else none)))))))))
set_option maxRecDepth 100000 in
theorem oX6_findNets : xIOk cX6_findNets iX6_findNets := xIOk_of (N := 136) (fun pc h => xtree_none h) (by decide +kernel)
set_option maxRecDepth 100000 in
theorem yoX6_findNets : xYOk yX6_findNets cX6_findNets 6 none 0 := ⟨by decide, xm 689 (by decide +kernel) rfl, xm 47 (by decide +kernel) rfl, by decide +kernel, by decide +kernel⟩
set_option maxRecDepth 100000 in
def iX6_nets : Nat → Option (Instr × List Nat) := xtree 9 (fun pc => (bif Nat.blt pc 4 then (bif Nat.blt pc 1 then (bif Nat.beq pc 0 then some (.aload_n 0, []) else none) else (bif Nat.beq pc 1 then some (.invokevirtual 127, []) else none)) else (bif Nat.blt pc 5 then (bif Nat.beq pc 4 then some (.aload_n 0, []) else none) else (bif Nat.blt pc 8 then (bif Nat.beq pc 5 then some (.getfield 97, []) else none) else (bif Nat.beq pc 8 then some (.ireturn, []) else none)))))
set_option maxRecDepth 100000 in
theorem oX6_nets : xIOk cX6_nets iX6_nets := xIOk_of (N := 9) (fun pc h => xtree_none h) (by decide +kernel)
set_option maxRecDepth 100000 in
theorem yoX6_nets : xYOk yX6_nets cX6_nets 1 (some .int) 0 := ⟨by decide, xm 685 (by decide +kernel) rfl, xm 47 (by decide +kernel) rfl, by decide +kernel, by decide +kernel⟩
set_option maxRecDepth 100000 in
def iX6_shape : Nat → Option (Instr × List Nat) := xtree 44 (fun pc => (bif Nat.blt pc 20 then (bif Nat.blt pc 9 then (bif Nat.blt pc 2 then (bif Nat.blt pc 1 then (bif Nat.beq pc 0 then some (.iload_n 1, []) else none) else (bif Nat.beq pc 1 then some (.iconst 0, []) else none)) else (bif Nat.blt pc 3 then (bif Nat.beq pc 2 then some (.iconst 1, []) else none) else (bif Nat.blt pc 6 then (bif Nat.beq pc 3 then some (.invokestatic 48, []) else none) else (bif Nat.beq pc 6 then some (.ifCond .ne 6, [12]) else none)))) else (bif Nat.blt pc 13 then (bif Nat.blt pc 11 then (bif Nat.beq pc 9 then some (.bipush (-2), []) else none) else (bif Nat.blt pc 12 then (bif Nat.beq pc 11 then some (.ireturn, []) else none) else (bif Nat.beq pc 12 then some (.aload_n 0, []) else none))) else (bif Nat.blt pc 16 then (bif Nat.beq pc 13 then some (.invokevirtual 127, []) else none) else (bif Nat.blt pc 17 then (bif Nat.beq pc 16 then some (.aload_n 0, []) else none) else (bif Nat.beq pc 17 then some (.getfield 97, []) else none))))) else (bif Nat.blt pc 32 then (bif Nat.blt pc 25 then (bif Nat.blt pc 23 then (bif Nat.beq pc 20 then some (.ifCond .ne 8, [28]) else none) else (bif Nat.beq pc 23 then some (.bipush (-6), []) else none)) else (bif Nat.blt pc 28 then (bif Nat.beq pc 25 then some (.goto 18, [43]) else none) else (bif Nat.blt pc 29 then (bif Nat.beq pc 28 then some (.iload_n 1, []) else none) else (bif Nat.beq pc 29 then some (.ifCond .ne 10, [39]) else none)))) else (bif Nat.blt pc 39 then (bif Nat.blt pc 33 then (bif Nat.beq pc 32 then some (.aload_n 0, []) else none) else (bif Nat.blt pc 36 then (bif Nat.beq pc 33 then some (.getfield 103, []) else none) else (bif Nat.beq pc 36 then some (.goto 7, [43]) else none))) else (bif Nat.blt pc 40 then (bif Nat.beq pc 39 then some (.aload_n 0, []) else none) else (bif Nat.blt pc 43 then (bif Nat.beq pc 40 then some (.getfield 106, []) else none) else (bif Nat.beq pc 43 then some (.ireturn, []) else none)))))))
set_option maxRecDepth 100000 in
theorem oX6_shape : xIOk cX6_shape iX6_shape := xIOk_of (N := 44) (fun pc h => xtree_none h) (by decide +kernel)
set_option maxRecDepth 100000 in
theorem yoX6_shape : xYOk yX6_shape cX6_shape 2 (some .int) 1 := ⟨by decide, xm 745 (by decide +kernel) rfl, xm 47 (by decide +kernel) rfl, by decide +kernel, by decide +kernel⟩
set_option maxRecDepth 100000 in
def iX6_boxOf : Nat → Option (Instr × List Nat) := xtree 70 (fun pc => (bif Nat.blt pc 36 then (bif Nat.blt pc 17 then (bif Nat.blt pc 11 then (bif Nat.blt pc 4 then (bif Nat.blt pc 1 then (bif Nat.beq pc 0 then some (.aload_n 0, []) else none) else (bif Nat.beq pc 1 then some (.invokevirtual 127, []) else none)) else (bif Nat.blt pc 5 then (bif Nat.beq pc 4 then some (.aload_n 0, []) else none) else (bif Nat.blt pc 8 then (bif Nat.beq pc 5 then some (.getfield 97, []) else none) else (bif Nat.beq pc 8 then some (.ifCond .ne 6, [14]) else none)))) else (bif Nat.blt pc 14 then (bif Nat.blt pc 13 then (bif Nat.beq pc 11 then some (.bipush (-6), []) else none) else (bif Nat.beq pc 13 then some (.ireturn, []) else none)) else (bif Nat.blt pc 15 then (bif Nat.beq pc 14 then some (.iload_n 1, []) else none) else (bif Nat.blt pc 16 then (bif Nat.beq pc 15 then some (.iconst 0, []) else none) else (bif Nat.beq pc 16 then some (.aload_n 0, []) else none))))) else (bif Nat.blt pc 28 then (bif Nat.blt pc 21 then (bif Nat.blt pc 20 then (bif Nat.beq pc 17 then some (.getfield 97, []) else none) else (bif Nat.beq pc 20 then some (.iconst 1, []) else none)) else (bif Nat.blt pc 22 then (bif Nat.beq pc 21 then some (.isub, []) else none) else (bif Nat.blt pc 25 then (bif Nat.beq pc 22 then some (.invokestatic 48, []) else none) else (bif Nat.beq pc 25 then some (.ifCond .eq 17, [42]) else none)))) else (bif Nat.blt pc 31 then (bif Nat.blt pc 29 then (bif Nat.beq pc 28 then some (.iload_n 2, []) else none) else (bif Nat.blt pc 30 then (bif Nat.beq pc 29 then some (.iconst 0, []) else none) else (bif Nat.beq pc 30 then some (.aload_n 0, []) else none))) else (bif Nat.blt pc 34 then (bif Nat.beq pc 31 then some (.getfield 91, []) else none) else (bif Nat.blt pc 35 then (bif Nat.beq pc 34 then some (.iconst 1, []) else none) else (bif Nat.beq pc 35 then some (.isub, []) else none)))))) else (bif Nat.blt pc 54 then (bif Nat.blt pc 46 then (bif Nat.blt pc 42 then (bif Nat.blt pc 39 then (bif Nat.beq pc 36 then some (.invokestatic 48, []) else none) else (bif Nat.beq pc 39 then some (.ifCond .ne 6, [45]) else none)) else (bif Nat.blt pc 44 then (bif Nat.beq pc 42 then some (.bipush (-2), []) else none) else (bif Nat.blt pc 45 then (bif Nat.beq pc 44 then some (.ireturn, []) else none) else (bif Nat.beq pc 45 then some (.aload_n 0, []) else none)))) else (bif Nat.blt pc 51 then (bif Nat.blt pc 49 then (bif Nat.beq pc 46 then some (.getfield 38, []) else none) else (bif Nat.blt pc 50 then (bif Nat.beq pc 49 then some (.iconst 4, []) else none) else (bif Nat.beq pc 50 then some (.iload_n 1, []) else none))) else (bif Nat.blt pc 52 then (bif Nat.beq pc 51 then some (.imul, []) else none) else (bif Nat.blt pc 53 then (bif Nat.beq pc 52 then some (.iload_n 2, []) else none) else (bif Nat.beq pc 53 then some (.iadd, []) else none))))) else (bif Nat.blt pc 62 then (bif Nat.blt pc 56 then (bif Nat.blt pc 55 then (bif Nat.beq pc 54 then some (.iaload, []) else none) else (bif Nat.beq pc 55 then some (.istore_n 3, []) else none)) else (bif Nat.blt pc 57 then (bif Nat.beq pc 56 then some (.iload_n 3, []) else none) else (bif Nat.blt pc 59 then (bif Nat.beq pc 57 then some (.bipush 6, []) else none) else (bif Nat.beq pc 59 then some (.if_icmp .ge 7, [66]) else none)))) else (bif Nat.blt pc 67 then (bif Nat.blt pc 63 then (bif Nat.beq pc 62 then some (.iload_n 3, []) else none) else (bif Nat.blt pc 66 then (bif Nat.beq pc 63 then some (.goto 6, [69]) else none) else (bif Nat.beq pc 66 then some (.iload_n 3, []) else none))) else (bif Nat.blt pc 68 then (bif Nat.beq pc 67 then some (.iconst 4, []) else none) else (bif Nat.blt pc 69 then (bif Nat.beq pc 68 then some (.iadd, []) else none) else (bif Nat.beq pc 69 then some (.ireturn, []) else none))))))))
set_option maxRecDepth 100000 in
theorem oX6_boxOf : xIOk cX6_boxOf iX6_boxOf := xIOk_of (N := 70) (fun pc h => xtree_none h) (by decide +kernel)
set_option maxRecDepth 100000 in
theorem yoX6_boxOf : xYOk yX6_boxOf cX6_boxOf 4 (some .int) 2 := ⟨by decide, xm 749 (by decide +kernel) rfl, xm 47 (by decide +kernel) rfl, by decide +kernel, by decide +kernel⟩
set_option maxRecDepth 100000 in
def iX6_isSeen : Nat → Option (Instr × List Nat) := xtree 29 (fun pc => (bif Nat.blt pc 14 then (bif Nat.blt pc 8 then (bif Nat.blt pc 4 then (bif Nat.blt pc 1 then (bif Nat.beq pc 0 then some (.iload_n 1, []) else none) else (bif Nat.beq pc 1 then some (.invokestatic 67, []) else none)) else (bif Nat.blt pc 7 then (bif Nat.beq pc 4 then some (.ifCond .eq 23, [27]) else none) else (bif Nat.beq pc 7 then some (.aload_n 0, []) else none))) else (bif Nat.blt pc 10 then (bif Nat.blt pc 9 then (bif Nat.beq pc 8 then some (.iconst 1, []) else none) else (bif Nat.beq pc 9 then some (.aload_n 0, []) else none)) else (bif Nat.blt pc 13 then (bif Nat.beq pc 10 then some (.getfield 52, []) else none) else (bif Nat.beq pc 13 then some (.ishl, []) else none)))) else (bif Nat.blt pc 20 then (bif Nat.blt pc 16 then (bif Nat.blt pc 15 then (bif Nat.beq pc 14 then some (.iconst 1, []) else none) else (bif Nat.beq pc 15 then some (.isub, []) else none)) else (bif Nat.blt pc 17 then (bif Nat.beq pc 16 then some (.iload_n 1, []) else none) else (bif Nat.beq pc 17 then some (.invokevirtual 74, []) else none))) else (bif Nat.blt pc 24 then (bif Nat.blt pc 23 then (bif Nat.beq pc 20 then some (.ifCond .eq 7, [27]) else none) else (bif Nat.beq pc 23 then some (.iconst 1, []) else none)) else (bif Nat.blt pc 27 then (bif Nat.beq pc 24 then some (.goto 4, [28]) else none) else (bif Nat.blt pc 28 then (bif Nat.beq pc 27 then some (.iconst 0, []) else none) else (bif Nat.beq pc 28 then some (.ireturn, []) else none)))))))
set_option maxRecDepth 100000 in
theorem oX6_isSeen : xIOk cX6_isSeen iX6_isSeen := xIOk_of (N := 29) (fun pc h => xtree_none h) (by decide +kernel)
set_option maxRecDepth 100000 in
theorem yoX6_isSeen : xYOk yX6_isSeen cX6_isSeen 2 (some .boolean) 1 := ⟨by decide, xm 757 (by decide +kernel) rfl, xm 47 (by decide +kernel) rfl, by decide +kernel, by decide +kernel⟩
set_option maxRecDepth 100000 in
def iX6_far : Nat → Option (Instr × List Nat) := xtree 66 (fun pc => (bif Nat.blt pc 36 then (bif Nat.blt pc 16 then (bif Nat.blt pc 8 then (bif Nat.blt pc 4 then (bif Nat.blt pc 1 then (bif Nat.beq pc 0 then some (.aload_n 0, []) else none) else (bif Nat.beq pc 1 then some (.invokevirtual 127, []) else none)) else (bif Nat.blt pc 5 then (bif Nat.beq pc 4 then some (.aload_n 0, []) else none) else (bif Nat.beq pc 5 then some (.getfield 97, []) else none))) else (bif Nat.blt pc 13 then (bif Nat.blt pc 11 then (bif Nat.beq pc 8 then some (.ifCond .ne 6, [14]) else none) else (bif Nat.beq pc 11 then some (.bipush (-6), []) else none)) else (bif Nat.blt pc 14 then (bif Nat.beq pc 13 then some (.ireturn, []) else none) else (bif Nat.blt pc 15 then (bif Nat.beq pc 14 then some (.iload_n 1, []) else none) else (bif Nat.beq pc 15 then some (.iconst 0, []) else none))))) else (bif Nat.blt pc 25 then (bif Nat.blt pc 20 then (bif Nat.blt pc 17 then (bif Nat.beq pc 16 then some (.aload_n 0, []) else none) else (bif Nat.beq pc 17 then some (.getfield 97, []) else none)) else (bif Nat.blt pc 21 then (bif Nat.beq pc 20 then some (.iconst 1, []) else none) else (bif Nat.blt pc 22 then (bif Nat.beq pc 21 then some (.isub, []) else none) else (bif Nat.beq pc 22 then some (.invokestatic 48, []) else none)))) else (bif Nat.blt pc 29 then (bif Nat.blt pc 28 then (bif Nat.beq pc 25 then some (.ifCond .eq 38, [63]) else none) else (bif Nat.beq pc 28 then some (.aload_n 0, []) else none)) else (bif Nat.blt pc 30 then (bif Nat.beq pc 29 then some (.iload_n 2, []) else none) else (bif Nat.blt pc 33 then (bif Nat.beq pc 30 then some (.invokevirtual 130, []) else none) else (bif Nat.beq pc 33 then some (.ifCond .eq 30, [63]) else none)))))) else (bif Nat.blt pc 52 then (bif Nat.blt pc 44 then (bif Nat.blt pc 38 then (bif Nat.blt pc 37 then (bif Nat.beq pc 36 then some (.aload_n 0, []) else none) else (bif Nat.beq pc 37 then some (.iload_n 3, []) else none)) else (bif Nat.blt pc 41 then (bif Nat.beq pc 38 then some (.invokevirtual 130, []) else none) else (bif Nat.beq pc 41 then some (.ifCond .eq 22, [63]) else none))) else (bif Nat.blt pc 48 then (bif Nat.blt pc 45 then (bif Nat.beq pc 44 then some (.aload_n 0, []) else none) else (bif Nat.beq pc 45 then some (.getfield 42, []) else none)) else (bif Nat.blt pc 50 then (bif Nat.beq pc 48 then some (.bipush 36, []) else none) else (bif Nat.blt pc 51 then (bif Nat.beq pc 50 then some (.iload_n 1, []) else none) else (bif Nat.beq pc 51 then some (.imul, []) else none))))) else (bif Nat.blt pc 58 then (bif Nat.blt pc 55 then (bif Nat.blt pc 54 then (bif Nat.beq pc 52 then some (.bipush 6, []) else none) else (bif Nat.beq pc 54 then some (.iload_n 2, []) else none)) else (bif Nat.blt pc 56 then (bif Nat.beq pc 55 then some (.imul, []) else none) else (bif Nat.blt pc 57 then (bif Nat.beq pc 56 then some (.iadd, []) else none) else (bif Nat.beq pc 57 then some (.iload_n 3, []) else none)))) else (bif Nat.blt pc 60 then (bif Nat.blt pc 59 then (bif Nat.beq pc 58 then some (.iadd, []) else none) else (bif Nat.beq pc 59 then some (.iaload, []) else none)) else (bif Nat.blt pc 63 then (bif Nat.beq pc 60 then some (.goto 5, [65]) else none) else (bif Nat.blt pc 65 then (bif Nat.beq pc 63 then some (.bipush (-2), []) else none) else (bif Nat.beq pc 65 then some (.ireturn, []) else none))))))))
set_option maxRecDepth 100000 in
theorem oX6_far : xIOk cX6_far iX6_far := xIOk_of (N := 66) (fun pc h => xtree_none h) (by decide +kernel)
set_option maxRecDepth 100000 in
theorem yoX6_far : xYOk yX6_far cX6_far 4 (some .int) 3 := ⟨by decide, xm 753 (by decide +kernel) rfl, xm 47 (by decide +kernel) rfl, by decide +kernel, by decide +kernel⟩
set_option maxRecDepth 100000 in
def iX6_sure : Nat → Option (Instr × List Nat) := xtree 103 (fun pc => (bif Nat.blt pc 54 then (bif Nat.blt pc 27 then (bif Nat.blt pc 14 then (bif Nat.blt pc 5 then (bif Nat.blt pc 1 then (bif Nat.beq pc 0 then some (.aload_n 0, []) else none) else (bif Nat.blt pc 4 then (bif Nat.beq pc 1 then some (.invokevirtual 127, []) else none) else (bif Nat.beq pc 4 then some (.aload_n 0, []) else none))) else (bif Nat.blt pc 11 then (bif Nat.blt pc 8 then (bif Nat.beq pc 5 then some (.getfield 97, []) else none) else (bif Nat.beq pc 8 then some (.ifCond .ne 6, [14]) else none)) else (bif Nat.blt pc 13 then (bif Nat.beq pc 11 then some (.bipush (-6), []) else none) else (bif Nat.beq pc 13 then some (.ireturn, []) else none)))) else (bif Nat.blt pc 19 then (bif Nat.blt pc 15 then (bif Nat.beq pc 14 then some (.aload_n 0, []) else none) else (bif Nat.blt pc 16 then (bif Nat.beq pc 15 then some (.iload_n 1, []) else none) else (bif Nat.beq pc 16 then some (.invokevirtual 130, []) else none))) else (bif Nat.blt pc 23 then (bif Nat.blt pc 22 then (bif Nat.beq pc 19 then some (.ifCond .eq 11, [30]) else none) else (bif Nat.beq pc 22 then some (.aload_n 0, []) else none)) else (bif Nat.blt pc 24 then (bif Nat.beq pc 23 then some (.iload_n 2, []) else none) else (bif Nat.beq pc 24 then some (.invokevirtual 130, []) else none))))) else (bif Nat.blt pc 38 then (bif Nat.blt pc 33 then (bif Nat.blt pc 30 then (bif Nat.beq pc 27 then some (.ifCond .ne 6, [33]) else none) else (bif Nat.blt pc 32 then (bif Nat.beq pc 30 then some (.bipush (-2), []) else none) else (bif Nat.beq pc 32 then some (.ireturn, []) else none))) else (bif Nat.blt pc 35 then (bif Nat.blt pc 34 then (bif Nat.beq pc 33 then some (.iconst 0, []) else none) else (bif Nat.beq pc 34 then some (.istore_n 3, []) else none)) else (bif Nat.blt pc 36 then (bif Nat.beq pc 35 then some (.iconst 0, []) else none) else (bif Nat.beq pc 36 then some (.istore 4, []) else none)))) else (bif Nat.blt pc 47 then (bif Nat.blt pc 41 then (bif Nat.blt pc 40 then (bif Nat.beq pc 38 then some (.iload 4, []) else none) else (bif Nat.beq pc 40 then some (.aload_n 0, []) else none)) else (bif Nat.blt pc 44 then (bif Nat.beq pc 41 then some (.getfield 97, []) else none) else (bif Nat.beq pc 44 then some (.if_icmp .ge 37, [81]) else none))) else (bif Nat.blt pc 49 then (bif Nat.blt pc 48 then (bif Nat.beq pc 47 then some (.iload_n 3, []) else none) else (bif Nat.beq pc 48 then some (.aload_n 0, []) else none)) else (bif Nat.blt pc 52 then (bif Nat.beq pc 49 then some (.getfield 45, []) else none) else (bif Nat.beq pc 52 then some (.bipush 36, []) else none)))))) else (bif Nat.blt pc 74 then (bif Nat.blt pc 63 then (bif Nat.blt pc 59 then (bif Nat.blt pc 56 then (bif Nat.beq pc 54 then some (.iload 4, []) else none) else (bif Nat.blt pc 57 then (bif Nat.beq pc 56 then some (.imul, []) else none) else (bif Nat.beq pc 57 then some (.bipush 6, []) else none))) else (bif Nat.blt pc 61 then (bif Nat.blt pc 60 then (bif Nat.beq pc 59 then some (.iload_n 1, []) else none) else (bif Nat.beq pc 60 then some (.imul, []) else none)) else (bif Nat.blt pc 62 then (bif Nat.beq pc 61 then some (.iadd, []) else none) else (bif Nat.beq pc 62 then some (.iload_n 2, []) else none)))) else (bif Nat.blt pc 68 then (bif Nat.blt pc 64 then (bif Nat.beq pc 63 then some (.iadd, []) else none) else (bif Nat.blt pc 65 then (bif Nat.beq pc 64 then some (.baload, []) else none) else (bif Nat.beq pc 65 then some (.ifCond .eq 7, [72]) else none))) else (bif Nat.blt pc 72 then (bif Nat.blt pc 69 then (bif Nat.beq pc 68 then some (.iconst 1, []) else none) else (bif Nat.beq pc 69 then some (.goto 4, [73]) else none)) else (bif Nat.blt pc 73 then (bif Nat.beq pc 72 then some (.iconst 0, []) else none) else (bif Nat.beq pc 73 then some (.iadd, []) else none))))) else (bif Nat.blt pc 89 then (bif Nat.blt pc 81 then (bif Nat.blt pc 75 then (bif Nat.beq pc 74 then some (.istore_n 3, []) else none) else (bif Nat.blt pc 78 then (bif Nat.beq pc 75 then some (.iinc 4 1, []) else none) else (bif Nat.beq pc 78 then some (.goto (-40), [38]) else none))) else (bif Nat.blt pc 85 then (bif Nat.blt pc 82 then (bif Nat.beq pc 81 then some (.iload_n 3, []) else none) else (bif Nat.beq pc 82 then some (.ifCond .ne 7, [89]) else none)) else (bif Nat.blt pc 86 then (bif Nat.beq pc 85 then some (.iconst 0, []) else none) else (bif Nat.beq pc 86 then some (.goto 16, [102]) else none)))) else (bif Nat.blt pc 97 then (bif Nat.blt pc 91 then (bif Nat.blt pc 90 then (bif Nat.beq pc 89 then some (.iload_n 3, []) else none) else (bif Nat.beq pc 90 then some (.aload_n 0, []) else none)) else (bif Nat.blt pc 94 then (bif Nat.beq pc 91 then some (.getfield 97, []) else none) else (bif Nat.beq pc 94 then some (.if_icmp .ne 7, [101]) else none))) else (bif Nat.blt pc 101 then (bif Nat.blt pc 98 then (bif Nat.beq pc 97 then some (.iconst 2, []) else none) else (bif Nat.beq pc 98 then some (.goto 4, [102]) else none)) else (bif Nat.blt pc 102 then (bif Nat.beq pc 101 then some (.iconst 1, []) else none) else (bif Nat.beq pc 102 then some (.ireturn, []) else none))))))))
set_option maxRecDepth 100000 in
theorem oX6_sure : xIOk cX6_sure iX6_sure := xIOk_of (N := 103) (fun pc h => xtree_none h) (by decide +kernel)
set_option maxRecDepth 100000 in
theorem yoX6_sure : xYOk yX6_sure cX6_sure 5 (some .int) 2 := ⟨by decide, xm 761 (by decide +kernel) rfl, xm 47 (by decide +kernel) rfl, by decide +kernel, by decide +kernel⟩
set_option maxRecDepth 100000 in
def iX6_canFit : Nat → Option (Instr × List Nat) := xtree 32 (fun pc => (bif Nat.blt pc 16 then (bif Nat.blt pc 7 then (bif Nat.blt pc 2 then (bif Nat.blt pc 1 then (bif Nat.beq pc 0 then some (.aload_n 0, []) else none) else (bif Nat.beq pc 1 then some (.iload_n 1, []) else none)) else (bif Nat.blt pc 5 then (bif Nat.beq pc 2 then some (.invokevirtual 109, []) else none) else (bif Nat.blt pc 6 then (bif Nat.beq pc 5 then some (.iconst 1, []) else none) else (bif Nat.beq pc 6 then some (.istore_n 2, []) else none)))) else (bif Nat.blt pc 11 then (bif Nat.blt pc 8 then (bif Nat.beq pc 7 then some (.iload_n 2, []) else none) else (bif Nat.beq pc 8 then some (.ifCond .eq 22, [30]) else none)) else (bif Nat.blt pc 12 then (bif Nat.beq pc 11 then some (.aload_n 0, []) else none) else (bif Nat.blt pc 13 then (bif Nat.beq pc 12 then some (.iload_n 1, []) else none) else (bif Nat.beq pc 13 then some (.invokevirtual 115, []) else none))))) else (bif Nat.blt pc 23 then (bif Nat.blt pc 20 then (bif Nat.blt pc 19 then (bif Nat.beq pc 16 then some (.ifCond .eq 5, [21]) else none) else (bif Nat.beq pc 19 then some (.iconst 1, []) else none)) else (bif Nat.blt pc 21 then (bif Nat.beq pc 20 then some (.ireturn, []) else none) else (bif Nat.blt pc 22 then (bif Nat.beq pc 21 then some (.aload_n 0, []) else none) else (bif Nat.beq pc 22 then some (.iload_n 1, []) else none)))) else (bif Nat.blt pc 27 then (bif Nat.blt pc 26 then (bif Nat.beq pc 23 then some (.invokevirtual 124, []) else none) else (bif Nat.beq pc 26 then some (.istore_n 2, []) else none)) else (bif Nat.blt pc 30 then (bif Nat.beq pc 27 then some (.goto (-20), [7]) else none) else (bif Nat.blt pc 31 then (bif Nat.beq pc 30 then some (.iconst 0, []) else none) else (bif Nat.beq pc 31 then some (.ireturn, []) else none)))))))
set_option maxRecDepth 100000 in
theorem oX6_canFit : xIOk cX6_canFit iX6_canFit := xIOk_of (N := 32) (fun pc h => xtree_none h) (by decide +kernel)
set_option maxRecDepth 100000 in
theorem yoX6_canFit : xYOk yX6_canFit cX6_canFit 3 (some .boolean) 1 := ⟨by decide, xm 772 (by decide +kernel) rfl, xm 47 (by decide +kernel) rfl, by decide +kernel, by decide +kernel⟩
set_option maxRecDepth 100000 in
def iX6_ones : Nat → Option (Instr × List Nat) := xtree 26 (fun pc => (bif Nat.blt pc 12 then (bif Nat.blt pc 4 then (bif Nat.blt pc 2 then (bif Nat.blt pc 1 then (bif Nat.beq pc 0 then some (.iconst 0, []) else none) else (bif Nat.beq pc 1 then some (.istore_n 1, []) else none)) else (bif Nat.blt pc 3 then (bif Nat.beq pc 2 then some (.iconst 0, []) else none) else (bif Nat.beq pc 3 then some (.istore_n 2, []) else none))) else (bif Nat.blt pc 7 then (bif Nat.blt pc 5 then (bif Nat.beq pc 4 then some (.iload_n 2, []) else none) else (bif Nat.beq pc 5 then some (.bipush 6, []) else none)) else (bif Nat.blt pc 10 then (bif Nat.beq pc 7 then some (.if_icmp .ge 17, [24]) else none) else (bif Nat.blt pc 11 then (bif Nat.beq pc 10 then some (.iload_n 1, []) else none) else (bif Nat.beq pc 11 then some (.iload_n 0, []) else none))))) else (bif Nat.blt pc 17 then (bif Nat.blt pc 14 then (bif Nat.blt pc 13 then (bif Nat.beq pc 12 then some (.iload_n 2, []) else none) else (bif Nat.beq pc 13 then some (.ishr, []) else none)) else (bif Nat.blt pc 15 then (bif Nat.beq pc 14 then some (.iconst 1, []) else none) else (bif Nat.blt pc 16 then (bif Nat.beq pc 15 then some (.iand, []) else none) else (bif Nat.beq pc 16 then some (.iadd, []) else none)))) else (bif Nat.blt pc 21 then (bif Nat.blt pc 18 then (bif Nat.beq pc 17 then some (.istore_n 1, []) else none) else (bif Nat.beq pc 18 then some (.iinc 2 1, []) else none)) else (bif Nat.blt pc 24 then (bif Nat.beq pc 21 then some (.goto (-17), [4]) else none) else (bif Nat.blt pc 25 then (bif Nat.beq pc 24 then some (.iload_n 1, []) else none) else (bif Nat.beq pc 25 then some (.ireturn, []) else none)))))))
set_option maxRecDepth 100000 in
theorem oX6_ones : xIOk cX6_ones iX6_ones := xIOk_of (N := 26) (fun pc h => xtree_none h) (by decide +kernel)
set_option maxRecDepth 100000 in
theorem yoX6_ones : xYOk yX6_ones cX6_ones 3 (some .int) 1 := ⟨by decide, xm 768 (by decide +kernel) rfl, xm 47 (by decide +kernel) rfl, by decide +kernel, by decide +kernel⟩
set_option maxRecDepth 100000 in
def iX6_falses : Nat → Option (Instr × List Nat) := xtree 50 (fun pc => (bif Nat.blt pc 22 then (bif Nat.blt pc 10 then (bif Nat.blt pc 6 then (bif Nat.blt pc 2 then (bif Nat.blt pc 1 then (bif Nat.beq pc 0 then some (.iconst 1, []) else none) else (bif Nat.beq pc 1 then some (.aload_n 0, []) else none)) else (bif Nat.blt pc 5 then (bif Nat.beq pc 2 then some (.getfield 52, []) else none) else (bif Nat.beq pc 5 then some (.ishl, []) else none))) else (bif Nat.blt pc 8 then (bif Nat.blt pc 7 then (bif Nat.beq pc 6 then some (.iconst 1, []) else none) else (bif Nat.beq pc 7 then some (.isub, []) else none)) else (bif Nat.blt pc 9 then (bif Nat.beq pc 8 then some (.istore_n 1, []) else none) else (bif Nat.beq pc 9 then some (.iload_n 1, []) else none)))) else (bif Nat.blt pc 14 then (bif Nat.blt pc 12 then (bif Nat.blt pc 11 then (bif Nat.beq pc 10 then some (.istore_n 2, []) else none) else (bif Nat.beq pc 11 then some (.iload_n 1, []) else none)) else (bif Nat.blt pc 13 then (bif Nat.beq pc 12 then some (.istore_n 3, []) else none) else (bif Nat.beq pc 13 then some (.iload_n 3, []) else none))) else (bif Nat.blt pc 18 then (bif Nat.blt pc 17 then (bif Nat.beq pc 14 then some (.ifCond .lt 34, [48]) else none) else (bif Nat.beq pc 17 then some (.iload_n 3, []) else none)) else (bif Nat.blt pc 21 then (bif Nat.beq pc 18 then some (.invokestatic 133, []) else none) else (bif Nat.beq pc 21 then some (.iload_n 2, []) else none))))) else (bif Nat.blt pc 34 then (bif Nat.blt pc 30 then (bif Nat.blt pc 28 then (bif Nat.blt pc 25 then (bif Nat.beq pc 22 then some (.invokestatic 133, []) else none) else (bif Nat.beq pc 25 then some (.if_icmp .gt 17, [42]) else none)) else (bif Nat.blt pc 29 then (bif Nat.beq pc 28 then some (.aload_n 0, []) else none) else (bif Nat.beq pc 29 then some (.iload_n 1, []) else none))) else (bif Nat.blt pc 32 then (bif Nat.blt pc 31 then (bif Nat.beq pc 30 then some (.iload_n 3, []) else none) else (bif Nat.beq pc 31 then some (.iconst (-1), []) else none)) else (bif Nat.blt pc 33 then (bif Nat.beq pc 32 then some (.ixor, []) else none) else (bif Nat.beq pc 33 then some (.iand, []) else none)))) else (bif Nat.blt pc 42 then (bif Nat.blt pc 40 then (bif Nat.blt pc 37 then (bif Nat.beq pc 34 then some (.invokevirtual 136, []) else none) else (bif Nat.beq pc 37 then some (.ifCond .eq 5, [42]) else none)) else (bif Nat.blt pc 41 then (bif Nat.beq pc 40 then some (.iload_n 3, []) else none) else (bif Nat.beq pc 41 then some (.istore_n 2, []) else none))) else (bif Nat.blt pc 48 then (bif Nat.blt pc 45 then (bif Nat.beq pc 42 then some (.iinc 3 (-1), []) else none) else (bif Nat.beq pc 45 then some (.goto (-32), [13]) else none)) else (bif Nat.blt pc 49 then (bif Nat.beq pc 48 then some (.iload_n 2, []) else none) else (bif Nat.beq pc 49 then some (.ireturn, []) else none)))))))
set_option maxRecDepth 100000 in
theorem oX6_falses : xIOk cX6_falses iX6_falses := xIOk_of (N := 50) (fun pc h => xtree_none h) (by decide +kernel)
set_option maxRecDepth 100000 in
theorem yoX6_falses : xYOk yX6_falses cX6_falses 4 (some .int) 0 := ⟨by decide, xm 765 (by decide +kernel) rfl, xm 47 (by decide +kernel) rfl, by decide +kernel, by decide +kernel⟩
set_option maxRecDepth 100000 in
def iX6_greatestHeap : Nat → Option (Instr × List Nat) := xtree 78 (fun pc => (bif Nat.blt pc 37 then (bif Nat.blt pc 16 then (bif Nat.blt pc 5 then (bif Nat.blt pc 2 then (bif Nat.blt pc 1 then (bif Nat.beq pc 0 then some (.iconst 0, []) else none) else (bif Nat.beq pc 1 then some (.istore_n 2, []) else none)) else (bif Nat.blt pc 3 then (bif Nat.beq pc 2 then some (.iconst (-1), []) else none) else (bif Nat.blt pc 4 then (bif Nat.beq pc 3 then some (.istore_n 3, []) else none) else (bif Nat.beq pc 4 then some (.iload_n 3, []) else none)))) else (bif Nat.blt pc 11 then (bif Nat.blt pc 7 then (bif Nat.beq pc 5 then some (.bipush 10, []) else none) else (bif Nat.blt pc 10 then (bif Nat.beq pc 7 then some (.if_icmp .ge 69, [76]) else none) else (bif Nat.beq pc 10 then some (.iconst 0, []) else none))) else (bif Nat.blt pc 13 then (bif Nat.beq pc 11 then some (.istore 4, []) else none) else (bif Nat.blt pc 14 then (bif Nat.beq pc 13 then some (.iconst 0, []) else none) else (bif Nat.beq pc 14 then some (.istore 5, []) else none))))) else (bif Nat.blt pc 27 then (bif Nat.blt pc 19 then (bif Nat.blt pc 18 then (bif Nat.beq pc 16 then some (.iload 5, []) else none) else (bif Nat.beq pc 18 then some (.aload_n 0, []) else none)) else (bif Nat.blt pc 22 then (bif Nat.beq pc 19 then some (.getfield 97, []) else none) else (bif Nat.blt pc 25 then (bif Nat.beq pc 22 then some (.if_icmp .ge 35, [57]) else none) else (bif Nat.beq pc 25 then some (.iload 4, []) else none)))) else (bif Nat.blt pc 33 then (bif Nat.blt pc 28 then (bif Nat.beq pc 27 then some (.aload_n 0, []) else none) else (bif Nat.blt pc 31 then (bif Nat.beq pc 28 then some (.getfield 42, []) else none) else (bif Nat.beq pc 31 then some (.bipush 36, []) else none))) else (bif Nat.blt pc 35 then (bif Nat.beq pc 33 then some (.iload 5, []) else none) else (bif Nat.blt pc 36 then (bif Nat.beq pc 35 then some (.imul, []) else none) else (bif Nat.beq pc 36 then some (.iload_n 1, []) else none)))))) else (bif Nat.blt pc 57 then (bif Nat.blt pc 44 then (bif Nat.blt pc 39 then (bif Nat.blt pc 38 then (bif Nat.beq pc 37 then some (.iadd, []) else none) else (bif Nat.beq pc 38 then some (.iaload, []) else none)) else (bif Nat.blt pc 40 then (bif Nat.beq pc 39 then some (.iload_n 3, []) else none) else (bif Nat.blt pc 43 then (bif Nat.beq pc 40 then some (.if_icmp .ne 7, [47]) else none) else (bif Nat.beq pc 43 then some (.iconst 1, []) else none)))) else (bif Nat.blt pc 49 then (bif Nat.blt pc 47 then (bif Nat.beq pc 44 then some (.goto 4, [48]) else none) else (bif Nat.blt pc 48 then (bif Nat.beq pc 47 then some (.iconst 0, []) else none) else (bif Nat.beq pc 48 then some (.iadd, []) else none))) else (bif Nat.blt pc 51 then (bif Nat.beq pc 49 then some (.istore 4, []) else none) else (bif Nat.blt pc 54 then (bif Nat.beq pc 51 then some (.iinc 5 1, []) else none) else (bif Nat.beq pc 54 then some (.goto (-38), [16]) else none))))) else (bif Nat.blt pc 68 then (bif Nat.blt pc 60 then (bif Nat.blt pc 59 then (bif Nat.beq pc 57 then some (.iload 4, []) else none) else (bif Nat.beq pc 59 then some (.iload_n 2, []) else none)) else (bif Nat.blt pc 63 then (bif Nat.beq pc 60 then some (.if_icmp .le 8, [68]) else none) else (bif Nat.blt pc 65 then (bif Nat.beq pc 63 then some (.iload 4, []) else none) else (bif Nat.beq pc 65 then some (.goto 4, [69]) else none)))) else (bif Nat.blt pc 73 then (bif Nat.blt pc 69 then (bif Nat.beq pc 68 then some (.iload_n 2, []) else none) else (bif Nat.blt pc 70 then (bif Nat.beq pc 69 then some (.istore_n 2, []) else none) else (bif Nat.beq pc 70 then some (.iinc 3 1, []) else none))) else (bif Nat.blt pc 76 then (bif Nat.beq pc 73 then some (.goto (-69), [4]) else none) else (bif Nat.blt pc 77 then (bif Nat.beq pc 76 then some (.iload_n 2, []) else none) else (bif Nat.beq pc 77 then some (.ireturn, []) else none))))))))
set_option maxRecDepth 100000 in
theorem oX6_greatestHeap : xIOk cX6_greatestHeap iX6_greatestHeap := xIOk_of (N := 78) (fun pc h => xtree_none h) (by decide +kernel)
set_option maxRecDepth 100000 in
theorem yoX6_greatestHeap : xYOk yX6_greatestHeap cX6_greatestHeap 6 (some .int) 1 := ⟨by decide, xm 784 (by decide +kernel) rfl, xm 47 (by decide +kernel) rfl, by decide +kernel, by decide +kernel⟩
set_option maxRecDepth 100000 in
def iX6_findNext : Nat → Option (Instr × List Nat) := xtree 118 (fun pc => (bif Nat.blt pc 56 then (bif Nat.blt pc 24 then (bif Nat.blt pc 12 then (bif Nat.blt pc 6 then (bif Nat.blt pc 4 then (bif Nat.blt pc 1 then (bif Nat.beq pc 0 then some (.aload_n 0, []) else none) else (bif Nat.beq pc 1 then some (.invokevirtual 127, []) else none)) else (bif Nat.blt pc 5 then (bif Nat.beq pc 4 then some (.aload_n 0, []) else none) else (bif Nat.beq pc 5 then some (.iconst (-1), []) else none))) else (bif Nat.blt pc 10 then (bif Nat.blt pc 9 then (bif Nat.beq pc 6 then some (.putfield 139, []) else none) else (bif Nat.beq pc 9 then some (.iconst 0, []) else none)) else (bif Nat.blt pc 11 then (bif Nat.beq pc 10 then some (.istore_n 1, []) else none) else (bif Nat.beq pc 11 then some (.iload_n 1, []) else none)))) else (bif Nat.blt pc 19 then (bif Nat.blt pc 17 then (bif Nat.blt pc 14 then (bif Nat.beq pc 12 then some (.bipush 6, []) else none) else (bif Nat.beq pc 14 then some (.if_icmp .ge 90, [104]) else none)) else (bif Nat.blt pc 18 then (bif Nat.beq pc 17 then some (.iload_n 1, []) else none) else (bif Nat.beq pc 18 then some (.iconst 1, []) else none))) else (bif Nat.blt pc 21 then (bif Nat.blt pc 20 then (bif Nat.beq pc 19 then some (.iadd, []) else none) else (bif Nat.beq pc 20 then some (.istore_n 2, []) else none)) else (bif Nat.blt pc 22 then (bif Nat.beq pc 21 then some (.iload_n 2, []) else none) else (bif Nat.beq pc 22 then some (.bipush 6, []) else none))))) else (bif Nat.blt pc 42 then (bif Nat.blt pc 34 then (bif Nat.blt pc 28 then (bif Nat.blt pc 27 then (bif Nat.beq pc 24 then some (.if_icmp .ge 74, [98]) else none) else (bif Nat.beq pc 27 then some (.aload_n 0, []) else none)) else (bif Nat.blt pc 31 then (bif Nat.beq pc 28 then some (.getfield 97, []) else none) else (bif Nat.beq pc 31 then some (.ifCond .le 67, [98]) else none))) else (bif Nat.blt pc 36 then (bif Nat.blt pc 35 then (bif Nat.beq pc 34 then some (.aload_n 0, []) else none) else (bif Nat.beq pc 35 then some (.iload_n 1, []) else none)) else (bif Nat.blt pc 39 then (bif Nat.beq pc 36 then some (.invokevirtual 130, []) else none) else (bif Nat.beq pc 39 then some (.ifCond .eq 53, [92]) else none)))) else (bif Nat.blt pc 50 then (bif Nat.blt pc 44 then (bif Nat.blt pc 43 then (bif Nat.beq pc 42 then some (.aload_n 0, []) else none) else (bif Nat.beq pc 43 then some (.iload_n 2, []) else none)) else (bif Nat.blt pc 47 then (bif Nat.beq pc 44 then some (.invokevirtual 130, []) else none) else (bif Nat.beq pc 47 then some (.ifCond .eq 45, [92]) else none))) else (bif Nat.blt pc 53 then (bif Nat.blt pc 51 then (bif Nat.beq pc 50 then some (.aload_n 0, []) else none) else (bif Nat.beq pc 51 then some (.bipush 6, []) else none)) else (bif Nat.blt pc 54 then (bif Nat.beq pc 53 then some (.iload_n 1, []) else none) else (bif Nat.blt pc 55 then (bif Nat.beq pc 54 then some (.imul, []) else none) else (bif Nat.beq pc 55 then some (.iload_n 2, []) else none))))))) else (bif Nat.blt pc 83 then (bif Nat.blt pc 70 then (bif Nat.blt pc 62 then (bif Nat.blt pc 60 then (bif Nat.blt pc 57 then (bif Nat.beq pc 56 then some (.iadd, []) else none) else (bif Nat.beq pc 57 then some (.invokevirtual 142, []) else none)) else (bif Nat.blt pc 61 then (bif Nat.beq pc 60 then some (.istore_n 3, []) else none) else (bif Nat.beq pc 61 then some (.aload_n 0, []) else none))) else (bif Nat.blt pc 66 then (bif Nat.blt pc 65 then (bif Nat.beq pc 62 then some (.getfield 139, []) else none) else (bif Nat.beq pc 65 then some (.iconst (-1), []) else none)) else (bif Nat.blt pc 69 then (bif Nat.beq pc 66 then some (.if_icmp .eq 11, [77]) else none) else (bif Nat.beq pc 69 then some (.iload_n 3, []) else none)))) else (bif Nat.blt pc 78 then (bif Nat.blt pc 74 then (bif Nat.blt pc 71 then (bif Nat.beq pc 70 then some (.aload_n 0, []) else none) else (bif Nat.beq pc 71 then some (.getfield 145, []) else none)) else (bif Nat.blt pc 77 then (bif Nat.beq pc 74 then some (.if_icmp .ge 18, [92]) else none) else (bif Nat.beq pc 77 then some (.aload_n 0, []) else none))) else (bif Nat.blt pc 81 then (bif Nat.blt pc 80 then (bif Nat.beq pc 78 then some (.bipush 6, []) else none) else (bif Nat.beq pc 80 then some (.iload_n 1, []) else none)) else (bif Nat.blt pc 82 then (bif Nat.beq pc 81 then some (.imul, []) else none) else (bif Nat.beq pc 82 then some (.iload_n 2, []) else none))))) else (bif Nat.blt pc 101 then (bif Nat.blt pc 89 then (bif Nat.blt pc 87 then (bif Nat.blt pc 84 then (bif Nat.beq pc 83 then some (.iadd, []) else none) else (bif Nat.beq pc 84 then some (.putfield 139, []) else none)) else (bif Nat.blt pc 88 then (bif Nat.beq pc 87 then some (.aload_n 0, []) else none) else (bif Nat.beq pc 88 then some (.iload_n 3, []) else none))) else (bif Nat.blt pc 95 then (bif Nat.blt pc 92 then (bif Nat.beq pc 89 then some (.putfield 145, []) else none) else (bif Nat.beq pc 92 then some (.iinc 2 1, []) else none)) else (bif Nat.blt pc 98 then (bif Nat.beq pc 95 then some (.goto (-74), [21]) else none) else (bif Nat.beq pc 98 then some (.iinc 1 1, []) else none)))) else (bif Nat.blt pc 109 then (bif Nat.blt pc 105 then (bif Nat.blt pc 104 then (bif Nat.beq pc 101 then some (.goto (-90), [11]) else none) else (bif Nat.beq pc 104 then some (.aload_n 0, []) else none)) else (bif Nat.blt pc 108 then (bif Nat.beq pc 105 then some (.getfield 139, []) else none) else (bif Nat.beq pc 108 then some (.iconst (-1), []) else none))) else (bif Nat.blt pc 113 then (bif Nat.blt pc 112 then (bif Nat.beq pc 109 then some (.if_icmp .eq 7, [116]) else none) else (bif Nat.beq pc 112 then some (.iconst 1, []) else none)) else (bif Nat.blt pc 116 then (bif Nat.beq pc 113 then some (.goto 4, [117]) else none) else (bif Nat.blt pc 117 then (bif Nat.beq pc 116 then some (.iconst 0, []) else none) else (bif Nat.beq pc 117 then some (.ireturn, []) else none)))))))))
set_option maxRecDepth 100000 in
theorem oX6_findNext : xIOk cX6_findNext iX6_findNext := xIOk_of (N := 118) (fun pc h => xtree_none h) (by decide +kernel)
set_option maxRecDepth 100000 in
theorem yoX6_findNext : xYOk yX6_findNext cX6_findNext 4 (some .boolean) 0 := ⟨by decide, xm 780 (by decide +kernel) rfl, xm 47 (by decide +kernel) rfl, by decide +kernel, by decide +kernel⟩
set_option maxRecDepth 100000 in
def iX6_next : Nat → Option (Instr × List Nat) := xtree 31 (fun pc => (bif Nat.blt pc 16 then (bif Nat.blt pc 9 then (bif Nat.blt pc 4 then (bif Nat.blt pc 1 then (bif Nat.beq pc 0 then some (.aload_n 0, []) else none) else (bif Nat.beq pc 1 then some (.invokevirtual 148, []) else none)) else (bif Nat.blt pc 7 then (bif Nat.beq pc 4 then some (.ifCond .eq 24, [28]) else none) else (bif Nat.beq pc 7 then some (.bipush 10, []) else none))) else (bif Nat.blt pc 13 then (bif Nat.blt pc 10 then (bif Nat.beq pc 9 then some (.aload_n 0, []) else none) else (bif Nat.beq pc 10 then some (.getfield 139, []) else none)) else (bif Nat.blt pc 15 then (bif Nat.beq pc 13 then some (.bipush 6, []) else none) else (bif Nat.beq pc 15 then some (.idiv, []) else none)))) else (bif Nat.blt pc 23 then (bif Nat.blt pc 18 then (bif Nat.blt pc 17 then (bif Nat.beq pc 16 then some (.imul, []) else none) else (bif Nat.beq pc 17 then some (.aload_n 0, []) else none)) else (bif Nat.blt pc 21 then (bif Nat.beq pc 18 then some (.getfield 139, []) else none) else (bif Nat.beq pc 21 then some (.bipush 6, []) else none))) else (bif Nat.blt pc 25 then (bif Nat.blt pc 24 then (bif Nat.beq pc 23 then some (.irem, []) else none) else (bif Nat.beq pc 24 then some (.iadd, []) else none)) else (bif Nat.blt pc 28 then (bif Nat.beq pc 25 then some (.goto 5, [30]) else none) else (bif Nat.blt pc 30 then (bif Nat.beq pc 28 then some (.bipush (-6), []) else none) else (bif Nat.beq pc 30 then some (.ireturn, []) else none)))))))
set_option maxRecDepth 100000 in
theorem oX6_next : xIOk cX6_next iX6_next := xIOk_of (N := 31) (fun pc h => xtree_none h) (by decide +kernel)
set_option maxRecDepth 100000 in
theorem yoX6_next : xYOk yX6_next cX6_next 1 (some .int) 0 := ⟨by decide, xm 776 (by decide +kernel) rfl, xm 47 (by decide +kernel) rfl, by decide +kernel, by decide +kernel⟩
set_option maxRecDepth 100000 in
def iX6_worst : Nat → Option (Instr × List Nat) := xtree 17 (fun pc => (bif Nat.blt pc 8 then (bif Nat.blt pc 4 then (bif Nat.blt pc 1 then (bif Nat.beq pc 0 then some (.aload_n 0, []) else none) else (bif Nat.beq pc 1 then some (.invokevirtual 148, []) else none)) else (bif Nat.blt pc 7 then (bif Nat.beq pc 4 then some (.ifCond .eq 10, [14]) else none) else (bif Nat.beq pc 7 then some (.aload_n 0, []) else none))) else (bif Nat.blt pc 14 then (bif Nat.blt pc 11 then (bif Nat.beq pc 8 then some (.getfield 145, []) else none) else (bif Nat.beq pc 11 then some (.goto 5, [16]) else none)) else (bif Nat.blt pc 16 then (bif Nat.beq pc 14 then some (.bipush (-6), []) else none) else (bif Nat.beq pc 16 then some (.ireturn, []) else none)))))
set_option maxRecDepth 100000 in
theorem oX6_worst : xIOk cX6_worst iX6_worst := xIOk_of (N := 17) (fun pc h => xtree_none h) (by decide +kernel)
set_option maxRecDepth 100000 in
theorem yoX6_worst : xYOk yX6_worst cX6_worst 1 (some .int) 0 := ⟨by decide, xm 788 (by decide +kernel) rfl, xm 47 (by decide +kernel) rfl, by decide +kernel, by decide +kernel⟩
set_option maxRecDepth 100000 in
def iX6_count : Nat → Option (Instr × List Nat) := xtree 99 (fun pc => (bif Nat.blt pc 64 then (bif Nat.blt pc 46 then (bif Nat.blt pc 37 then (bif Nat.blt pc 2 then (bif Nat.blt pc 1 then (bif Nat.beq pc 0 then some (.iconst 0, []) else none) else (bif Nat.beq pc 1 then some (.istore_n 2, []) else none)) else (bif Nat.blt pc 3 then (bif Nat.beq pc 2 then some (.iload_n 1, []) else none) else (bif Nat.blt pc 36 then (bif Nat.beq pc 3 then some (.tableswitch 93 0 4 #[33, 38, 43, 75, 80], [96, 36, 41, 46, 78, 83]) else none) else (bif Nat.beq pc 36 then some (.aload_n 0, []) else none)))) else (bif Nat.blt pc 41 then (bif Nat.blt pc 40 then (bif Nat.beq pc 37 then some (.getfield 52, []) else none) else (bif Nat.beq pc 40 then some (.ireturn, []) else none)) else (bif Nat.blt pc 42 then (bif Nat.beq pc 41 then some (.aload_n 0, []) else none) else (bif Nat.blt pc 45 then (bif Nat.beq pc 42 then some (.invokevirtual 60, []) else none) else (bif Nat.beq pc 45 then some (.ireturn, []) else none))))) else (bif Nat.blt pc 54 then (bif Nat.blt pc 48 then (bif Nat.blt pc 47 then (bif Nat.beq pc 46 then some (.iconst 0, []) else none) else (bif Nat.beq pc 47 then some (.istore_n 3, []) else none)) else (bif Nat.blt pc 49 then (bif Nat.beq pc 48 then some (.iload_n 3, []) else none) else (bif Nat.blt pc 51 then (bif Nat.beq pc 49 then some (.bipush 6, []) else none) else (bif Nat.beq pc 51 then some (.if_icmp .ge 25, [76]) else none)))) else (bif Nat.blt pc 57 then (bif Nat.blt pc 55 then (bif Nat.beq pc 54 then some (.iload_n 2, []) else none) else (bif Nat.blt pc 56 then (bif Nat.beq pc 55 then some (.aload_n 0, []) else none) else (bif Nat.beq pc 56 then some (.iload_n 3, []) else none))) else (bif Nat.blt pc 60 then (bif Nat.beq pc 57 then some (.invokevirtual 130, []) else none) else (bif Nat.blt pc 63 then (bif Nat.beq pc 60 then some (.ifCond .eq 7, [67]) else none) else (bif Nat.beq pc 63 then some (.iconst 1, []) else none)))))) else (bif Nat.blt pc 83 then (bif Nat.blt pc 73 then (bif Nat.blt pc 68 then (bif Nat.blt pc 67 then (bif Nat.beq pc 64 then some (.goto 4, [68]) else none) else (bif Nat.beq pc 67 then some (.iconst 0, []) else none)) else (bif Nat.blt pc 69 then (bif Nat.beq pc 68 then some (.iadd, []) else none) else (bif Nat.blt pc 70 then (bif Nat.beq pc 69 then some (.istore_n 2, []) else none) else (bif Nat.beq pc 70 then some (.iinc 3 1, []) else none)))) else (bif Nat.blt pc 78 then (bif Nat.blt pc 76 then (bif Nat.beq pc 73 then some (.goto (-25), [48]) else none) else (bif Nat.blt pc 77 then (bif Nat.beq pc 76 then some (.iload_n 2, []) else none) else (bif Nat.beq pc 77 then some (.ireturn, []) else none))) else (bif Nat.blt pc 79 then (bif Nat.beq pc 78 then some (.aload_n 0, []) else none) else (bif Nat.blt pc 82 then (bif Nat.beq pc 79 then some (.getfield 64, []) else none) else (bif Nat.beq pc 82 then some (.ireturn, []) else none))))) else (bif Nat.blt pc 90 then (bif Nat.blt pc 85 then (bif Nat.blt pc 84 then (bif Nat.beq pc 83 then some (.aload_n 0, []) else none) else (bif Nat.beq pc 84 then some (.iconst 1, []) else none)) else (bif Nat.blt pc 86 then (bif Nat.beq pc 85 then some (.aload_n 0, []) else none) else (bif Nat.blt pc 89 then (bif Nat.beq pc 86 then some (.getfield 52, []) else none) else (bif Nat.beq pc 89 then some (.ishl, []) else none)))) else (bif Nat.blt pc 95 then (bif Nat.blt pc 91 then (bif Nat.beq pc 90 then some (.iconst 1, []) else none) else (bif Nat.blt pc 92 then (bif Nat.beq pc 91 then some (.isub, []) else none) else (bif Nat.beq pc 92 then some (.invokevirtual 100, []) else none))) else (bif Nat.blt pc 96 then (bif Nat.beq pc 95 then some (.ireturn, []) else none) else (bif Nat.blt pc 98 then (bif Nat.beq pc 96 then some (.bipush (-2), []) else none) else (bif Nat.beq pc 98 then some (.ireturn, []) else none))))))))
set_option maxRecDepth 100000 in
theorem oX6_count : xIOk cX6_count iX6_count := xIOk_of (N := 99) (fun pc h => xtree_none h) (by decide +kernel)
set_option maxRecDepth 100000 in
theorem yoX6_count : xYOk yX6_count cX6_count 4 (some .int) 1 := ⟨by decide, xm 792 (by decide +kernel) rfl, xm 47 (by decide +kernel) rfl, by decide +kernel, by decide +kernel⟩
theorem loX6_48 : xLink RX6 48 yX6_in true := ⟨xm 645 (by decide +kernel) rfl, Or.inl (xm 644 (by decide +kernel) rfl)⟩
theorem loX6_56 : xLink RX6 56 yX6_silentOf false := ⟨xm 653 (by decide +kernel) rfl, xm 21 (by decide +kernel) rfl, xm 651 (by decide +kernel) rfl⟩
theorem loX6_60 : xLink RX6 60 yX6_silentMany false := ⟨xm 649 (by decide +kernel) rfl, xm 20 (by decide +kernel) rfl, xm 647 (by decide +kernel) rfl⟩
theorem loX6_67 : xLink RX6 67 yX6_isName true := ⟨xm 672 (by decide +kernel) rfl, Or.inl (xm 671 (by decide +kernel) rfl)⟩
theorem loX6_74 : xLink RX6 74 yX6_isThere false := ⟨xm 700 (by decide +kernel) rfl, xm 25 (by decide +kernel) rfl, xm 698 (by decide +kernel) rfl⟩
theorem loX6_78 : xLink RX6 78 yX6_isBoxThere false := ⟨xm 696 (by decide +kernel) rfl, xm 24 (by decide +kernel) rfl, xm 694 (by decide +kernel) rfl⟩
theorem loX6_81 : xLink RX6 81 yX6_layPlaces false := ⟨xm 720 (by decide +kernel) rfl, xm 30 (by decide +kernel) rfl, xm 718 (by decide +kernel) rfl⟩
theorem loX6_85 : xLink RX6 85 yX6_hasOnce false := ⟨xm 724 (by decide +kernel) rfl, xm 31 (by decide +kernel) rfl, xm 722 (by decide +kernel) rfl⟩
theorem loX6_88 : xLink RX6 88 yX6_layLines false := ⟨xm 728 (by decide +kernel) rfl, xm 32 (by decide +kernel) rfl, xm 726 (by decide +kernel) rfl⟩
theorem loX6_94 : xLink RX6 94 yX6_raise false := ⟨xm 708 (by decide +kernel) rfl, xm 27 (by decide +kernel) rfl, xm 706 (by decide +kernel) rfl⟩
theorem loX6_100 : xLink RX6 100 yX6_boxMany false := ⟨xm 692 (by decide +kernel) rfl, xm 23 (by decide +kernel) rfl, xm 690 (by decide +kernel) rfl⟩
theorem loX6_109 : xLink RX6 109 yX6_begin false := ⟨xm 704 (by decide +kernel) rfl, xm 26 (by decide +kernel) rfl, xm 702 (by decide +kernel) rfl⟩
theorem loX6_112 : xLink RX6 112 yX6_newMany false := ⟨xm 712 (by decide +kernel) rfl, xm 28 (by decide +kernel) rfl, xm 710 (by decide +kernel) rfl⟩
theorem loX6_115 : xLink RX6 115 yX6_fits false := ⟨xm 716 (by decide +kernel) rfl, xm 29 (by decide +kernel) rfl, xm 714 (by decide +kernel) rfl⟩
theorem loX6_118 : xLink RX6 118 yX6_lineMany false := ⟨xm 732 (by decide +kernel) rfl, xm 33 (by decide +kernel) rfl, xm 730 (by decide +kernel) rfl⟩
theorem loX6_121 : xLink RX6 121 yX6_keep false := ⟨xm 736 (by decide +kernel) rfl, xm 34 (by decide +kernel) rfl, xm 734 (by decide +kernel) rfl⟩
theorem loX6_124 : xLink RX6 124 yX6_goOn false := ⟨xm 740 (by decide +kernel) rfl, xm 35 (by decide +kernel) rfl, xm 738 (by decide +kernel) rfl⟩
theorem loX6_127 : xLink RX6 127 yX6_findNets false := ⟨xm 688 (by decide +kernel) rfl, xm 22 (by decide +kernel) rfl, xm 686 (by decide +kernel) rfl⟩
theorem loX6_130 : xLink RX6 130 yX6_isSeen false := ⟨xm 756 (by decide +kernel) rfl, xm 36 (by decide +kernel) rfl, xm 754 (by decide +kernel) rfl⟩
theorem loX6_133 : xLink RX6 133 yX6_ones true := ⟨xm 767 (by decide +kernel) rfl, Or.inl (xm 766 (by decide +kernel) rfl)⟩
theorem loX6_136 : xLink RX6 136 yX6_canFit false := ⟨xm 771 (by decide +kernel) rfl, xm 37 (by decide +kernel) rfl, xm 769 (by decide +kernel) rfl⟩
theorem loX6_142 : xLink RX6 142 yX6_greatestHeap false := ⟨xm 783 (by decide +kernel) rfl, xm 39 (by decide +kernel) rfl, xm 781 (by decide +kernel) rfl⟩
theorem loX6_148 : xLink RX6 148 yX6_findNext false := ⟨xm 779 (by decide +kernel) rfl, xm 38 (by decide +kernel) rfl, xm 777 (by decide +kernel) rfl⟩
end
section
/-! the two layouts: LX, the class's cells; LM, the reference's -/
def LX : List xD := [.inl (5, [some 1, some 4, some 10, some 12]), .inl (2, [some 2, some 3, none]), .inr (0, 42), .inr (0, 7), .inl (4, [some 5, some 6, none]), .inr (0, 6), .inr (0, 6), .inl (1, [some 1, some 4, some 8, some 9]), .inr (0, 4), .inr (0, 10), .inl (0, [some 1, some 4, some 7, some 11, none, none, none, none, none, none]), .inr (0, 512), .inl (3, [some 1, some 4, some 7, some 10, some 13, some 14, some 15, none, none, none]), .inr (0, 10), .inr (0, 10), .inr (0, 396)]
def LM : List xD := [.inl (6, [none, some 1, some 2, none, some 3, some 4, some 5, none, some 6, some 7, some 8, some 9, none, none, none, none, some 10, some 11, some 12, none, none]), .inr (0, 6), .inr (0, 36), .inr (0, 6), .inr (0, 6), .inr (1, 36), .inr (0, 4), .inr (0, 36), .inr (1, 100), .inr (0, 100), .inr (0, 20160), .inr (0, 181440), .inr (1, 181440)]
theorem xOk_of {ad : Nat → Nat} {L : List xD} (h1 : ∀ i j, i < L.length → j < L.length → ad i = ad j → i = j) (h2 : L.all (fun d => match d with | .inl _ => true | .inr q => decide (q.2 < 2147483648)) = true) : xOk ad L := by
  refine ⟨h1, fun c t n h => ?_⟩
  have := List.all_eq_true.mp h2 _ (List.mem_of_getElem? h)
  simpa using this
end
section
def calX0_forgetFound : xCal := []
def cutX0_forgetFound : Nat → Bool := fun pc => false
set_option maxRecDepth 100000 in
set_option maxHeartbeats 4000000 in
theorem vcX0_forgetFound_0 (Rt : xR) (K : xG) (M : xM) : xw LX fldX0 calX0_forgetFound [] 0 Rt iX0_forgetFound cutX0_forgetFound K 400 0 [some (.inr 10)] [] M = (((0 : Int) = 0 ∨ (0 : Int) = 1) ∧ Rt 0 (xup M 10 4 (0 : Int))) := rfl
def calX0_many (t41 t49 t52 t61 t64 t68 : xT) : xCal := [(41, false, 1, false, t41), (49, false, 1, false, t49), (52, false, 2, false, t52), (61, false, 1, false, t61), (64, false, 2, false, t64), (68, true, 3, true, t68)]
def cutX0_many : Nat → Bool := fun pc => false
set_option maxRecDepth 100000 in
set_option maxHeartbeats 4000000 in
theorem vcX0_many_0 (Rt : xR) (K : xG) (t41 t49 t52 t61 t64 t68 : xT) (M : xM) : xw LX fldX0 (calX0_many t41 t49 t52 t61 t64 t68) [] 1 Rt iX0_many cutX0_many K 400 0 [some (.inr 10)] [] M = (rg (M 10 4) ∧ ((M 10 4) = 0 → ((1 : Int) = 0 ∨ (1 : Int) = 1) ∧ t41 [.inr 1] (xup (xup (xup (xup M 10 4 (1 : Int)) 10 5 (0 : Int)) 10 6 (4 : Int)) 10 7 (100 : Int)) (fun r1 M1 => t49 [.inr 1] (xup M1 10 8 r1) (fun r2 M2 => t52 [.inr 4, .inl r2] M2 (fun r3 M3 => t61 [.inr 1] (xup M3 10 9 r3) (fun r4 M4 => t64 [.inr 10, .inl r4] M4 (fun r5 M5 => rg r5 ∧ (r5 = 0 → Rt (M5 10 5) M5) ∧ (r5 ≠ 0 → t68 [.inr 10, .inl (0 : Int), .inl (0 : Int)] M5 (fun r6 M6 => Rt (M6 10 5) M6)))))))) ∧ ((M 10 4) ≠ 0 → Rt (M 10 5) M)) := rfl
def calX0_newBoxes : xCal := []
def cutX0_newBoxes : Nat → Bool := fun pc => false
set_option maxRecDepth 100000 in
set_option maxHeartbeats 4000000 in
theorem vcX0_newBoxes_0 (Rt : xR) (K : xG) (M : xM) : xw LX fldX0 calX0_newBoxes [] 1 Rt iX0_newBoxes cutX0_newBoxes K 400 0 [some (.inr 10)] [] M = (Rt (M 10 6) M) := rfl
def calX0_lines : xCal := []
def cutX0_lines : Nat → Bool := fun pc => false
set_option maxRecDepth 100000 in
set_option maxHeartbeats 4000000 in
theorem vcX0_lines_0 (Rt : xR) (K : xG) (M : xM) : xw LX fldX0 calX0_lines [] 1 Rt iX0_lines cutX0_lines K 400 0 [some (.inr 10)] [] M = (Rt (M 10 7) M) := rfl
def calX0_code : xCal := []
def cutX0_code : Nat → Bool := fun pc => false
set_option maxRecDepth 100000 in
set_option maxHeartbeats 4000000 in
theorem vcX0_code_0 (Rt : xR) (K : xG) (M : xM) (v1 : Int) : xw LX fldX0 calX0_code [] 1 Rt iX0_code cutX0_code K 400 0 [some (.inr 10), some (.inl v1)] [] M = (rg v1 ∧ (v1 < 0 → Rt (0 : Int) M) ∧ (0 ≤ v1 → rg v1 ∧ rg (512 : Int) ∧ ((512 : Int) ≤ v1 → Rt (0 : Int) M) ∧ (v1 < (512 : Int) → (0 ≤ v1 ∧ v1 < 512) ∧ Rt (M 11 v1) M))) := rfl
def calX0_someFits (t72 t78 : xT) : xCal := [(72, false, 3, true, t72), (78, false, 2, false, t78)]
def cutX0_someFits : Nat → Bool := fun pc => false
set_option maxRecDepth 100000 in
set_option maxHeartbeats 4000000 in
theorem vcX0_someFits_0 (Rt : xR) (K : xG) (t72 t78 : xT) (M : xM) (v1 : Int) : xw LX fldX0 (calX0_someFits t72 t78) [] 2 Rt iX0_someFits cutX0_someFits K 400 0 [some (.inr 10), some (.inl v1)] [] M = (t72 [.inr 7, .inl (0 : Int), .inl (0 : Int)] M (fun r1 M1 => t78 [.inr 7, .inl v1] M1 (fun r2 M2 => (r2 = 0 ∨ r2 = 1) ∧ Rt r2 M2))) := rfl
def calX0_seek (t81 t85 t89 t61 t78 t68 : xT) : xCal := [(81, false, 2, true, t81), (85, false, 3, false, t85), (89, false, 4, true, t89), (61, false, 1, false, t61), (78, false, 2, false, t78), (68, true, 3, true, t68)]
def cutX0_seek : Nat → Bool := fun pc => Nat.beq pc 21
set_option maxRecDepth 100000 in
set_option maxHeartbeats 4000000 in
theorem vcX0_seek_0 (Rt : xR) (K : xG) (t81 t85 t89 t61 t78 t68 : xT) (M : xM) (v1 v2 : Int) : xw LX fldX0 (calX0_seek t81 t85 t89 t61 t78 t68) [] 0 Rt iX0_seek cutX0_seek K 400 0 [some (.inr 10), some (.inl v1), some (.inl v2), none, none] [] M = (rg v1 ∧ rg (M 10 8) ∧ ((M 10 8) ≤ v1 → t81 [.inr 10, .inl v2] M (fun r1 M1 => Rt 0 M1)) ∧ (v1 < (M 10 8) → rg v1 ∧ rg (4 : Int) ∧ (v1 < (4 : Int) → K 21 [some (.inr 10), some (.inl v1), some (.inl v2), some (.inl (0 : Int)), none] [] M) ∧ ((4 : Int) ≤ v1 → t81 [.inr 10, .inl v2] M (fun r2 M2 => Rt 0 M2)))) := rfl
set_option maxRecDepth 100000 in
set_option maxHeartbeats 4000000 in
theorem vcX0_seek_21 (Rt : xR) (K : xG) (t81 t85 t89 t61 t78 t68 : xT) (M : xM) (v1 v2 v3 : Int) (o4 : Option xV) : xw LX fldX0 (calX0_seek t81 t85 t89 t61 t78 t68) [] 0 Rt iX0_seek cutX0_seek K 400 21 [some (.inr 10), some (.inl v1), some (.inl v2), some (.inl v3), o4] [] M = (rg v3 ∧ rg ((6 : Int) + v2) ∧ (((6 : Int) + v2) < v3 → Rt 0 M) ∧ (v3 ≤ ((6 : Int) + v2) → rg v3 ∧ rg (10 : Int) ∧ ((10 : Int) ≤ v3 → Rt 0 M) ∧ (v3 < (10 : Int) → rg v3 ∧ rg ((6 : Int) + v2) ∧ (v3 ≠ ((6 : Int) + v2) → t85 [.inr 10, .inl v3, .inl v2] M (fun r1 M1 => rg r1 ∧ (r1 = 0 → K 21 [some (.inr 10), some (.inl v1), some (.inl v2), some (.inl (v3 + (1 : Int))), some (.inl v2)] [] M1) ∧ (r1 ≠ 0 → t89 [.inr 7, .inl v1, .inl v3, .inl v2] M1 (fun r2 M2 => t61 [.inr 1] M2 (fun r3 M3 => t78 [.inr 7, .inl r3] M3 (fun r4 M4 => rg r4 ∧ (r4 = 0 → K 21 [some (.inr 10), some (.inl v1), some (.inl v2), some (.inl (v3 + (1 : Int))), some (.inl v2)] [] M4) ∧ (r4 ≠ 0 → t68 [.inr 10, .inl (v1 + (1 : Int)), .inl v2] M4 (fun r5 M5 => K 21 [some (.inr 10), some (.inl v1), some (.inl v2), some (.inl (v3 + (1 : Int))), some (.inl v2)] [] M5)))))))) ∧ (v3 = ((6 : Int) + v2) → t85 [.inr 10, .inl v3, .inl (v2 + (1 : Int))] M (fun r6 M6 => rg r6 ∧ (r6 = 0 → K 21 [some (.inr 10), some (.inl v1), some (.inl v2), some (.inl (v3 + (1 : Int))), some (.inl (v2 + (1 : Int)))] [] M6) ∧ (r6 ≠ 0 → t89 [.inr 7, .inl v1, .inl v3, .inl (v2 + (1 : Int))] M6 (fun r7 M7 => t61 [.inr 1] M7 (fun r8 M8 => t78 [.inr 7, .inl r8] M8 (fun r9 M9 => rg r9 ∧ (r9 = 0 → K 21 [some (.inr 10), some (.inl v1), some (.inl v2), some (.inl (v3 + (1 : Int))), some (.inl (v2 + (1 : Int)))] [] M9) ∧ (r9 ≠ 0 → t68 [.inr 10, .inl (v1 + (1 : Int)), .inl (v2 + (1 : Int))] M9 (fun r10 M10 => K 21 [some (.inr 10), some (.inl v1), some (.inl v2), some (.inl (v3 + (1 : Int))), some (.inl (v2 + (1 : Int)))] [] M10))))))))))) := rfl
def calX0_mayTake (t93 : xT) : xCal := [(93, true, 2, false, t93)]
def cutX0_mayTake : Nat → Bool := fun pc => false
set_option maxRecDepth 100000 in
set_option maxHeartbeats 4000000 in
theorem vcX0_mayTake_0 (Rt : xR) (K : xG) (t93 : xT) (M : xM) (v1 v2 : Int) : xw LX fldX0 (calX0_mayTake t93) [] 2 Rt iX0_mayTake cutX0_mayTake K 400 0 [some (.inr 10), some (.inl v1), some (.inl v2)] [] M = (rg v2 ∧ rg (M 10 6) ∧ ((M 10 6) < v2 → ((0 : Int) = 0 ∨ (0 : Int) = 1) ∧ Rt (0 : Int) M) ∧ (v2 ≤ (M 10 6) → rg v1 ∧ rg (6 : Int) ∧ ((6 : Int) ≤ v1 → ((1 : Int) = 0 ∨ (1 : Int) = 1) ∧ Rt (1 : Int) M) ∧ (v1 < (6 : Int) → t93 [.inl (M 10 9), .inl v1] M (fun r1 M1 => rg r1 ∧ (r1 = 0 → ((0 : Int) = 0 ∨ (0 : Int) = 1) ∧ Rt (0 : Int) M1) ∧ (r1 ≠ 0 → ((1 : Int) = 0 ∨ (1 : Int) = 1) ∧ Rt (1 : Int) M1))))) := rfl
def calX0_keep (t96 t98 : xT) : xCal := [(96, false, 1, false, t96), (98, false, 1, false, t98)]
def cutX0_keep : Nat → Bool := fun pc => false
set_option maxRecDepth 100000 in
set_option maxHeartbeats 4000000 in
theorem vcX0_keep_0 (Rt : xR) (K : xG) (t96 t98 : xT) (M : xM) (v1 : Int) : xw LX fldX0 (calX0_keep t96 t98) [] 0 Rt iX0_keep cutX0_keep K 400 0 [some (.inr 10), some (.inl v1), none] [] M = (t96 [.inr 7] M (fun r1 M1 => rg v1 ∧ rg (M1 10 6) ∧ ((M1 10 6) < v1 → Rt 0 M1) ∧ (v1 ≤ (M1 10 6) → rg v1 ∧ rg (M1 10 6) ∧ (v1 ≠ (M1 10 6) → rg v1 ∧ rg (M1 10 6) ∧ (v1 < (M1 10 6) → rg ((xup (xup (xup M1 10 5 (0 : Int)) 10 6 v1) 10 7 r1) 10 5) ∧ rg (512 : Int) ∧ ((512 : Int) ≤ ((xup (xup (xup M1 10 5 (0 : Int)) 10 6 v1) 10 7 r1) 10 5) → Rt 0 (xup (xup (xup M1 10 5 (0 : Int)) 10 6 v1) 10 7 r1)) ∧ (((xup (xup (xup M1 10 5 (0 : Int)) 10 6 v1) 10 7 r1) 10 5) < (512 : Int) → t98 [.inr 7] (xup (xup (xup M1 10 5 (0 : Int)) 10 6 v1) 10 7 r1) (fun r2 M2 => (0 ≤ ((xup (xup (xup M1 10 5 (0 : Int)) 10 6 v1) 10 7 r1) 10 5) ∧ ((xup (xup (xup M1 10 5 (0 : Int)) 10 6 v1) 10 7 r1) 10 5) < 512) ∧ Rt 0 (xup (xup M2 11 ((xup (xup (xup M1 10 5 (0 : Int)) 10 6 v1) 10 7 r1) 10 5) r2) 10 5 (((xup M2 11 ((xup (xup (xup M1 10 5 (0 : Int)) 10 6 v1) 10 7 r1) 10 5) r2) 10 5) + (1 : Int)))))) ∧ ((M1 10 6) ≤ v1 → rg r1 ∧ rg (M1 10 7) ∧ ((M1 10 7) ≤ r1 → rg (M1 10 5) ∧ rg (512 : Int) ∧ ((512 : Int) ≤ (M1 10 5) → Rt 0 M1) ∧ ((M1 10 5) < (512 : Int) → t98 [.inr 7] M1 (fun r3 M3 => (0 ≤ (M1 10 5) ∧ (M1 10 5) < 512) ∧ Rt 0 (xup (xup M3 11 (M1 10 5) r3) 10 5 (((xup M3 11 (M1 10 5) r3) 10 5) + (1 : Int)))))) ∧ (r1 < (M1 10 7) → rg ((xup (xup (xup M1 10 5 (0 : Int)) 10 6 v1) 10 7 r1) 10 5) ∧ rg (512 : Int) ∧ ((512 : Int) ≤ ((xup (xup (xup M1 10 5 (0 : Int)) 10 6 v1) 10 7 r1) 10 5) → Rt 0 (xup (xup (xup M1 10 5 (0 : Int)) 10 6 v1) 10 7 r1)) ∧ (((xup (xup (xup M1 10 5 (0 : Int)) 10 6 v1) 10 7 r1) 10 5) < (512 : Int) → t98 [.inr 7] (xup (xup (xup M1 10 5 (0 : Int)) 10 6 v1) 10 7 r1) (fun r4 M4 => (0 ≤ ((xup (xup (xup M1 10 5 (0 : Int)) 10 6 v1) 10 7 r1) 10 5) ∧ ((xup (xup (xup M1 10 5 (0 : Int)) 10 6 v1) 10 7 r1) 10 5) < 512) ∧ Rt 0 (xup (xup M4 11 ((xup (xup (xup M1 10 5 (0 : Int)) 10 6 v1) 10 7 r1) 10 5) r4) 10 5 (((xup M4 11 ((xup (xup (xup M1 10 5 (0 : Int)) 10 6 v1) 10 7 r1) 10 5) r4) 10 5) + (1 : Int)))))))) ∧ (v1 = (M1 10 6) → rg r1 ∧ rg (M1 10 7) ∧ (r1 ≤ (M1 10 7) → rg v1 ∧ rg (M1 10 6) ∧ (v1 < (M1 10 6) → rg ((xup (xup (xup M1 10 5 (0 : Int)) 10 6 v1) 10 7 r1) 10 5) ∧ rg (512 : Int) ∧ ((512 : Int) ≤ ((xup (xup (xup M1 10 5 (0 : Int)) 10 6 v1) 10 7 r1) 10 5) → Rt 0 (xup (xup (xup M1 10 5 (0 : Int)) 10 6 v1) 10 7 r1)) ∧ (((xup (xup (xup M1 10 5 (0 : Int)) 10 6 v1) 10 7 r1) 10 5) < (512 : Int) → t98 [.inr 7] (xup (xup (xup M1 10 5 (0 : Int)) 10 6 v1) 10 7 r1) (fun r5 M5 => (0 ≤ ((xup (xup (xup M1 10 5 (0 : Int)) 10 6 v1) 10 7 r1) 10 5) ∧ ((xup (xup (xup M1 10 5 (0 : Int)) 10 6 v1) 10 7 r1) 10 5) < 512) ∧ Rt 0 (xup (xup M5 11 ((xup (xup (xup M1 10 5 (0 : Int)) 10 6 v1) 10 7 r1) 10 5) r5) 10 5 (((xup M5 11 ((xup (xup (xup M1 10 5 (0 : Int)) 10 6 v1) 10 7 r1) 10 5) r5) 10 5) + (1 : Int)))))) ∧ ((M1 10 6) ≤ v1 → rg r1 ∧ rg (M1 10 7) ∧ ((M1 10 7) ≤ r1 → rg (M1 10 5) ∧ rg (512 : Int) ∧ ((512 : Int) ≤ (M1 10 5) → Rt 0 M1) ∧ ((M1 10 5) < (512 : Int) → t98 [.inr 7] M1 (fun r6 M6 => (0 ≤ (M1 10 5) ∧ (M1 10 5) < 512) ∧ Rt 0 (xup (xup M6 11 (M1 10 5) r6) 10 5 (((xup M6 11 (M1 10 5) r6) 10 5) + (1 : Int)))))) ∧ (r1 < (M1 10 7) → rg ((xup (xup (xup M1 10 5 (0 : Int)) 10 6 v1) 10 7 r1) 10 5) ∧ rg (512 : Int) ∧ ((512 : Int) ≤ ((xup (xup (xup M1 10 5 (0 : Int)) 10 6 v1) 10 7 r1) 10 5) → Rt 0 (xup (xup (xup M1 10 5 (0 : Int)) 10 6 v1) 10 7 r1)) ∧ (((xup (xup (xup M1 10 5 (0 : Int)) 10 6 v1) 10 7 r1) 10 5) < (512 : Int) → t98 [.inr 7] (xup (xup (xup M1 10 5 (0 : Int)) 10 6 v1) 10 7 r1) (fun r7 M7 => (0 ≤ ((xup (xup (xup M1 10 5 (0 : Int)) 10 6 v1) 10 7 r1) 10 5) ∧ ((xup (xup (xup M1 10 5 (0 : Int)) 10 6 v1) 10 7 r1) 10 5) < 512) ∧ Rt 0 (xup (xup M7 11 ((xup (xup (xup M1 10 5 (0 : Int)) 10 6 v1) 10 7 r1) 10 5) r7) 10 5 (((xup M7 11 ((xup (xup (xup M1 10 5 (0 : Int)) 10 6 v1) 10 7 r1) 10 5) r7) 10 5) + (1 : Int)))))))) ∧ ((M1 10 7) < r1 → Rt 0 M1))))) := rfl
def calX1_place (t26 : xT) : xCal := [(26, false, 3, true, t26)]
def cutX1_place : Nat → Bool := fun pc => false
set_option maxRecDepth 100000 in
set_option maxHeartbeats 4000000 in
theorem vcX1_place_0 (Rt : xR) (K : xG) (t26 : xT) (M : xM) (v1 v2 v3 : Int) : xw LX fldX1 (calX1_place t26) [] 0 Rt iX1_place cutX1_place K 400 0 [some (.inr 7), some (.inl v1), some (.inl v2), some (.inl v3)] [] M = (rg v1 ∧ (v1 < 0 → Rt 0 M) ∧ (0 ≤ v1 → rg v1 ∧ rg (4 : Int) ∧ ((4 : Int) ≤ v1 → Rt 0 M) ∧ (v1 < (4 : Int) → (0 ≤ v1 ∧ v1 < 4) ∧ t26 [.inr 7, .inl (v1 + (1 : Int)), .inl v3] (xup M 8 v1 v2) (fun r1 M1 => Rt 0 M1)))) := rfl
def calX1_loosen (t30 : xT) : xCal := [(30, true, 2, false, t30)]
def cutX1_loosen : Nat → Bool := fun pc => Nat.beq pc 6
set_option maxRecDepth 100000 in
set_option maxHeartbeats 4000000 in
theorem vcX1_loosen_0 (Rt : xR) (K : xG) (t30 : xT) (M : xM) (v1 v2 : Int) : xw LX fldX1 (calX1_loosen t30) [] 0 Rt iX1_loosen cutX1_loosen K 400 0 [some (.inr 7), some (.inl v1), some (.inl v2), none] [] M = (t30 [.inl v1, .inl (0 : Int)] M (fun r1 M1 => K 6 [some (.inr 7), some (.inl v1), some (.inl v2), some (.inl r1)] [] M1)) := rfl
set_option maxRecDepth 100000 in
set_option maxHeartbeats 4000000 in
theorem vcX1_loosen_6 (Rt : xR) (K : xG) (t30 : xT) (M : xM) (v1 v2 v3 : Int) : xw LX fldX1 (calX1_loosen t30) [] 0 Rt iX1_loosen cutX1_loosen K 400 6 [some (.inr 7), some (.inl v1), some (.inl v2), some (.inl v3)] [] M = (rg v3 ∧ rg (4 : Int) ∧ ((4 : Int) ≤ v3 → Rt 0 M) ∧ (v3 < (4 : Int) → (0 ≤ v3 ∧ v3 < 4) ∧ K 6 [some (.inr 7), some (.inl v1), some (.inl v2), some (.inl (v3 + (1 : Int)))] [] (xup M 8 v3 ((((6 : Int) + v2) + v3) - v1)))) := rfl
def calX1_code : xCal := []
def cutX1_code : Nat → Bool := fun pc => Nat.beq pc 4
set_option maxRecDepth 100000 in
set_option maxHeartbeats 4000000 in
theorem vcX1_code_0 (Rt : xR) (K : xG) (M : xM) : xw LX fldX1 calX1_code [] 1 Rt iX1_code cutX1_code K 400 0 [some (.inr 7), none, none] [] M = (K 4 [some (.inr 7), some (.inl (0 : Int)), some (.inl (0 : Int))] [] M) := rfl
set_option maxRecDepth 100000 in
set_option maxHeartbeats 4000000 in
theorem vcX1_code_4 (Rt : xR) (K : xG) (M : xM) (v1 v2 : Int) : xw LX fldX1 calX1_code [] 1 Rt iX1_code cutX1_code K 400 4 [some (.inr 7), some (.inl v1), some (.inl v2)] [] M = (rg v2 ∧ rg (4 : Int) ∧ ((4 : Int) ≤ v2 → Rt v1 M) ∧ (v2 < (4 : Int) → (0 ≤ v2 ∧ v2 < 4) ∧ K 4 [some (.inr 7), some (.inl (xi v1 ||| xi (xi (M 8 v2) <<< (xi (v2 * (4 : Int)) &&& 31)).toInt).toInt), some (.inl (v2 + (1 : Int)))] [] M)) := rfl
def calX1_takeUp (t36 t39 t45 : xT) : xCal := [(36, true, 2, false, t36), (39, false, 1, false, t39), (45, false, 2, false, t45)]
def cutX1_takeUp : Nat → Bool := fun pc => Nat.beq pc 2
set_option maxRecDepth 100000 in
set_option maxHeartbeats 4000000 in
theorem vcX1_takeUp_0 (Rt : xR) (K : xG) (t36 t39 t45 : xT) (M : xM) (v1 : Int) : xw LX fldX1 (calX1_takeUp t36 t39 t45) [] 0 Rt iX1_takeUp cutX1_takeUp K 400 0 [some (.inr 7), some (.inl v1), none] [] M = (K 2 [some (.inr 7), some (.inl v1), some (.inl (0 : Int))] [] M) := rfl
set_option maxRecDepth 100000 in
set_option maxHeartbeats 4000000 in
theorem vcX1_takeUp_2 (Rt : xR) (K : xG) (t36 t39 t45 : xT) (M : xM) (v1 v2 : Int) : xw LX fldX1 (calX1_takeUp t36 t39 t45) [] 0 Rt iX1_takeUp cutX1_takeUp K 400 2 [some (.inr 7), some (.inl v1), some (.inl v2)] [] M = (rg v2 ∧ rg (4 : Int) ∧ ((4 : Int) ≤ v2 → t39 [.inr 1] M (fun r1 M1 => t45 [.inr 7, .inl r1] M1 (fun r2 M2 => Rt 0 M2))) ∧ (v2 < (4 : Int) → t36 [.inl v1, .inl v2] M (fun r3 M3 => (0 ≤ v2 ∧ v2 < 4) ∧ K 2 [some (.inr 7), some (.inl v1), some (.inl (v2 + (1 : Int)))] [] (xup M3 8 v2 r3)))) := rfl
def calX1_fits (t49 t55 t58 t62 t65 t69 : xT) : xCal := [(49, true, 2, true, t49), (55, false, 1, false, t55), (58, true, 2, false, t58), (62, false, 3, false, t62), (65, false, 2, false, t65), (69, false, 2, false, t69)]
def cutX1_fits : Nat → Bool := fun pc => Nat.beq pc 12 || Nat.beq pc 61
set_option maxRecDepth 100000 in
set_option maxHeartbeats 4000000 in
theorem vcX1_fits_0 (Rt : xR) (K : xG) (t49 t55 t58 t62 t65 t69 : xT) (M : xM) (v1 : Int) : xw LX fldX1 (calX1_fits t49 t55 t58 t62 t65 t69) [] 2 Rt iX1_fits cutX1_fits K 400 0 [some (.inr 7), some (.inl v1), none, none] [] M = (t49 [.inr 9, .inl (0 : Int)] M (fun r1 M1 => K 12 [some (.inr 7), some (.inl v1), some (.inl (0 : Int)), some (.inl (0 : Int))] [] M1)) := rfl
set_option maxRecDepth 100000 in
set_option maxHeartbeats 4000000 in
theorem vcX1_fits_12 (Rt : xR) (K : xG) (t49 t55 t58 t62 t65 t69 : xT) (M : xM) (v1 v2 v3 : Int) : xw LX fldX1 (calX1_fits t49 t55 t58 t62 t65 t69) [] 2 Rt iX1_fits cutX1_fits K 400 12 [some (.inr 7), some (.inl v1), some (.inl v2), some (.inl v3)] [] M = (t55 [.inr 1] M (fun r1 M1 => rg v3 ∧ rg r1 ∧ (r1 ≤ v3 → K 61 [some (.inr 7), some (.inl v1), some (.inl v2), some (.inl (0 : Int))] [] M1) ∧ (v3 < r1 → t58 [.inl v1, .inl v3] M1 (fun r2 M2 => rg r2 ∧ (r2 = 0 → t65 [.inr 1, .inl v3] M2 (fun r3 M3 => K 12 [some (.inr 7), some (.inl v1), some (.inl (v2 + r3)), some (.inl (v3 + (1 : Int)))] [] M3)) ∧ (r2 ≠ 0 → t62 [.inr 7, .inl v3, .inl v2] M2 (fun r4 M4 => rg r4 ∧ (r4 ≠ 0 → t65 [.inr 1, .inl v3] M4 (fun r5 M5 => K 12 [some (.inr 7), some (.inl v1), some (.inl (v2 + r5)), some (.inl (v3 + (1 : Int)))] [] M5)) ∧ (r4 = 0 → ((0 : Int) = 0 ∨ (0 : Int) = 1) ∧ Rt (0 : Int) M4))))))) := rfl
set_option maxRecDepth 100000 in
set_option maxHeartbeats 4000000 in
theorem vcX1_fits_61 (Rt : xR) (K : xG) (t49 t55 t58 t62 t65 t69 : xT) (M : xM) (v1 v2 v3 : Int) : xw LX fldX1 (calX1_fits t49 t55 t58 t62 t65 t69) [] 2 Rt iX1_fits cutX1_fits K 400 61 [some (.inr 7), some (.inl v1), some (.inl v2), some (.inl v3)] [] M = (t55 [.inr 1] M (fun r1 M1 => rg v3 ∧ rg r1 ∧ (r1 ≤ v3 → ((1 : Int) = 0 ∨ (1 : Int) = 1) ∧ Rt (1 : Int) M1) ∧ (v3 < r1 → t58 [.inl v1, .inl v3] M1 (fun r2 M2 => rg r2 ∧ (r2 = 0 → K 61 [some (.inr 7), some (.inl v1), some (.inl v2), some (.inl (v3 + (1 : Int)))] [] M2) ∧ (r2 ≠ 0 → t69 [.inr 7, .inl v3] M2 (fun r3 M3 => rg r3 ∧ (r3 ≠ 0 → K 61 [some (.inr 7), some (.inl v1), some (.inl v2), some (.inl (v3 + (1 : Int)))] [] M3) ∧ (r3 = 0 → ((0 : Int) = 0 ∨ (0 : Int) = 1) ∧ Rt (0 : Int) M3))))))) := rfl
def calX1_isShortest (t72 t75 t78 t83 : xT) : xCal := [(72, false, 2, false, t72), (75, false, 3, false, t75), (78, false, 2, false, t78), (83, false, 3, false, t83)]
def cutX1_isShortest : Nat → Bool := fun pc => false
set_option maxRecDepth 100000 in
set_option maxHeartbeats 4000000 in
theorem vcX1_isShortest_0 (Rt : xR) (K : xG) (t72 t75 t78 t83 : xT) (M : xM) (v1 : Int) : xw LX fldX1 (calX1_isShortest t72 t75 t78 t83) [] 2 Rt iX1_isShortest cutX1_isShortest K 400 0 [some (.inr 7), some (.inl v1), none, none, none] [] M = (t72 [.inr 1, .inl v1] M (fun r1 M1 => t75 [.inr 1, .inl v1, .inl (0 : Int)] M1 (fun r2 M2 => t78 [.inr 4, .inl r2] M2 (fun r3 M3 => t75 [.inr 1, .inl v1, .inl (r1 - (1 : Int))] M3 (fun r4 M4 => t78 [.inr 4, .inl r4] M4 (fun r5 M5 => t83 [.inr 7, .inl r3, .inl r5] M5 (fun r6 M6 => rg r6 ∧ rg (r1 - (1 : Int)) ∧ (r6 < (r1 - (1 : Int)) → ((0 : Int) = 0 ∨ (0 : Int) = 1) ∧ Rt (0 : Int) M6) ∧ ((r1 - (1 : Int)) ≤ r6 → ((1 : Int) = 0 ∨ (1 : Int) = 1) ∧ Rt (1 : Int) M6)))))))) := rfl
def calX1_draw (t72 t75 t86 t78 t58 t89 : xT) : xCal := [(72, false, 2, false, t72), (75, false, 3, false, t75), (86, false, 2, false, t86), (78, false, 2, false, t78), (58, true, 2, false, t58), (89, false, 3, true, t89)]
def cutX1_draw : Nat → Bool := fun pc => Nat.beq pc 11
set_option maxRecDepth 100000 in
set_option maxHeartbeats 4000000 in
theorem vcX1_draw_0 (Rt : xR) (K : xG) (t72 t75 t86 t78 t58 t89 : xT) (M : xM) (v1 v2 : Int) : xw LX fldX1 (calX1_draw t72 t75 t86 t78 t58 t89) [] 2 Rt iX1_draw cutX1_draw K 400 0 [some (.inr 7), some (.inl v1), some (.inl v2), none, none, none, none, none, none] [] M = (K 11 [some (.inr 7), some (.inl v1), some (.inl v2), some (.inl v2), some (.inl (-1 : Int)), some (.inl (0 : Int)), some (.inl (0 : Int)), none, none] [] M) := rfl
set_option maxRecDepth 100000 in
set_option maxHeartbeats 4000000 in
theorem vcX1_draw_11 (Rt : xR) (K : xG) (t72 t75 t86 t78 t58 t89 : xT) (M : xM) (v1 v2 v3 v4 v5 v6 : Int) (o7 o8 : Option xV) : xw LX fldX1 (calX1_draw t72 t75 t86 t78 t58 t89) [] 2 Rt iX1_draw cutX1_draw K 400 11 [some (.inr 7), some (.inl v1), some (.inl v2), some (.inl v3), some (.inl v4), some (.inl v5), some (.inl v6), o7, o8] [] M = (t72 [.inr 1, .inl v1] M (fun r1 M1 => rg v6 ∧ rg r1 ∧ (r1 ≤ v6 → ((1 : Int) = 0 ∨ (1 : Int) = 1) ∧ Rt (1 : Int) M1) ∧ (v6 < r1 → t75 [.inr 1, .inl v1, .inl v6] M1 (fun r2 M2 => rg r2 ∧ rg (-1 : Int) ∧ (r2 ≠ (-1 : Int) → t78 [.inr 4, .inl r2] M2 (fun r3 M3 => rg r2 ∧ rg (-1 : Int) ∧ (r2 ≠ (-1 : Int) → t58 [.inl v5, .inl r3] M3 (fun r4 M4 => rg r4 ∧ (r4 = 0 → t89 [.inr 7, .inl v4, .inl r3] M4 (fun r5 M5 => K 11 [some (.inr 7), some (.inl v1), some (.inl v2), some (.inl (v3 + (0 : Int))), some (.inl r3), some (.inl (xi v5 ||| xi (xi (1 : Int) <<< (xi r3 &&& 31)).toInt).toInt), some (.inl (v6 + (1 : Int))), some (.inl r2), some (.inl r3)] [] M5)) ∧ (r4 ≠ 0 → ((0 : Int) = 0 ∨ (0 : Int) = 1) ∧ Rt (0 : Int) M4))) ∧ (r2 = (-1 : Int) → t58 [.inl v5, .inl r3] M3 (fun r6 M6 => rg r6 ∧ (r6 = 0 → t89 [.inr 7, .inl v4, .inl r3] M6 (fun r7 M7 => K 11 [some (.inr 7), some (.inl v1), some (.inl v2), some (.inl (v3 + (1 : Int))), some (.inl r3), some (.inl (xi v5 ||| xi (xi (1 : Int) <<< (xi r3 &&& 31)).toInt).toInt), some (.inl (v6 + (1 : Int))), some (.inl r2), some (.inl r3)] [] M7)) ∧ (r6 ≠ 0 → ((0 : Int) = 0 ∨ (0 : Int) = 1) ∧ Rt (0 : Int) M6))))) ∧ (r2 = (-1 : Int) → t86 [.inr 7, .inl v3] M2 (fun r8 M8 => rg r2 ∧ rg (-1 : Int) ∧ (r2 ≠ (-1 : Int) → t58 [.inl v5, .inl r8] M8 (fun r9 M9 => rg r9 ∧ (r9 = 0 → t89 [.inr 7, .inl v4, .inl r8] M9 (fun r10 M10 => K 11 [some (.inr 7), some (.inl v1), some (.inl v2), some (.inl (v3 + (0 : Int))), some (.inl r8), some (.inl (xi v5 ||| xi (xi (1 : Int) <<< (xi r8 &&& 31)).toInt).toInt), some (.inl (v6 + (1 : Int))), some (.inl r2), some (.inl r8)] [] M10)) ∧ (r9 ≠ 0 → ((0 : Int) = 0 ∨ (0 : Int) = 1) ∧ Rt (0 : Int) M9))) ∧ (r2 = (-1 : Int) → t58 [.inl v5, .inl r8] M8 (fun r11 M11 => rg r11 ∧ (r11 = 0 → t89 [.inr 7, .inl v4, .inl r8] M11 (fun r12 M12 => K 11 [some (.inr 7), some (.inl v1), some (.inl v2), some (.inl (v3 + (1 : Int))), some (.inl r8), some (.inl (xi v5 ||| xi (xi (1 : Int) <<< (xi r8 &&& 31)).toInt).toInt), some (.inl (v6 + (1 : Int))), some (.inl r2), some (.inl r8)] [] M12)) ∧ (r11 ≠ 0 → ((0 : Int) = 0 ∨ (0 : Int) = 1) ∧ Rt (0 : Int) M11))))))))) := rfl
def calX1_silentBox : xCal := []
def cutX1_silentBox : Nat → Bool := fun pc => false
set_option maxRecDepth 100000 in
set_option maxHeartbeats 4000000 in
theorem vcX1_silentBox_0 (Rt : xR) (K : xG) (M : xM) (v1 : Int) : xw LX fldX1 calX1_silentBox [] 1 Rt iX1_silentBox cutX1_silentBox K 400 0 [some (.inr 7), some (.inl v1)] [] M = (rg v1 ∧ (v1 < 0 → Rt (-1 : Int) M) ∧ (0 ≤ v1 → rg v1 ∧ rg (4 : Int) ∧ ((4 : Int) ≤ v1 → Rt (-1 : Int) M) ∧ (v1 < (4 : Int) → (0 ≤ v1 ∧ v1 < 4) ∧ Rt (M 8 v1) M))) := rfl
def calX1_join (t92 : xT) : xCal := [(92, true, 1, false, t92)]
def cutX1_join : Nat → Bool := fun pc => false
set_option maxRecDepth 100000 in
set_option maxHeartbeats 4000000 in
theorem vcX1_join_0 (Rt : xR) (K : xG) (t92 : xT) (M : xM) (v1 v2 : Int) : xw LX fldX1 (calX1_join t92) [] 0 Rt iX1_join cutX1_join K 400 0 [some (.inr 7), some (.inl v1), some (.inl v2)] [] M = (t92 [.inl v1] M (fun r1 M1 => rg r1 ∧ (r1 = 0 → Rt 0 M1) ∧ (r1 ≠ 0 → t92 [.inl v2] M1 (fun r2 M2 => rg r2 ∧ (r2 = 0 → Rt 0 M2) ∧ (r2 ≠ 0 → (0 ≤ v1 ∧ v1 < 10) ∧ (0 ≤ v1 ∧ v1 < 10) ∧ (0 ≤ v2 ∧ v2 < 10) ∧ (0 ≤ v2 ∧ v2 < 10) ∧ Rt 0 (xup (xup M2 9 v1 (xi (M2 9 v1) ||| xi (xi (1 : Int) <<< (xi v2 &&& 31)).toInt).toInt) 9 v2 (xi ((xup M2 9 v1 (xi (M2 9 v1) ||| xi (xi (1 : Int) <<< (xi v2 &&& 31)).toInt).toInt) 9 v2) ||| xi (xi (1 : Int) <<< (xi v1 &&& 31)).toInt).toInt)))))) := rfl
def calX1_joinedWith (t92 : xT) : xCal := [(92, true, 1, false, t92)]
def cutX1_joinedWith : Nat → Bool := fun pc => false
set_option maxRecDepth 100000 in
set_option maxHeartbeats 4000000 in
theorem vcX1_joinedWith_0 (Rt : xR) (K : xG) (t92 : xT) (M : xM) (v1 : Int) : xw LX fldX1 (calX1_joinedWith t92) [] 1 Rt iX1_joinedWith cutX1_joinedWith K 400 0 [some (.inr 7), some (.inl v1)] [] M = (t92 [.inl v1] M (fun r1 M1 => rg r1 ∧ (r1 = 0 → Rt (0 : Int) M1) ∧ (r1 ≠ 0 → (0 ≤ v1 ∧ v1 < 10) ∧ Rt (M1 9 v1) M1))) := rfl
def calX1_lines (t95 : xT) : xCal := [(95, true, 1, false, t95)]
def cutX1_lines : Nat → Bool := fun pc => Nat.beq pc 4
set_option maxRecDepth 100000 in
set_option maxHeartbeats 4000000 in
theorem vcX1_lines_0 (Rt : xR) (K : xG) (t95 : xT) (M : xM) : xw LX fldX1 (calX1_lines t95) [] 1 Rt iX1_lines cutX1_lines K 400 0 [some (.inr 7), none, none] [] M = (K 4 [some (.inr 7), some (.inl (0 : Int)), some (.inl (0 : Int))] [] M) := rfl
set_option maxRecDepth 100000 in
set_option maxHeartbeats 4000000 in
theorem vcX1_lines_4 (Rt : xR) (K : xG) (t95 : xT) (M : xM) (v1 v2 : Int) : xw LX fldX1 (calX1_lines t95) [] 1 Rt iX1_lines cutX1_lines K 400 4 [some (.inr 7), some (.inl v1), some (.inl v2)] [] M = (rg v2 ∧ rg (10 : Int) ∧ ((10 : Int) ≤ v2 → (0 ≤ v1 ∧ v1 < 2147483648 ∧ 0 < (2 : Int) ∧ (2 : Int) < 2147483648) ∧ Rt (v1 / (2 : Int)) M) ∧ (v2 < (10 : Int) → (0 ≤ v2 ∧ v2 < 10) ∧ t95 [.inl (M 9 v2)] M (fun r1 M1 => K 4 [some (.inr 7), some (.inl (v1 + r1)), some (.inl (v2 + (1 : Int)))] [] M1))) := rfl
def calX1_way (t58 : xT) : xCal := [(58, true, 2, false, t58)]
def cutX1_way : Nat → Bool := fun pc => Nat.beq pc 7 || Nat.beq pc 31
set_option maxRecDepth 100000 in
set_option maxHeartbeats 4000000 in
theorem vcX1_way_0 (Rt : xR) (K : xG) (t58 : xT) (M : xM) (v1 v2 : Int) : xw LX fldX1 (calX1_way t58) [] 1 Rt iX1_way cutX1_way K 400 0 [some (.inr 7), some (.inl v1), some (.inl v2), none, none, none, none] [] M = (K 7 [some (.inr 7), some (.inl v1), some (.inl v2), some (.inl (xi (1 : Int) <<< (xi v1 &&& 31)).toInt), some (.inl (0 : Int)), none, none] [] M) := rfl
set_option maxRecDepth 100000 in
set_option maxHeartbeats 4000000 in
theorem vcX1_way_7 (Rt : xR) (K : xG) (t58 : xT) (M : xM) (v1 v2 v3 v4 : Int) (o5 o6 : Option xV) : xw LX fldX1 (calX1_way t58) [] 1 Rt iX1_way cutX1_way K 400 7 [some (.inr 7), some (.inl v1), some (.inl v2), some (.inl v3), some (.inl v4), o5, o6] [] M = (rg v4 ∧ rg (10 : Int) ∧ ((10 : Int) ≤ v4 → Rt (-1 : Int) M) ∧ (v4 < (10 : Int) → t58 [.inl v3, .inl v2] M (fun r1 M1 => rg r1 ∧ (r1 = 0 → K 31 [some (.inr 7), some (.inl v1), some (.inl v2), some (.inl v3), some (.inl v4), some (.inl v3), some (.inl (0 : Int))] [] M1) ∧ (r1 ≠ 0 → Rt v4 M1)))) := rfl
set_option maxRecDepth 100000 in
set_option maxHeartbeats 4000000 in
theorem vcX1_way_31 (Rt : xR) (K : xG) (t58 : xT) (M : xM) (v1 v2 v3 v4 v5 v6 : Int) : xw LX fldX1 (calX1_way t58) [] 1 Rt iX1_way cutX1_way K 400 31 [some (.inr 7), some (.inl v1), some (.inl v2), some (.inl v3), some (.inl v4), some (.inl v5), some (.inl v6)] [] M = (rg v6 ∧ rg (10 : Int) ∧ ((10 : Int) ≤ v6 → rg v5 ∧ rg v3 ∧ (v5 ≠ v3 → K 7 [some (.inr 7), some (.inl v1), some (.inl v2), some (.inl v5), some (.inl (v4 + (1 : Int))), some (.inl v5), some (.inl v6)] [] M) ∧ (v5 = v3 → Rt (-1 : Int) M)) ∧ (v6 < (10 : Int) → t58 [.inl v3, .inl v6] M (fun r1 M1 => rg r1 ∧ (r1 = 0 → K 31 [some (.inr 7), some (.inl v1), some (.inl v2), some (.inl v3), some (.inl v4), some (.inl (xi v5 ||| xi (0 : Int)).toInt), some (.inl (v6 + (1 : Int)))] [] M1) ∧ (r1 ≠ 0 → (0 ≤ v6 ∧ v6 < 10) ∧ K 31 [some (.inr 7), some (.inl v1), some (.inl v2), some (.inl v3), some (.inl v4), some (.inl (xi v5 ||| xi (M1 9 v6)).toInt), some (.inl (v6 + (1 : Int)))] [] M1)))) := rfl
def calX2_traces : xCal := []
def cutX2_traces : Nat → Bool := fun pc => false
set_option maxRecDepth 100000 in
set_option maxHeartbeats 4000000 in
theorem vcX2_traces_0 (Rt : xR) (K : xG) (M : xM) : xw LX fldX2 calX2_traces [] 1 Rt iX2_traces cutX2_traces K 400 0 [some (.inr 1)] [] M = (Rt (M 1 2) M) := rfl
def calX2_all : xCal := []
def cutX2_all : Nat → Bool := fun pc => false
set_option maxRecDepth 100000 in
set_option maxHeartbeats 4000000 in
theorem vcX2_all_0 (Rt : xR) (K : xG) (M : xM) : xw LX fldX2 calX2_all [] 1 Rt iX2_all cutX2_all K 400 0 [some (.inr 1)] [] M = (Rt ((xi (1 : Int) <<< (xi (M 1 2) &&& 31)).toInt - (1 : Int)) M) := rfl
def calX2_length : xCal := []
def cutX2_length : Nat → Bool := fun pc => false
set_option maxRecDepth 100000 in
set_option maxHeartbeats 4000000 in
theorem vcX2_length_0 (Rt : xR) (K : xG) (M : xM) (v1 : Int) : xw LX fldX2 calX2_length [] 1 Rt iX2_length cutX2_length K 400 0 [some (.inr 1), some (.inl v1)] [] M = (rg v1 ∧ (v1 < 0 → Rt (0 : Int) M) ∧ (0 ≤ v1 → rg v1 ∧ rg (7 : Int) ∧ ((7 : Int) ≤ v1 → Rt (0 : Int) M) ∧ (v1 < (7 : Int) → (0 ≤ v1 ∧ v1 < 7) ∧ Rt (M 3 v1) M))) := rfl
def calX2_hopAt : xCal := []
def cutX2_hopAt : Nat → Bool := fun pc => false
set_option maxRecDepth 100000 in
set_option maxHeartbeats 4000000 in
theorem vcX2_hopAt_0 (Rt : xR) (K : xG) (M : xM) (v1 v2 : Int) : xw LX fldX2 calX2_hopAt [] 1 Rt iX2_hopAt cutX2_hopAt K 400 0 [some (.inr 1), some (.inl v1), some (.inl v2), none] [] M = (rg v2 ∧ (v2 < 0 → Rt (-1 : Int) M) ∧ (0 ≤ v2 → rg v2 ∧ rg (6 : Int) ∧ ((6 : Int) ≤ v2 → Rt (-1 : Int) M) ∧ (v2 < (6 : Int) → rg ((v1 * (6 : Int)) + v2) ∧ (((v1 * (6 : Int)) + v2) < 0 → Rt (-1 : Int) M) ∧ (0 ≤ ((v1 * (6 : Int)) + v2) → rg ((v1 * (6 : Int)) + v2) ∧ rg (42 : Int) ∧ ((42 : Int) ≤ ((v1 * (6 : Int)) + v2) → Rt (-1 : Int) M) ∧ (((v1 * (6 : Int)) + v2) < (42 : Int) → (0 ≤ ((v1 * (6 : Int)) + v2) ∧ ((v1 * (6 : Int)) + v2) < 42) ∧ Rt (M 2 ((v1 * (6 : Int)) + v2)) M))))) := rfl
def calX2_has (t22 t26 : xT) : xCal := [(22, false, 2, false, t22), (26, false, 3, false, t26)]
def cutX2_has : Nat → Bool := fun pc => Nat.beq pc 2
set_option maxRecDepth 100000 in
set_option maxHeartbeats 4000000 in
theorem vcX2_has_0 (Rt : xR) (K : xG) (t22 t26 : xT) (M : xM) (v1 v2 : Int) : xw LX fldX2 (calX2_has t22 t26) [] 2 Rt iX2_has cutX2_has K 400 0 [some (.inr 1), some (.inl v1), some (.inl v2), none] [] M = (K 2 [some (.inr 1), some (.inl v1), some (.inl v2), some (.inl (0 : Int))] [] M) := rfl
set_option maxRecDepth 100000 in
set_option maxHeartbeats 4000000 in
theorem vcX2_has_2 (Rt : xR) (K : xG) (t22 t26 : xT) (M : xM) (v1 v2 v3 : Int) : xw LX fldX2 (calX2_has t22 t26) [] 2 Rt iX2_has cutX2_has K 400 2 [some (.inr 1), some (.inl v1), some (.inl v2), some (.inl v3)] [] M = (t22 [.inr 1, .inl v1] M (fun r1 M1 => rg v3 ∧ rg r1 ∧ (r1 ≤ v3 → ((0 : Int) = 0 ∨ (0 : Int) = 1) ∧ Rt (0 : Int) M1) ∧ (v3 < r1 → t26 [.inr 1, .inl v1, .inl v3] M1 (fun r2 M2 => rg r2 ∧ rg v2 ∧ (r2 ≠ v2 → K 2 [some (.inr 1), some (.inl v1), some (.inl v2), some (.inl (v3 + (1 : Int)))] [] M2) ∧ (r2 = v2 → ((1 : Int) = 0 ∨ (1 : Int) = 1) ∧ Rt (1 : Int) M2))))) := rfl
def calX2_silentsIn (t22 t26 : xT) : xCal := [(22, false, 2, false, t22), (26, false, 3, false, t26)]
def cutX2_silentsIn : Nat → Bool := fun pc => Nat.beq pc 4
set_option maxRecDepth 100000 in
set_option maxHeartbeats 4000000 in
theorem vcX2_silentsIn_0 (Rt : xR) (K : xG) (t22 t26 : xT) (M : xM) (v1 : Int) : xw LX fldX2 (calX2_silentsIn t22 t26) [] 1 Rt iX2_silentsIn cutX2_silentsIn K 400 0 [some (.inr 1), some (.inl v1), none, none] [] M = (K 4 [some (.inr 1), some (.inl v1), some (.inl (0 : Int)), some (.inl (0 : Int))] [] M) := rfl
set_option maxRecDepth 100000 in
set_option maxHeartbeats 4000000 in
theorem vcX2_silentsIn_4 (Rt : xR) (K : xG) (t22 t26 : xT) (M : xM) (v1 v2 v3 : Int) : xw LX fldX2 (calX2_silentsIn t22 t26) [] 1 Rt iX2_silentsIn cutX2_silentsIn K 400 4 [some (.inr 1), some (.inl v1), some (.inl v2), some (.inl v3)] [] M = (t22 [.inr 1, .inl v1] M (fun r1 M1 => rg v3 ∧ rg r1 ∧ (r1 ≤ v3 → Rt v2 M1) ∧ (v3 < r1 → t26 [.inr 1, .inl v1, .inl v3] M1 (fun r2 M2 => rg r2 ∧ rg (-1 : Int) ∧ (r2 ≠ (-1 : Int) → K 4 [some (.inr 1), some (.inl v1), some (.inl v2), some (.inl (v3 + (1 : Int)))] [] M2) ∧ (r2 = (-1 : Int) → K 4 [some (.inr 1), some (.inl v1), some (.inl (v2 + (1 : Int))), some (.inl (v3 + (1 : Int)))] [] M2))))) := rfl
def calX2_silents (t30 : xT) : xCal := [(30, false, 2, false, t30)]
def cutX2_silents : Nat → Bool := fun pc => Nat.beq pc 4
set_option maxRecDepth 100000 in
set_option maxHeartbeats 4000000 in
theorem vcX2_silents_0 (Rt : xR) (K : xG) (t30 : xT) (M : xM) : xw LX fldX2 (calX2_silents t30) [] 1 Rt iX2_silents cutX2_silents K 400 0 [some (.inr 1), none, none] [] M = (K 4 [some (.inr 1), some (.inl (0 : Int)), some (.inl (0 : Int))] [] M) := rfl
set_option maxRecDepth 100000 in
set_option maxHeartbeats 4000000 in
theorem vcX2_silents_4 (Rt : xR) (K : xG) (t30 : xT) (M : xM) (v1 v2 : Int) : xw LX fldX2 (calX2_silents t30) [] 1 Rt iX2_silents cutX2_silents K 400 4 [some (.inr 1), some (.inl v1), some (.inl v2)] [] M = (rg v2 ∧ rg (M 1 2) ∧ ((M 1 2) ≤ v2 → Rt v1 M) ∧ (v2 < (M 1 2) → t30 [.inr 1, .inl v2] M (fun r1 M1 => K 4 [some (.inr 1), some (.inl (v1 + r1)), some (.inl (v2 + (1 : Int)))] [] M1))) := rfl
def calX2_names (t22 t26 : xT) : xCal := [(22, false, 2, false, t22), (26, false, 3, false, t26)]
def cutX2_names : Nat → Bool := fun pc => Nat.beq pc 4 || Nat.beq pc 14
set_option maxRecDepth 100000 in
set_option maxHeartbeats 4000000 in
theorem vcX2_names_0 (Rt : xR) (K : xG) (t22 t26 : xT) (M : xM) : xw LX fldX2 (calX2_names t22 t26) [] 1 Rt iX2_names cutX2_names K 400 0 [some (.inr 1), none, none, none, none] [] M = (K 4 [some (.inr 1), some (.inl (0 : Int)), some (.inl (0 : Int)), none, none] [] M) := rfl
set_option maxRecDepth 100000 in
set_option maxHeartbeats 4000000 in
theorem vcX2_names_4 (Rt : xR) (K : xG) (t22 t26 : xT) (M : xM) (v1 v2 : Int) (o3 o4 : Option xV) : xw LX fldX2 (calX2_names t22 t26) [] 1 Rt iX2_names cutX2_names K 400 4 [some (.inr 1), some (.inl v1), some (.inl v2), o3, o4] [] M = (rg v2 ∧ rg (M 1 2) ∧ ((M 1 2) ≤ v2 → Rt v1 M) ∧ (v2 < (M 1 2) → K 14 [some (.inr 1), some (.inl v1), some (.inl v2), some (.inl (0 : Int)), o4] [] M)) := rfl
set_option maxRecDepth 100000 in
set_option maxHeartbeats 4000000 in
theorem vcX2_names_14 (Rt : xR) (K : xG) (t22 t26 : xT) (M : xM) (v1 v2 v3 : Int) (o4 : Option xV) : xw LX fldX2 (calX2_names t22 t26) [] 1 Rt iX2_names cutX2_names K 400 14 [some (.inr 1), some (.inl v1), some (.inl v2), some (.inl v3), o4] [] M = (t22 [.inr 1, .inl v2] M (fun r1 M1 => rg v3 ∧ rg r1 ∧ (r1 ≤ v3 → K 4 [some (.inr 1), some (.inl v1), some (.inl (v2 + (1 : Int))), some (.inl v3), o4] [] M1) ∧ (v3 < r1 → t26 [.inr 1, .inl v2, .inl v3] M1 (fun r2 M2 => rg r2 ∧ rg (-1 : Int) ∧ (r2 ≠ (-1 : Int) → K 14 [some (.inr 1), some (.inl (xi v1 ||| xi (xi (1 : Int) <<< (xi r2 &&& 31)).toInt).toInt), some (.inl v2), some (.inl (v3 + (1 : Int))), some (.inl r2)] [] M2) ∧ (r2 = (-1 : Int) → K 14 [some (.inr 1), some (.inl (xi v1 ||| xi (0 : Int)).toInt), some (.inl v2), some (.inl (v3 + (1 : Int))), some (.inl r2)] [] M2))))) := rfl
def calX2_append (t22 : xT) : xCal := [(22, false, 2, false, t22)]
def cutX2_append : Nat → Bool := fun pc => false
set_option maxRecDepth 100000 in
set_option maxHeartbeats 4000000 in
theorem vcX2_append_0 (Rt : xR) (K : xG) (t22 : xT) (M : xM) (v1 v2 : Int) : xw LX fldX2 (calX2_append t22) [] 0 Rt iX2_append cutX2_append K 400 0 [some (.inr 1), some (.inl v1), some (.inl v2), none, none] [] M = (t22 [.inr 1, .inl v1] M (fun r1 M1 => rg v1 ∧ (v1 < 0 → Rt 0 M1) ∧ (0 ≤ v1 → rg v1 ∧ rg (7 : Int) ∧ ((7 : Int) ≤ v1 → Rt 0 M1) ∧ (v1 < (7 : Int) → rg r1 ∧ rg (6 : Int) ∧ ((6 : Int) ≤ r1 → Rt 0 M1) ∧ (r1 < (6 : Int) → rg ((v1 * (6 : Int)) + r1) ∧ rg (42 : Int) ∧ ((42 : Int) ≤ ((v1 * (6 : Int)) + r1) → Rt 0 M1) ∧ (((v1 * (6 : Int)) + r1) < (42 : Int) → (0 ≤ ((v1 * (6 : Int)) + r1) ∧ ((v1 * (6 : Int)) + r1) < 42) ∧ (0 ≤ v1 ∧ v1 < 7) ∧ Rt 0 (xup (xup M1 2 ((v1 * (6 : Int)) + r1) v2) 3 v1 (r1 + (1 : Int))))))))) := rfl
def calX2_empty : xCal := []
def cutX2_empty : Nat → Bool := fun pc => false
set_option maxRecDepth 100000 in
set_option maxHeartbeats 4000000 in
theorem vcX2_empty_0 (Rt : xR) (K : xG) (M : xM) (v1 : Int) : xw LX fldX2 calX2_empty [] 0 Rt iX2_empty cutX2_empty K 400 0 [some (.inr 1), some (.inl v1)] [] M = (rg v1 ∧ (v1 < 0 → Rt 0 M) ∧ (0 ≤ v1 → rg v1 ∧ rg (7 : Int) ∧ ((7 : Int) ≤ v1 → Rt 0 M) ∧ (v1 < (7 : Int) → (0 ≤ v1 ∧ v1 < 7) ∧ Rt 0 (xup M 3 v1 (0 : Int))))) := rfl
def calX2_keepHand (t33 t37 : xT) : xCal := [(33, false, 3, true, t33), (37, false, 2, true, t37)]
def cutX2_keepHand : Nat → Bool := fun pc => false
set_option maxRecDepth 100000 in
set_option maxHeartbeats 4000000 in
theorem vcX2_keepHand_0 (Rt : xR) (K : xG) (t33 t37 : xT) (M : xM) : xw LX fldX2 (calX2_keepHand t33 t37) [] 0 Rt iX2_keepHand cutX2_keepHand K 400 0 [some (.inr 1)] [] M = (rg (M 1 2) ∧ rg (6 : Int) ∧ ((6 : Int) ≤ (M 1 2) → Rt 0 M) ∧ ((M 1 2) < (6 : Int) → t33 [.inr 1, .inl (6 : Int), .inl (M 1 2)] M (fun r1 M1 => t37 [.inr 1, .inl (6 : Int)] M1 (fun r2 M2 => Rt 0 (xup M2 1 2 ((M2 1 2) + (1 : Int))))))) := rfl
def calX2_remove (t33 : xT) : xCal := [(33, false, 3, true, t33)]
def cutX2_remove : Nat → Bool := fun pc => Nat.beq pc 14
set_option maxRecDepth 100000 in
set_option maxHeartbeats 4000000 in
theorem vcX2_remove_0 (Rt : xR) (K : xG) (t33 : xT) (M : xM) (v1 : Int) : xw LX fldX2 (calX2_remove t33) [] 0 Rt iX2_remove cutX2_remove K 400 0 [some (.inr 1), some (.inl v1), none] [] M = (rg v1 ∧ (v1 < 0 → Rt 0 M) ∧ (0 ≤ v1 → rg v1 ∧ rg (M 1 2) ∧ ((M 1 2) ≤ v1 → Rt 0 M) ∧ (v1 < (M 1 2) → K 14 [some (.inr 1), some (.inl v1), some (.inl v1)] [] M))) := rfl
set_option maxRecDepth 100000 in
set_option maxHeartbeats 4000000 in
theorem vcX2_remove_14 (Rt : xR) (K : xG) (t33 : xT) (M : xM) (v1 v2 : Int) : xw LX fldX2 (calX2_remove t33) [] 0 Rt iX2_remove cutX2_remove K 400 14 [some (.inr 1), some (.inl v1), some (.inl v2)] [] M = (rg (v2 + (1 : Int)) ∧ rg (M 1 2) ∧ ((M 1 2) ≤ (v2 + (1 : Int)) → Rt 0 (xup M 1 2 ((M 1 2) - (1 : Int)))) ∧ ((v2 + (1 : Int)) < (M 1 2) → t33 [.inr 1, .inl (v2 + (1 : Int)), .inl v2] M (fun r1 M1 => K 14 [some (.inr 1), some (.inl v1), some (.inl (v2 + (1 : Int)))] [] M1))) := rfl
def calX2_copy (t22 t37 t26 t41 : xT) : xCal := [(22, false, 2, false, t22), (37, false, 2, true, t37), (26, false, 3, false, t26), (41, false, 3, true, t41)]
def cutX2_copy : Nat → Bool := fun pc => Nat.beq pc 14
set_option maxRecDepth 100000 in
set_option maxHeartbeats 4000000 in
theorem vcX2_copy_0 (Rt : xR) (K : xG) (t22 t37 t26 t41 : xT) (M : xM) (v1 v2 : Int) : xw LX fldX2 (calX2_copy t22 t37 t26 t41) [] 0 Rt iX2_copy cutX2_copy K 400 0 [some (.inr 1), some (.inl v1), some (.inl v2), none, none] [] M = (t22 [.inr 1, .inl v1] M (fun r1 M1 => t37 [.inr 1, .inl v2] M1 (fun r2 M2 => K 14 [some (.inr 1), some (.inl v1), some (.inl v2), some (.inl r1), some (.inl (0 : Int))] [] M2))) := rfl
set_option maxRecDepth 100000 in
set_option maxHeartbeats 4000000 in
theorem vcX2_copy_14 (Rt : xR) (K : xG) (t22 t37 t26 t41 : xT) (M : xM) (v1 v2 v3 v4 : Int) : xw LX fldX2 (calX2_copy t22 t37 t26 t41) [] 0 Rt iX2_copy cutX2_copy K 400 14 [some (.inr 1), some (.inl v1), some (.inl v2), some (.inl v3), some (.inl v4)] [] M = (rg v4 ∧ rg v3 ∧ (v3 ≤ v4 → Rt 0 M) ∧ (v4 < v3 → t26 [.inr 1, .inl v1, .inl v4] M (fun r1 M1 => t41 [.inr 1, .inl v2, .inl r1] M1 (fun r2 M2 => K 14 [some (.inr 1), some (.inl v1), some (.inl v2), some (.inl v3), some (.inl (v4 + (1 : Int)))] [] M2)))) := rfl
def calX3_forgetMade : xCal := []
def cutX3_forgetMade : Nat → Bool := fun pc => false
set_option maxRecDepth 100000 in
set_option maxHeartbeats 4000000 in
theorem vcX3_forgetMade_0 (Rt : xR) (K : xG) (M : xM) : xw LX fldX3 calX3_forgetMade [] 0 Rt iX3_forgetMade cutX3_forgetMade K 400 0 [some (.inr 12)] [] M = (((0 : Int) = 0 ∨ (0 : Int) = 1) ∧ Rt 0 (xup M 12 7 (0 : Int))) := rfl
def calX3_bestPair : xCal := []
def cutX3_bestPair : Nat → Bool := fun pc => false
set_option maxRecDepth 100000 in
set_option maxHeartbeats 4000000 in
theorem vcX3_bestPair_0 (Rt : xR) (K : xG) (M : xM) : xw LX fldX3 calX3_bestPair [] 1 Rt iX3_bestPair cutX3_bestPair K 400 0 [some (.inr 12)] [] M = (Rt (M 12 8) M) := rfl
def calX3_bestHeap : xCal := []
def cutX3_bestHeap : Nat → Bool := fun pc => false
set_option maxRecDepth 100000 in
set_option maxHeartbeats 4000000 in
theorem vcX3_bestHeap_0 (Rt : xR) (K : xG) (M : xM) : xw LX fldX3 calX3_bestHeap [] 1 Rt iX3_bestHeap cutX3_bestHeap K 400 0 [some (.inr 12)] [] M = (Rt (M 12 9) M) := rfl
def calX3_wayIn (t48 t54 : xT) : xCal := [(48, false, 2, true, t48), (54, false, 3, false, t54)]
def cutX3_wayIn : Nat → Bool := fun pc => false
set_option maxRecDepth 100000 in
set_option maxHeartbeats 4000000 in
theorem vcX3_wayIn_0 (Rt : xR) (K : xG) (t48 t54 : xT) (M : xM) (v1 v2 v3 : Int) : xw LX fldX3 (calX3_wayIn t48 t54) [] 1 Rt iX3_wayIn cutX3_wayIn K 400 0 [some (.inr 12), some (.inl v1), some (.inl v2), some (.inl v3)] [] M = (t48 [.inr 7, .inl v1] M (fun r1 M1 => t54 [.inr 7, .inl v2, .inl v3] M1 (fun r2 M2 => Rt r2 M2))) := rfl
def calX3_lineBetween (t58 t62 : xT) : xCal := [(58, true, 1, false, t58), (62, true, 2, false, t62)]
def cutX3_lineBetween : Nat → Bool := fun pc => false
set_option maxRecDepth 100000 in
set_option maxHeartbeats 4000000 in
theorem vcX3_lineBetween_0 (Rt : xR) (K : xG) (t58 t62 : xT) (M : xM) (v1 v2 : Int) : xw LX fldX3 (calX3_lineBetween t58 t62) [] 1 Rt iX3_lineBetween cutX3_lineBetween K 400 0 [some (.inr 12), some (.inl v1), some (.inl v2)] [] M = (t58 [.inl v1] M (fun r1 M1 => rg r1 ∧ (r1 = 0 → Rt (0 : Int) M1) ∧ (r1 ≠ 0 → (0 ≤ v1 ∧ v1 < 10) ∧ t62 [.inl (M1 13 v1), .inl v2] M1 (fun r2 M2 => rg r2 ∧ (r2 ≠ 0 → (0 ≤ v1 ∧ v1 < 10) ∧ t62 [.inl (M2 14 v1), .inl v2] M2 (fun r3 M3 => rg r3 ∧ (r3 = 0 → Rt (1 : Int) M3) ∧ (r3 ≠ 0 → Rt (2 : Int) M3))) ∧ (r2 = 0 → Rt (0 : Int) M2))))) := rfl
def calX3_make (t66 t72 t78 t83 t48 t87 t90 t93 : xT) : xCal := [(66, true, 2, true, t66), (72, false, 1, false, t72), (78, false, 1, false, t78), (83, false, 2, false, t83), (48, false, 2, true, t48), (87, false, 1, true, t87), (90, false, 2, true, t90), (93, false, 2, true, t93)]
def cutX3_make : Nat → Bool := fun pc => Nat.beq pc 57
set_option maxRecDepth 100000 in
set_option maxHeartbeats 4000000 in
theorem vcX3_make_0 (Rt : xR) (K : xG) (t66 t72 t78 t83 t48 t87 t90 t93 : xT) (M : xM) : xw LX fldX3 (calX3_make t66 t72 t78 t83 t48 t87 t90 t93) [] 0 Rt iX3_make cutX3_make K 400 0 [some (.inr 12), none, none, none] [] M = (rg (M 12 7) ∧ ((M 12 7) = 0 → ((1 : Int) = 0 ∨ (1 : Int) = 1) ∧ t66 [.inr 13, .inl (0 : Int)] (xup M 12 7 (1 : Int)) (fun r1 M1 => t66 [.inr 14, .inl (1023 : Int)] M1 (fun r2 M2 => t66 [.inr 15, .inl (0 : Int)] M2 (fun r3 M3 => t72 [.inr 1] M3 (fun r4 M4 => t78 [.inr 10] M4 (fun r5 M5 => K 57 [some (.inr 12), some (.inl r4), some (.inl r5), some (.inl (0 : Int))] [] M5)))))) ∧ ((M 12 7) ≠ 0 → Rt 0 M)) := rfl
set_option maxRecDepth 100000 in
set_option maxHeartbeats 4000000 in
theorem vcX3_make_57 (Rt : xR) (K : xG) (t66 t72 t78 t83 t48 t87 t90 t93 : xT) (M : xM) (v1 v2 v3 : Int) : xw LX fldX3 (calX3_make t66 t72 t78 t83 t48 t87 t90 t93) [] 0 Rt iX3_make cutX3_make K 400 57 [some (.inr 12), some (.inl v1), some (.inl v2), some (.inl v3)] [] M = (rg v3 ∧ rg v2 ∧ (v2 ≤ v3 → t93 [.inr 12, .inl v1] M (fun r1 M1 => Rt 0 M1)) ∧ (v3 < v2 → t83 [.inr 10, .inl v3] M (fun r2 M2 => t48 [.inr 7, .inl r2] M2 (fun r3 M3 => t87 [.inr 12] M3 (fun r4 M4 => t90 [.inr 12, .inl v1] M4 (fun r5 M5 => K 57 [some (.inr 12), some (.inl v1), some (.inl v2), some (.inl (v3 + (1 : Int)))] [] M5)))))) := rfl
def calX3_addLines (t96 : xT) : xCal := [(96, false, 2, false, t96)]
def cutX3_addLines : Nat → Bool := fun pc => Nat.beq pc 2
set_option maxRecDepth 100000 in
set_option maxHeartbeats 4000000 in
theorem vcX3_addLines_0 (Rt : xR) (K : xG) (t96 : xT) (M : xM) : xw LX fldX3 (calX3_addLines t96) [] 0 Rt iX3_addLines cutX3_addLines K 400 0 [some (.inr 12), none] [] M = (K 2 [some (.inr 12), some (.inl (0 : Int))] [] M) := rfl
set_option maxRecDepth 100000 in
set_option maxHeartbeats 4000000 in
theorem vcX3_addLines_2 (Rt : xR) (K : xG) (t96 : xT) (M : xM) (v1 : Int) : xw LX fldX3 (calX3_addLines t96) [] 0 Rt iX3_addLines cutX3_addLines K 400 2 [some (.inr 12), some (.inl v1)] [] M = (rg v1 ∧ rg (10 : Int) ∧ ((10 : Int) ≤ v1 → Rt 0 M) ∧ (v1 < (10 : Int) → (0 ≤ v1 ∧ v1 < 10) ∧ t96 [.inr 7, .inl v1] M (fun r1 M1 => (0 ≤ v1 ∧ v1 < 10) ∧ (0 ≤ v1 ∧ v1 < 10) ∧ t96 [.inr 7, .inl v1] (xup M1 13 v1 (xi (M 13 v1) ||| xi r1).toInt) (fun r2 M2 => (0 ≤ v1 ∧ v1 < 10) ∧ K 2 [some (.inr 12), some (.inl (v1 + (1 : Int)))] [] (xup M2 14 v1 (xi ((xup M1 13 v1 (xi (M 13 v1) ||| xi r1).toInt) 14 v1) &&& xi r2).toInt))))) := rfl
def calX3_addWays (t62 t99 t54 t104 : xT) : xCal := [(62, true, 2, false, t62), (99, false, 2, false, t99), (54, false, 3, false, t54), (104, false, 4, true, t104)]
def cutX3_addWays : Nat → Bool := fun pc => Nat.beq pc 2 || Nat.beq pc 12
set_option maxRecDepth 100000 in
set_option maxHeartbeats 4000000 in
theorem vcX3_addWays_0 (Rt : xR) (K : xG) (t62 t99 t54 t104 : xT) (M : xM) (v1 : Int) : xw LX fldX3 (calX3_addWays t62 t99 t54 t104) [] 0 Rt iX3_addWays cutX3_addWays K 400 0 [some (.inr 12), some (.inl v1), none, none] [] M = (K 2 [some (.inr 12), some (.inl v1), some (.inl (0 : Int)), none] [] M) := rfl
set_option maxRecDepth 100000 in
set_option maxHeartbeats 4000000 in
theorem vcX3_addWays_2 (Rt : xR) (K : xG) (t62 t99 t54 t104 : xT) (M : xM) (v1 v2 : Int) (o3 : Option xV) : xw LX fldX3 (calX3_addWays t62 t99 t54 t104) [] 0 Rt iX3_addWays cutX3_addWays K 400 2 [some (.inr 12), some (.inl v1), some (.inl v2), o3] [] M = (rg v2 ∧ rg (6 : Int) ∧ ((6 : Int) ≤ v2 → Rt 0 M) ∧ (v2 < (6 : Int) → K 12 [some (.inr 12), some (.inl v1), some (.inl v2), some (.inl (v2 + (1 : Int)))] [] M)) := rfl
set_option maxRecDepth 100000 in
set_option maxHeartbeats 4000000 in
theorem vcX3_addWays_12 (Rt : xR) (K : xG) (t62 t99 t54 t104 : xT) (M : xM) (v1 v2 v3 : Int) : xw LX fldX3 (calX3_addWays t62 t99 t54 t104) [] 0 Rt iX3_addWays cutX3_addWays K 400 12 [some (.inr 12), some (.inl v1), some (.inl v2), some (.inl v3)] [] M = (rg v3 ∧ rg (6 : Int) ∧ ((6 : Int) ≤ v3 → K 2 [some (.inr 12), some (.inl v1), some (.inl (v2 + (1 : Int))), some (.inl v3)] [] M) ∧ (v3 < (6 : Int) → t62 [.inl v1, .inl v2] M (fun r1 M1 => rg r1 ∧ (r1 = 0 → K 12 [some (.inr 12), some (.inl v1), some (.inl v2), some (.inl (v3 + (1 : Int)))] [] M1) ∧ (r1 ≠ 0 → t62 [.inl v1, .inl v3] M1 (fun r2 M2 => rg r2 ∧ (r2 = 0 → K 12 [some (.inr 12), some (.inl v1), some (.inl v2), some (.inl (v3 + (1 : Int)))] [] M2) ∧ (r2 ≠ 0 → t99 [.inr 4, .inl v2] M2 (fun r3 M3 => t99 [.inr 4, .inl v3] M3 (fun r4 M4 => t54 [.inr 7, .inl r3, .inl r4] M4 (fun r5 M5 => t104 [.inr 12, .inl v2, .inl v3, .inl r5] M5 (fun r6 M6 => K 12 [some (.inr 12), some (.inl v1), some (.inl v2), some (.inl (v3 + (1 : Int)))] [] M6)))))))))) := rfl
def calX3_addToHeap : xCal := []
def cutX3_addToHeap : Nat → Bool := fun pc => false
set_option maxRecDepth 100000 in
set_option maxHeartbeats 4000000 in
theorem vcX3_addToHeap_0 (Rt : xR) (K : xG) (M : xM) (v1 v2 v3 : Int) : xw LX fldX3 calX3_addToHeap [] 0 Rt iX3_addToHeap cutX3_addToHeap K 400 0 [some (.inr 12), some (.inl v1), some (.inl v2), some (.inl v3), none] [] M = (rg (((((v1 * (6 : Int)) + v2) * (11 : Int)) + v3) + (1 : Int)) ∧ ((((((v1 * (6 : Int)) + v2) * (11 : Int)) + v3) + (1 : Int)) < 0 → Rt 0 M) ∧ (0 ≤ (((((v1 * (6 : Int)) + v2) * (11 : Int)) + v3) + (1 : Int)) → rg (((((v1 * (6 : Int)) + v2) * (11 : Int)) + v3) + (1 : Int)) ∧ rg (396 : Int) ∧ ((396 : Int) ≤ (((((v1 * (6 : Int)) + v2) * (11 : Int)) + v3) + (1 : Int)) → Rt 0 M) ∧ ((((((v1 * (6 : Int)) + v2) * (11 : Int)) + v3) + (1 : Int)) < (396 : Int) → (0 ≤ (((((v1 * (6 : Int)) + v2) * (11 : Int)) + v3) + (1 : Int)) ∧ (((((v1 * (6 : Int)) + v2) * (11 : Int)) + v3) + (1 : Int)) < 396) ∧ (0 ≤ (((((v1 * (6 : Int)) + v2) * (11 : Int)) + v3) + (1 : Int)) ∧ (((((v1 * (6 : Int)) + v2) * (11 : Int)) + v3) + (1 : Int)) < 396) ∧ Rt 0 (xup M 15 (((((v1 * (6 : Int)) + v2) * (11 : Int)) + v3) + (1 : Int)) ((M 15 (((((v1 * (6 : Int)) + v2) * (11 : Int)) + v3) + (1 : Int))) + (1 : Int)))))) := rfl
def calX3_choosePair (t62 t108 : xT) : xCal := [(62, true, 2, false, t62), (108, false, 3, true, t108)]
def cutX3_choosePair : Nat → Bool := fun pc => Nat.beq pc 14 || Nat.beq pc 24
set_option maxRecDepth 100000 in
set_option maxHeartbeats 4000000 in
theorem vcX3_choosePair_0 (Rt : xR) (K : xG) (t62 t108 : xT) (M : xM) (v1 : Int) : xw LX fldX3 (calX3_choosePair t62 t108) [] 0 Rt iX3_choosePair cutX3_choosePair K 400 0 [some (.inr 12), some (.inl v1), none, none] [] M = (K 14 [some (.inr 12), some (.inl v1), some (.inl (0 : Int)), none] [] (xup (xup M 12 8 (-6 : Int)) 12 9 (-6 : Int))) := rfl
set_option maxRecDepth 100000 in
set_option maxHeartbeats 4000000 in
theorem vcX3_choosePair_14 (Rt : xR) (K : xG) (t62 t108 : xT) (M : xM) (v1 v2 : Int) (o3 : Option xV) : xw LX fldX3 (calX3_choosePair t62 t108) [] 0 Rt iX3_choosePair cutX3_choosePair K 400 14 [some (.inr 12), some (.inl v1), some (.inl v2), o3] [] M = (rg v2 ∧ rg (6 : Int) ∧ ((6 : Int) ≤ v2 → Rt 0 M) ∧ (v2 < (6 : Int) → K 24 [some (.inr 12), some (.inl v1), some (.inl v2), some (.inl (v2 + (1 : Int)))] [] M)) := rfl
set_option maxRecDepth 100000 in
set_option maxHeartbeats 4000000 in
theorem vcX3_choosePair_24 (Rt : xR) (K : xG) (t62 t108 : xT) (M : xM) (v1 v2 v3 : Int) : xw LX fldX3 (calX3_choosePair t62 t108) [] 0 Rt iX3_choosePair cutX3_choosePair K 400 24 [some (.inr 12), some (.inl v1), some (.inl v2), some (.inl v3)] [] M = (rg v3 ∧ rg (6 : Int) ∧ ((6 : Int) ≤ v3 → K 14 [some (.inr 12), some (.inl v1), some (.inl (v2 + (1 : Int))), some (.inl v3)] [] M) ∧ (v3 < (6 : Int) → t62 [.inl v1, .inl v2] M (fun r1 M1 => rg r1 ∧ (r1 = 0 → K 24 [some (.inr 12), some (.inl v1), some (.inl v2), some (.inl (v3 + (1 : Int)))] [] M1) ∧ (r1 ≠ 0 → t62 [.inl v1, .inl v3] M1 (fun r2 M2 => rg r2 ∧ (r2 = 0 → K 24 [some (.inr 12), some (.inl v1), some (.inl v2), some (.inl (v3 + (1 : Int)))] [] M2) ∧ (r2 ≠ 0 → t108 [.inr 12, .inl v2, .inl v3] M2 (fun r3 M3 => K 24 [some (.inr 12), some (.inl v1), some (.inl v2), some (.inl (v3 + (1 : Int)))] [] M3))))))) := rfl
def calX3_choose (t112 : xT) : xCal := [(112, false, 3, false, t112)]
def cutX3_choose : Nat → Bool := fun pc => false
set_option maxRecDepth 100000 in
set_option maxHeartbeats 4000000 in
theorem vcX3_choose_0 (Rt : xR) (K : xG) (t112 : xT) (M : xM) (v1 v2 : Int) : xw LX fldX3 (calX3_choose t112) [] 0 Rt iX3_choose cutX3_choose K 400 0 [some (.inr 12), some (.inl v1), some (.inl v2), none] [] M = (t112 [.inr 12, .inl v1, .inl v2] M (fun r1 M1 => rg (M1 12 8) ∧ rg (-6 : Int) ∧ ((M1 12 8) = (-6 : Int) → Rt 0 (xup (xup M1 12 8 (((10 : Int) * v1) + v2)) 12 9 r1)) ∧ ((M1 12 8) ≠ (-6 : Int) → rg r1 ∧ rg (M1 12 9) ∧ ((M1 12 9) ≤ r1 → Rt 0 M1) ∧ (r1 < (M1 12 9) → Rt 0 (xup (xup M1 12 8 (((10 : Int) * v1) + v2)) 12 9 r1))))) := rfl
def calX3_greatestHeap (t115 : xT) : xCal := [(115, true, 2, false, t115)]
def cutX3_greatestHeap : Nat → Bool := fun pc => Nat.beq pc 17
set_option maxRecDepth 100000 in
set_option maxHeartbeats 4000000 in
theorem vcX3_greatestHeap_0 (Rt : xR) (K : xG) (t115 : xT) (M : xM) (v1 v2 : Int) : xw LX fldX3 (calX3_greatestHeap t115) [] 1 Rt iX3_greatestHeap cutX3_greatestHeap K 400 0 [some (.inr 12), some (.inl v1), some (.inl v2), none, none, none] [] M = (K 17 [some (.inr 12), some (.inl v1), some (.inl v2), some (.inl (0 : Int)), some (.inl (((v1 * (6 : Int)) + v2) * (11 : Int))), some (.inl (((v1 * (6 : Int)) + v2) * (11 : Int)))] [] M) := rfl
set_option maxRecDepth 100000 in
set_option maxHeartbeats 4000000 in
theorem vcX3_greatestHeap_17 (Rt : xR) (K : xG) (t115 : xT) (M : xM) (v1 v2 v3 v4 v5 : Int) : xw LX fldX3 (calX3_greatestHeap t115) [] 1 Rt iX3_greatestHeap cutX3_greatestHeap K 400 17 [some (.inr 12), some (.inl v1), some (.inl v2), some (.inl v3), some (.inl v4), some (.inl v5)] [] M = (rg v5 ∧ rg (v4 + (11 : Int)) ∧ ((v4 + (11 : Int)) ≤ v5 → Rt v3 M) ∧ (v5 < (v4 + (11 : Int)) → rg v5 ∧ rg (396 : Int) ∧ ((396 : Int) ≤ v5 → Rt v3 M) ∧ (v5 < (396 : Int) → (0 ≤ v5 ∧ v5 < 396) ∧ t115 [.inl v3, .inl (M 15 v5)] M (fun r1 M1 => K 17 [some (.inr 12), some (.inl v1), some (.inl v2), some (.inl r1), some (.inl v4), some (.inl (v5 + (1 : Int)))] [] M1)))) := rfl
def calX4_times : xCal := []
def cutX4_times : Nat → Bool := fun pc => false
set_option maxRecDepth 100000 in
set_option maxHeartbeats 4000000 in
theorem vcX4_times_0 (Rt : xR) (K : xG) (M : xM) : xw LX fldX4 calX4_times [] 1 Rt iX4_times cutX4_times K 400 0 [some (.inr 4)] [] M = (Rt (M 4 2) M) := rfl
def calX4_clear (t22 : xT) : xCal := [(22, true, 2, true, t22)]
def cutX4_clear : Nat → Bool := fun pc => Nat.beq pc 2
set_option maxRecDepth 100000 in
set_option maxHeartbeats 4000000 in
theorem vcX4_clear_0 (Rt : xR) (K : xG) (t22 : xT) (M : xM) : xw LX fldX4 (calX4_clear t22) [] 0 Rt iX4_clear cutX4_clear K 400 0 [some (.inr 4), none] [] M = (K 2 [some (.inr 4), some (.inl (0 : Int))] [] M) := rfl
set_option maxRecDepth 100000 in
set_option maxHeartbeats 4000000 in
theorem vcX4_clear_2 (Rt : xR) (K : xG) (t22 : xT) (M : xM) (v1 : Int) : xw LX fldX4 (calX4_clear t22) [] 0 Rt iX4_clear cutX4_clear K 400 2 [some (.inr 4), some (.inl v1)] [] M = (rg v1 ∧ rg (6 : Int) ∧ ((6 : Int) ≤ v1 → t22 [.inr 6, .inl (0 : Int)] M (fun r1 M1 => Rt 0 (xup M1 4 2 (0 : Int)))) ∧ (v1 < (6 : Int) → (0 ≤ v1 ∧ v1 < 6) ∧ K 2 [some (.inr 4), some (.inl (v1 + (1 : Int)))] [] (xup M 5 v1 v1))) := rfl
def calX4_box : xCal := []
def cutX4_box : Nat → Bool := fun pc => false
set_option maxRecDepth 100000 in
set_option maxHeartbeats 4000000 in
theorem vcX4_box_0 (Rt : xR) (K : xG) (M : xM) (v1 : Int) : xw LX fldX4 calX4_box [] 1 Rt iX4_box cutX4_box K 400 0 [some (.inr 4), some (.inl v1)] [] M = (rg v1 ∧ (v1 < 0 → Rt (-1 : Int) M) ∧ (0 ≤ v1 → rg v1 ∧ rg (6 : Int) ∧ ((6 : Int) ≤ v1 → Rt (-1 : Int) M) ∧ (v1 < (6 : Int) → (0 ≤ v1 ∧ v1 < 6) ∧ Rt (M 5 v1) M))) := rfl
def calX4_boxes (t28 t32 : xT) : xCal := [(28, true, 2, false, t28), (32, false, 2, false, t32)]
def cutX4_boxes : Nat → Bool := fun pc => Nat.beq pc 4
set_option maxRecDepth 100000 in
set_option maxHeartbeats 4000000 in
theorem vcX4_boxes_0 (Rt : xR) (K : xG) (t28 t32 : xT) (M : xM) (v1 : Int) : xw LX fldX4 (calX4_boxes t28 t32) [] 1 Rt iX4_boxes cutX4_boxes K 400 0 [some (.inr 4), some (.inl v1), none, none] [] M = (K 4 [some (.inr 4), some (.inl v1), some (.inl (0 : Int)), some (.inl (0 : Int))] [] M) := rfl
set_option maxRecDepth 100000 in
set_option maxHeartbeats 4000000 in
theorem vcX4_boxes_4 (Rt : xR) (K : xG) (t28 t32 : xT) (M : xM) (v1 v2 v3 : Int) : xw LX fldX4 (calX4_boxes t28 t32) [] 1 Rt iX4_boxes cutX4_boxes K 400 4 [some (.inr 4), some (.inl v1), some (.inl v2), some (.inl v3)] [] M = (rg v3 ∧ rg (6 : Int) ∧ ((6 : Int) ≤ v3 → Rt v2 M) ∧ (v3 < (6 : Int) → t28 [.inl v1, .inl v3] M (fun r1 M1 => rg r1 ∧ (r1 = 0 → K 4 [some (.inr 4), some (.inl v1), some (.inl (xi v2 ||| xi (0 : Int)).toInt), some (.inl (v3 + (1 : Int)))] [] M1) ∧ (r1 ≠ 0 → t32 [.inr 4, .inl v3] M1 (fun r2 M2 => K 4 [some (.inr 4), some (.inl v1), some (.inl (xi v2 ||| xi (xi (1 : Int) <<< (xi r2 &&& 31)).toInt).toInt), some (.inl (v3 + (1 : Int)))] [] M2))))) := rfl
def calX4_areOneBox (t32 : xT) : xCal := [(32, false, 2, false, t32)]
def cutX4_areOneBox : Nat → Bool := fun pc => false
set_option maxRecDepth 100000 in
set_option maxHeartbeats 4000000 in
theorem vcX4_areOneBox_0 (Rt : xR) (K : xG) (t32 : xT) (M : xM) (v1 v2 : Int) : xw LX fldX4 (calX4_areOneBox t32) [] 2 Rt iX4_areOneBox cutX4_areOneBox K 400 0 [some (.inr 4), some (.inl v1), some (.inl v2)] [] M = (t32 [.inr 4, .inl v1] M (fun r1 M1 => t32 [.inr 4, .inl v2] M1 (fun r2 M2 => rg r1 ∧ rg r2 ∧ (r1 ≠ r2 → ((0 : Int) = 0 ∨ (0 : Int) = 1) ∧ Rt (0 : Int) M2) ∧ (r1 = r2 → ((1 : Int) = 0 ∨ (1 : Int) = 1) ∧ Rt (1 : Int) M2)))) := rfl
def calX4_areToldApart (t28 : xT) : xCal := [(28, true, 2, false, t28)]
def cutX4_areToldApart : Nat → Bool := fun pc => false
set_option maxRecDepth 100000 in
set_option maxHeartbeats 4000000 in
theorem vcX4_areToldApart_0 (Rt : xR) (K : xG) (t28 : xT) (M : xM) (v1 v2 : Int) : xw LX fldX4 (calX4_areToldApart t28) [] 2 Rt iX4_areToldApart cutX4_areToldApart K 400 0 [some (.inr 4), some (.inl v1), some (.inl v2)] [] M = (rg v1 ∧ (v1 < 0 → ((0 : Int) = 0 ∨ (0 : Int) = 1) ∧ Rt (0 : Int) M) ∧ (0 ≤ v1 → rg v1 ∧ rg (6 : Int) ∧ ((6 : Int) ≤ v1 → ((0 : Int) = 0 ∨ (0 : Int) = 1) ∧ Rt (0 : Int) M) ∧ (v1 < (6 : Int) → (0 ≤ v1 ∧ v1 < 6) ∧ t28 [.inl (M 6 v1), .inl v2] M (fun r1 M1 => rg r1 ∧ (r1 = 0 → ((0 : Int) = 0 ∨ (0 : Int) = 1) ∧ Rt (0 : Int) M1) ∧ (r1 ≠ 0 → ((1 : Int) = 0 ∨ (1 : Int) = 1) ∧ Rt (1 : Int) M1))))) := rfl
def calX4_haveBoxesApart (t36 t39 : xT) : xCal := [(36, false, 3, false, t36), (39, false, 3, false, t39)]
def cutX4_haveBoxesApart : Nat → Bool := fun pc => Nat.beq pc 2 || Nat.beq pc 11
set_option maxRecDepth 100000 in
set_option maxHeartbeats 4000000 in
theorem vcX4_haveBoxesApart_0 (Rt : xR) (K : xG) (t36 t39 : xT) (M : xM) (v1 v2 : Int) : xw LX fldX4 (calX4_haveBoxesApart t36 t39) [] 2 Rt iX4_haveBoxesApart cutX4_haveBoxesApart K 400 0 [some (.inr 4), some (.inl v1), some (.inl v2), none, none] [] M = (K 2 [some (.inr 4), some (.inl v1), some (.inl v2), some (.inl (0 : Int)), none] [] M) := rfl
set_option maxRecDepth 100000 in
set_option maxHeartbeats 4000000 in
theorem vcX4_haveBoxesApart_2 (Rt : xR) (K : xG) (t36 t39 : xT) (M : xM) (v1 v2 v3 : Int) (o4 : Option xV) : xw LX fldX4 (calX4_haveBoxesApart t36 t39) [] 2 Rt iX4_haveBoxesApart cutX4_haveBoxesApart K 400 2 [some (.inr 4), some (.inl v1), some (.inl v2), some (.inl v3), o4] [] M = (rg v3 ∧ rg (6 : Int) ∧ ((6 : Int) ≤ v3 → ((0 : Int) = 0 ∨ (0 : Int) = 1) ∧ Rt (0 : Int) M) ∧ (v3 < (6 : Int) → K 11 [some (.inr 4), some (.inl v1), some (.inl v2), some (.inl v3), some (.inl (0 : Int))] [] M)) := rfl
set_option maxRecDepth 100000 in
set_option maxHeartbeats 4000000 in
theorem vcX4_haveBoxesApart_11 (Rt : xR) (K : xG) (t36 t39 : xT) (M : xM) (v1 v2 v3 v4 : Int) : xw LX fldX4 (calX4_haveBoxesApart t36 t39) [] 2 Rt iX4_haveBoxesApart cutX4_haveBoxesApart K 400 11 [some (.inr 4), some (.inl v1), some (.inl v2), some (.inl v3), some (.inl v4)] [] M = (rg v4 ∧ rg (6 : Int) ∧ ((6 : Int) ≤ v4 → K 2 [some (.inr 4), some (.inl v1), some (.inl v2), some (.inl (v3 + (1 : Int))), some (.inl v4)] [] M) ∧ (v4 < (6 : Int) → t36 [.inr 4, .inl v1, .inl v3] M (fun r1 M1 => rg r1 ∧ (r1 = 0 → K 11 [some (.inr 4), some (.inl v1), some (.inl v2), some (.inl v3), some (.inl (v4 + (1 : Int)))] [] M1) ∧ (r1 ≠ 0 → t36 [.inr 4, .inl v2, .inl v4] M1 (fun r2 M2 => rg r2 ∧ (r2 = 0 → K 11 [some (.inr 4), some (.inl v1), some (.inl v2), some (.inl v3), some (.inl (v4 + (1 : Int)))] [] M2) ∧ (r2 ≠ 0 → t39 [.inr 4, .inl v3, .inl v4] M2 (fun r3 M3 => rg r3 ∧ (r3 = 0 → K 11 [some (.inr 4), some (.inl v1), some (.inl v2), some (.inl v3), some (.inl (v4 + (1 : Int)))] [] M3) ∧ (r3 ≠ 0 → ((1 : Int) = 0 ∨ (1 : Int) = 1) ∧ Rt (1 : Int) M3)))))))) := rfl
def calX4_add (t32 t42 t46 : xT) : xCal := [(32, false, 2, false, t32), (42, false, 3, true, t42), (46, false, 3, true, t46)]
def cutX4_add : Nat → Bool := fun pc => false
set_option maxRecDepth 100000 in
set_option maxHeartbeats 4000000 in
theorem vcX4_add_0 (Rt : xR) (K : xG) (t32 t42 t46 : xT) (M : xM) (v1 v2 v3 : Int) : xw LX fldX4 (calX4_add t32 t42 t46) [] 0 Rt iX4_add cutX4_add K 400 0 [some (.inr 4), some (.inl v1), some (.inl v2), some (.inl v3)] [] M = (rg v3 ∧ (v3 = 0 → t46 [.inr 4, .inl v1, .inl v2] M (fun r1 M1 => t46 [.inr 4, .inl v2, .inl v1] M1 (fun r2 M2 => Rt 0 (xup M2 4 2 ((M2 4 2) + (1 : Int)))))) ∧ (v3 ≠ 0 → t32 [.inr 4, .inl v1] M (fun r3 M3 => t32 [.inr 4, .inl v2] M3 (fun r4 M4 => t42 [.inr 4, .inl r3, .inl r4] M4 (fun r5 M5 => Rt 0 (xup M5 4 2 ((M5 4 2) + (1 : Int)))))))) := rfl
def calX4_makeOne (t49 : xT) : xCal := [(49, true, 2, false, t49)]
def cutX4_makeOne : Nat → Bool := fun pc => Nat.beq pc 2
set_option maxRecDepth 100000 in
set_option maxHeartbeats 4000000 in
theorem vcX4_makeOne_0 (Rt : xR) (K : xG) (t49 : xT) (M : xM) (v1 v2 : Int) : xw LX fldX4 (calX4_makeOne t49) [] 0 Rt iX4_makeOne cutX4_makeOne K 400 0 [some (.inr 4), some (.inl v1), some (.inl v2), none] [] M = (K 2 [some (.inr 4), some (.inl v1), some (.inl v2), some (.inl (0 : Int))] [] M) := rfl
set_option maxRecDepth 100000 in
set_option maxHeartbeats 4000000 in
theorem vcX4_makeOne_2 (Rt : xR) (K : xG) (t49 : xT) (M : xM) (v1 v2 v3 : Int) : xw LX fldX4 (calX4_makeOne t49) [] 0 Rt iX4_makeOne cutX4_makeOne K 400 2 [some (.inr 4), some (.inl v1), some (.inl v2), some (.inl v3)] [] M = (rg v3 ∧ rg (6 : Int) ∧ ((6 : Int) ≤ v3 → Rt 0 M) ∧ (v3 < (6 : Int) → (0 ≤ v3 ∧ v3 < 6) ∧ rg (M 5 v3) ∧ rg v1 ∧ ((M 5 v3) = v1 → t49 [.inl v1, .inl v2] M (fun r1 M1 => (0 ≤ v3 ∧ v3 < 6) ∧ K 2 [some (.inr 4), some (.inl v1), some (.inl v2), some (.inl (v3 + (1 : Int)))] [] (xup M1 5 v3 r1))) ∧ ((M 5 v3) ≠ v1 → (0 ≤ v3 ∧ v3 < 6) ∧ rg (M 5 v3) ∧ rg v2 ∧ ((M 5 v3) ≠ v2 → K 2 [some (.inr 4), some (.inl v1), some (.inl v2), some (.inl (v3 + (1 : Int)))] [] M) ∧ ((M 5 v3) = v2 → t49 [.inl v1, .inl v2] M (fun r2 M2 => (0 ≤ v3 ∧ v3 < 6) ∧ K 2 [some (.inr 4), some (.inl v1), some (.inl v2), some (.inl (v3 + (1 : Int)))] [] (xup M2 5 v3 r2)))))) := rfl
def calX4_setApart : xCal := []
def cutX4_setApart : Nat → Bool := fun pc => false
set_option maxRecDepth 100000 in
set_option maxHeartbeats 4000000 in
theorem vcX4_setApart_0 (Rt : xR) (K : xG) (M : xM) (v1 v2 : Int) : xw LX fldX4 calX4_setApart [] 0 Rt iX4_setApart cutX4_setApart K 400 0 [some (.inr 4), some (.inl v1), some (.inl v2)] [] M = (rg v1 ∧ (v1 < 0 → Rt 0 M) ∧ (0 ≤ v1 → rg v1 ∧ rg (6 : Int) ∧ ((6 : Int) ≤ v1 → Rt 0 M) ∧ (v1 < (6 : Int) → (0 ≤ v1 ∧ v1 < 6) ∧ (0 ≤ v1 ∧ v1 < 6) ∧ Rt 0 (xup M 6 v1 (xi (M 6 v1) ||| xi (xi (1 : Int) <<< (xi v2 &&& 31)).toInt).toInt)))) := rfl
def calX5_hop (t46 t50 t54 t58 t62 t65 : xT) : xCal := [(46, true, 1, false, t46), (50, false, 3, false, t50), (54, false, 2, false, t54), (58, false, 1, false, t58), (62, false, 2, false, t62), (65, false, 3, true, t65)]
def cutX5_hop : Nat → Bool := fun pc => false
set_option maxRecDepth 100000 in
set_option maxHeartbeats 4000000 in
theorem vcX5_hop_0 (Rt : xR) (K : xG) (t46 t50 t54 t58 t62 t65 : xT) (M : xM) (v1 : Int) : xw LX fldX5 (calX5_hop t46 t50 t54 t58 t62 t65) [] 1 Rt iX5_hop cutX5_hop K 400 0 [some (.inr 0), some (.inl v1)] [] M = (rg v1 ∧ rg (-1 : Int) ∧ (v1 = (-1 : Int) → rg v1 ∧ rg (-1 : Int) ∧ (v1 = (-1 : Int) → t54 [.inr 1, .inl (6 : Int)] M (fun r1 M1 => rg r1 ∧ rg (6 : Int) ∧ (r1 < (6 : Int) → rg v1 ∧ rg (-1 : Int) ∧ (v1 ≠ (-1 : Int) → t65 [.inr 1, .inl (6 : Int), .inl v1] M1 (fun r2 M2 => t54 [.inr 1, .inl (6 : Int)] M2 (fun r3 M3 => Rt r3 M3))) ∧ (v1 = (-1 : Int) → t58 [.inr 1] M1 (fun r4 M4 => t62 [.inr 1, .inl (6 : Int)] M4 (fun r5 M5 => rg (r4 + r5) ∧ rg (4 : Int) ∧ ((r4 + r5) < (4 : Int) → t65 [.inr 1, .inl (6 : Int), .inl v1] M5 (fun r6 M6 => t54 [.inr 1, .inl (6 : Int)] M6 (fun r7 M7 => Rt r7 M7))) ∧ ((4 : Int) ≤ (r4 + r5) → Rt (-5 : Int) M5))))) ∧ ((6 : Int) ≤ r1 → Rt (-5 : Int) M1))) ∧ (v1 ≠ (-1 : Int) → t50 [.inr 1, .inl (6 : Int), .inl v1] M (fun r8 M8 => rg r8 ∧ (r8 = 0 → t54 [.inr 1, .inl (6 : Int)] M8 (fun r9 M9 => rg r9 ∧ rg (6 : Int) ∧ (r9 < (6 : Int) → rg v1 ∧ rg (-1 : Int) ∧ (v1 ≠ (-1 : Int) → t65 [.inr 1, .inl (6 : Int), .inl v1] M9 (fun r10 M10 => t54 [.inr 1, .inl (6 : Int)] M10 (fun r11 M11 => Rt r11 M11))) ∧ (v1 = (-1 : Int) → t58 [.inr 1] M9 (fun r12 M12 => t62 [.inr 1, .inl (6 : Int)] M12 (fun r13 M13 => rg (r12 + r13) ∧ rg (4 : Int) ∧ ((r12 + r13) < (4 : Int) → t65 [.inr 1, .inl (6 : Int), .inl v1] M13 (fun r14 M14 => t54 [.inr 1, .inl (6 : Int)] M14 (fun r15 M15 => Rt r15 M15))) ∧ ((4 : Int) ≤ (r12 + r13) → Rt (-5 : Int) M13))))) ∧ ((6 : Int) ≤ r9 → Rt (-5 : Int) M9))) ∧ (r8 ≠ 0 → Rt (-3 : Int) M8)))) ∧ (v1 ≠ (-1 : Int) → t46 [.inl v1] M (fun r16 M16 => rg r16 ∧ (r16 ≠ 0 → rg v1 ∧ rg (-1 : Int) ∧ (v1 = (-1 : Int) → t54 [.inr 1, .inl (6 : Int)] M16 (fun r17 M17 => rg r17 ∧ rg (6 : Int) ∧ (r17 < (6 : Int) → rg v1 ∧ rg (-1 : Int) ∧ (v1 ≠ (-1 : Int) → t65 [.inr 1, .inl (6 : Int), .inl v1] M17 (fun r18 M18 => t54 [.inr 1, .inl (6 : Int)] M18 (fun r19 M19 => Rt r19 M19))) ∧ (v1 = (-1 : Int) → t58 [.inr 1] M17 (fun r20 M20 => t62 [.inr 1, .inl (6 : Int)] M20 (fun r21 M21 => rg (r20 + r21) ∧ rg (4 : Int) ∧ ((r20 + r21) < (4 : Int) → t65 [.inr 1, .inl (6 : Int), .inl v1] M21 (fun r22 M22 => t54 [.inr 1, .inl (6 : Int)] M22 (fun r23 M23 => Rt r23 M23))) ∧ ((4 : Int) ≤ (r20 + r21) → Rt (-5 : Int) M21))))) ∧ ((6 : Int) ≤ r17 → Rt (-5 : Int) M17))) ∧ (v1 ≠ (-1 : Int) → t50 [.inr 1, .inl (6 : Int), .inl v1] M16 (fun r24 M24 => rg r24 ∧ (r24 = 0 → t54 [.inr 1, .inl (6 : Int)] M24 (fun r25 M25 => rg r25 ∧ rg (6 : Int) ∧ (r25 < (6 : Int) → rg v1 ∧ rg (-1 : Int) ∧ (v1 ≠ (-1 : Int) → t65 [.inr 1, .inl (6 : Int), .inl v1] M25 (fun r26 M26 => t54 [.inr 1, .inl (6 : Int)] M26 (fun r27 M27 => Rt r27 M27))) ∧ (v1 = (-1 : Int) → t58 [.inr 1] M25 (fun r28 M28 => t62 [.inr 1, .inl (6 : Int)] M28 (fun r29 M29 => rg (r28 + r29) ∧ rg (4 : Int) ∧ ((r28 + r29) < (4 : Int) → t65 [.inr 1, .inl (6 : Int), .inl v1] M29 (fun r30 M30 => t54 [.inr 1, .inl (6 : Int)] M30 (fun r31 M31 => Rt r31 M31))) ∧ ((4 : Int) ≤ (r28 + r29) → Rt (-5 : Int) M29))))) ∧ ((6 : Int) ≤ r25 → Rt (-5 : Int) M25))) ∧ (r24 ≠ 0 → Rt (-3 : Int) M24)))) ∧ (r16 = 0 → Rt (-2 : Int) M16)))) := rfl
def calX5_drop (t54 t69 : xT) : xCal := [(54, false, 2, false, t54), (69, false, 2, true, t69)]
def cutX5_drop : Nat → Bool := fun pc => false
set_option maxRecDepth 100000 in
set_option maxHeartbeats 4000000 in
theorem vcX5_drop_0 (Rt : xR) (K : xG) (t54 t69 : xT) (M : xM) : xw LX fldX5 (calX5_drop t54 t69) [] 1 Rt iX5_drop cutX5_drop K 400 0 [some (.inr 0), none] [] M = (t54 [.inr 1, .inl (6 : Int)] M (fun r1 M1 => t69 [.inr 1, .inl (6 : Int)] M1 (fun r2 M2 => Rt r1 M2))) := rfl
def calX5_trace (t73 t54 t76 t80 t83 : xT) : xCal := [(73, false, 1, false, t73), (54, false, 2, false, t54), (76, false, 3, false, t76), (80, false, 1, true, t80), (83, false, 1, true, t83)]
def cutX5_trace : Nat → Bool := fun pc => false
set_option maxRecDepth 100000 in
set_option maxHeartbeats 4000000 in
theorem vcX5_trace_0 (Rt : xR) (K : xG) (t73 t54 t76 t80 t83 : xT) (M : xM) : xw LX fldX5 (calX5_trace t73 t54 t76 t80 t83) [] 1 Rt iX5_trace cutX5_trace K 400 0 [some (.inr 0), none] [] M = (t73 [.inr 1] M (fun r1 M1 => rg r1 ∧ rg (6 : Int) ∧ (r1 < (6 : Int) → t54 [.inr 1, .inl (6 : Int)] M1 (fun r2 M2 => rg r2 ∧ rg (2 : Int) ∧ (r2 < (2 : Int) → Rt (-6 : Int) M2) ∧ ((2 : Int) ≤ r2 → t76 [.inr 1, .inl (6 : Int), .inl (0 : Int)] M2 (fun r3 M3 => rg r3 ∧ rg (-1 : Int) ∧ (r3 = (-1 : Int) → Rt (-6 : Int) M3) ∧ (r3 ≠ (-1 : Int) → t76 [.inr 1, .inl (6 : Int), .inl (r2 - (1 : Int))] M3 (fun r4 M4 => rg r4 ∧ rg (-1 : Int) ∧ (r4 ≠ (-1 : Int) → t80 [.inr 1] M4 (fun r5 M5 => t83 [.inr 0] M5 (fun r6 M6 => t73 [.inr 1] M6 (fun r7 M7 => Rt (r7 - (1 : Int)) M7)))) ∧ (r4 = (-1 : Int) → Rt (-6 : Int) M4))))))) ∧ ((6 : Int) ≤ r1 → Rt (-5 : Int) M1))) := rfl
def calX5_forget (t86 t89 t83 t73 : xT) : xCal := [(86, false, 2, false, t86), (89, false, 2, true, t89), (83, false, 1, true, t83), (73, false, 1, false, t73)]
def cutX5_forget : Nat → Bool := fun pc => false
set_option maxRecDepth 100000 in
set_option maxHeartbeats 4000000 in
theorem vcX5_forget_0 (Rt : xR) (K : xG) (t86 t89 t83 t73 : xT) (M : xM) (v1 : Int) : xw LX fldX5 (calX5_forget t86 t89 t83 t73) [] 1 Rt iX5_forget cutX5_forget K 400 0 [some (.inr 0), some (.inl v1)] [] M = (t86 [.inr 0, .inl v1] M (fun r1 M1 => rg r1 ∧ (r1 ≠ 0 → t89 [.inr 1, .inl v1] M1 (fun r2 M2 => t83 [.inr 0] M2 (fun r3 M3 => t73 [.inr 1] M3 (fun r4 M4 => Rt r4 M4)))) ∧ (r1 = 0 → Rt (-2 : Int) M1))) := rfl
def calX5_tell (t46 t92 t95 t98 t101 t83 : xT) : xCal := [(46, true, 1, false, t46), (92, false, 3, false, t92), (95, false, 3, false, t95), (98, false, 3, false, t98), (101, false, 4, true, t101), (83, false, 1, true, t83)]
def cutX5_tell : Nat → Bool := fun pc => false
set_option maxRecDepth 100000 in
set_option maxHeartbeats 4000000 in
theorem vcX5_tell_0 (Rt : xR) (K : xG) (t46 t92 t95 t98 t101 t83 : xT) (M : xM) (v1 v2 v3 : Int) : xw LX fldX5 (calX5_tell t46 t92 t95 t98 t101 t83) [] 1 Rt iX5_tell cutX5_tell K 400 0 [some (.inr 0), some (.inl v1), some (.inl v2), some (.inl v3), none, none] [] M = (t46 [.inl v1] M (fun r1 M1 => rg r1 ∧ (r1 = 0 → Rt (-2 : Int) M1) ∧ (r1 ≠ 0 → t46 [.inl v2] M1 (fun r2 M2 => rg r2 ∧ (r2 = 0 → Rt (-2 : Int) M2) ∧ (r2 ≠ 0 → rg v1 ∧ rg v2 ∧ (v1 ≠ v2 → rg v3 ∧ (v3 = 0 → t95 [.inr 4, .inl v1, .inl v2] M2 (fun r3 M3 => rg r3 ∧ (r3 = 0 → rg v3 ∧ (v3 = 0 → t92 [.inr 4, .inl v1, .inl v2] M3 (fun r4 M4 => rg r4 ∧ (r4 = 0 → t101 [.inr 4, .inl v1, .inl v2, .inl v3] M4 (fun r5 M5 => t83 [.inr 0] M5 (fun r6 M6 => Rt (1 : Int) M6))) ∧ (r4 ≠ 0 → Rt (-4 : Int) M4))) ∧ (v3 ≠ 0 → t98 [.inr 4, .inl v1, .inl v2] M3 (fun r7 M7 => rg r7 ∧ (r7 = 0 → t101 [.inr 4, .inl v1, .inl v2, .inl v3] M7 (fun r8 M8 => t83 [.inr 0] M8 (fun r9 M9 => Rt (1 : Int) M9))) ∧ (r7 ≠ 0 → Rt (-4 : Int) M7)))) ∧ (r3 ≠ 0 → Rt (-3 : Int) M3))) ∧ (v3 ≠ 0 → t92 [.inr 4, .inl v1, .inl v2] M2 (fun r10 M10 => rg r10 ∧ (r10 = 0 → rg v3 ∧ (v3 = 0 → t92 [.inr 4, .inl v1, .inl v2] M10 (fun r11 M11 => rg r11 ∧ (r11 = 0 → t101 [.inr 4, .inl v1, .inl v2, .inl v3] M11 (fun r12 M12 => t83 [.inr 0] M12 (fun r13 M13 => Rt (1 : Int) M13))) ∧ (r11 ≠ 0 → Rt (-4 : Int) M11))) ∧ (v3 ≠ 0 → t98 [.inr 4, .inl v1, .inl v2] M10 (fun r14 M14 => rg r14 ∧ (r14 = 0 → t101 [.inr 4, .inl v1, .inl v2, .inl v3] M14 (fun r15 M15 => t83 [.inr 0] M15 (fun r16 M16 => Rt (1 : Int) M16))) ∧ (r14 ≠ 0 → Rt (-4 : Int) M14)))) ∧ (r10 ≠ 0 → Rt (-3 : Int) M10)))) ∧ (v1 = v2 → Rt (-2 : Int) M2)))))) := rfl
def calX5_untell (t105 t108 t83 : xT) : xCal := [(105, false, 1, false, t105), (108, false, 1, true, t108), (83, false, 1, true, t83)]
def cutX5_untell : Nat → Bool := fun pc => false
set_option maxRecDepth 100000 in
set_option maxHeartbeats 4000000 in
theorem vcX5_untell_0 (Rt : xR) (K : xG) (t105 t108 t83 : xT) (M : xM) : xw LX fldX5 (calX5_untell t105 t108 t83) [] 1 Rt iX5_untell cutX5_untell K 400 0 [some (.inr 0), none] [] M = (t105 [.inr 4] M (fun r1 M1 => t108 [.inr 4] M1 (fun r2 M2 => t83 [.inr 0] M2 (fun r3 M3 => Rt r1 M3)))) := rfl
def calX5_at (t86 t54 t76 : xT) : xCal := [(86, false, 2, false, t86), (54, false, 2, false, t54), (76, false, 3, false, t76)]
def cutX5_at : Nat → Bool := fun pc => false
set_option maxRecDepth 100000 in
set_option maxHeartbeats 4000000 in
theorem vcX5_at_0 (Rt : xR) (K : xG) (t86 t54 t76 : xT) (M : xM) (v1 v2 : Int) : xw LX fldX5 (calX5_at t86 t54 t76) [] 1 Rt iX5_at cutX5_at K 400 0 [some (.inr 0), some (.inl v1), some (.inl v2)] [] M = (t86 [.inr 0, .inl v1] M (fun r1 M1 => rg r1 ∧ (r1 = 0 → Rt (-2 : Int) M1) ∧ (r1 ≠ 0 → rg v2 ∧ (v2 < 0 → Rt (-2 : Int) M1) ∧ (0 ≤ v2 → t54 [.inr 1, .inl v1] M1 (fun r2 M2 => rg v2 ∧ rg r2 ∧ (v2 < r2 → t76 [.inr 1, .inl v1, .inl v2] M2 (fun r3 M3 => Rt r3 M3)) ∧ (r2 ≤ v2 → Rt (-2 : Int) M2)))))) := rfl
def calX5_nets (t111 : xT) : xCal := [(111, false, 1, false, t111)]
def cutX5_nets : Nat → Bool := fun pc => false
set_option maxRecDepth 100000 in
set_option maxHeartbeats 4000000 in
theorem vcX5_nets_0 (Rt : xR) (K : xG) (t111 : xT) (M : xM) : xw LX fldX5 (calX5_nets t111) [] 1 Rt iX5_nets cutX5_nets K 400 0 [some (.inr 0)] [] M = (t111 [.inr 10] M (fun r1 M1 => Rt r1 M1)) := rfl
def calX5_shape (t111 t114 t117 t120 : xT) : xCal := [(111, false, 1, false, t111), (114, false, 1, false, t114), (117, false, 1, false, t117), (120, false, 1, false, t120)]
def cutX5_shape : Nat → Bool := fun pc => false
set_option maxRecDepth 100000 in
set_option maxHeartbeats 4000000 in
theorem vcX5_shape_0 (Rt : xR) (K : xG) (t111 t114 t117 t120 : xT) (M : xM) (v1 : Int) : xw LX fldX5 (calX5_shape t111 t114 t117 t120) [] 1 Rt iX5_shape cutX5_shape K 400 0 [some (.inr 0), some (.inl v1)] [] M = (rg v1 ∧ (v1 = 0 → t111 [.inr 10] M (fun r1 M1 => rg r1 ∧ (r1 ≠ 0 → rg v1 ∧ (v1 ≠ 0 → t120 [.inr 10] M1 (fun r2 M2 => Rt r2 M2)) ∧ (v1 = 0 → t114 [.inr 0] M1 (fun r3 M3 => t117 [.inr 10] M3 (fun r4 M4 => Rt (r3 + r4) M4)))) ∧ (r1 = 0 → Rt (-6 : Int) M1))) ∧ (v1 ≠ 0 → rg v1 ∧ rg (1 : Int) ∧ (v1 = (1 : Int) → t111 [.inr 10] M (fun r5 M5 => rg r5 ∧ (r5 ≠ 0 → rg v1 ∧ (v1 ≠ 0 → t120 [.inr 10] M5 (fun r6 M6 => Rt r6 M6)) ∧ (v1 = 0 → t114 [.inr 0] M5 (fun r7 M7 => t117 [.inr 10] M7 (fun r8 M8 => Rt (r7 + r8) M8)))) ∧ (r5 = 0 → Rt (-6 : Int) M5))) ∧ (v1 ≠ (1 : Int) → Rt (-2 : Int) M))) := rfl
def calX5_boxOf (t111 t123 t58 t126 t129 : xT) : xCal := [(111, false, 1, false, t111), (123, false, 2, false, t123), (58, false, 1, false, t58), (126, false, 2, false, t126), (129, true, 2, false, t129)]
def cutX5_boxOf : Nat → Bool := fun pc => false
set_option maxRecDepth 100000 in
set_option maxHeartbeats 4000000 in
theorem vcX5_boxOf_0 (Rt : xR) (K : xG) (t111 t123 t58 t126 t129 : xT) (M : xM) (v1 v2 : Int) : xw LX fldX5 (calX5_boxOf t111 t123 t58 t126 t129) [] 1 Rt iX5_boxOf cutX5_boxOf K 400 0 [some (.inr 0), some (.inl v1), some (.inl v2), none] [] M = (t111 [.inr 10] M (fun r1 M1 => rg r1 ∧ (r1 ≠ 0 → t123 [.inr 0, .inl v1] M1 (fun r2 M2 => rg r2 ∧ (r2 = 0 → Rt (-2 : Int) M2) ∧ (r2 ≠ 0 → rg v2 ∧ (v2 < 0 → Rt (-2 : Int) M2) ∧ (0 ≤ v2 → t58 [.inr 1] M2 (fun r3 M3 => rg v2 ∧ rg r3 ∧ (v2 < r3 → t126 [.inr 10, .inl v1] M3 (fun r4 M4 => t129 [.inl r4, .inl v2] M4 (fun r5 M5 => rg r5 ∧ rg (6 : Int) ∧ ((6 : Int) ≤ r5 → Rt (((10 : Int) + r5) - (6 : Int)) M5) ∧ (r5 < (6 : Int) → Rt r5 M5)))) ∧ (r3 ≤ v2 → Rt (-2 : Int) M3)))))) ∧ (r1 = 0 → Rt (-6 : Int) M1))) := rfl
def calX5_far (t111 t123 t132 t126 t135 t138 : xT) : xCal := [(111, false, 1, false, t111), (123, false, 2, false, t123), (132, false, 2, false, t132), (126, false, 2, false, t126), (135, false, 2, false, t135), (138, false, 4, false, t138)]
def cutX5_far : Nat → Bool := fun pc => false
set_option maxRecDepth 100000 in
set_option maxHeartbeats 4000000 in
theorem vcX5_far_0 (Rt : xR) (K : xG) (t111 t123 t132 t126 t135 t138 : xT) (M : xM) (v1 v2 v3 : Int) : xw LX fldX5 (calX5_far t111 t123 t132 t126 t135 t138) [] 1 Rt iX5_far cutX5_far K 400 0 [some (.inr 0), some (.inl v1), some (.inl v2), some (.inl v3)] [] M = (t111 [.inr 10] M (fun r1 M1 => rg r1 ∧ (r1 ≠ 0 → t123 [.inr 0, .inl v1] M1 (fun r2 M2 => rg r2 ∧ (r2 = 0 → Rt (-2 : Int) M2) ∧ (r2 ≠ 0 → t132 [.inr 0, .inl v2] M2 (fun r3 M3 => rg r3 ∧ (r3 = 0 → Rt (-2 : Int) M3) ∧ (r3 ≠ 0 → t132 [.inr 0, .inl v3] M3 (fun r4 M4 => rg r4 ∧ (r4 ≠ 0 → t126 [.inr 10, .inl v1] M4 (fun r5 M5 => t135 [.inr 4, .inl v2] M5 (fun r6 M6 => t135 [.inr 4, .inl v3] M6 (fun r7 M7 => t138 [.inr 12, .inl r5, .inl r6, .inl r7] M7 (fun r8 M8 => Rt r8 M8))))) ∧ (r4 = 0 → Rt (-2 : Int) M4))))))) ∧ (r1 = 0 → Rt (-6 : Int) M1))) := rfl
def calX5_sure (t111 t132 t142 t135 t145 : xT) : xCal := [(111, false, 1, false, t111), (132, false, 2, false, t132), (142, false, 1, true, t142), (135, false, 2, false, t135), (145, false, 3, false, t145)]
def cutX5_sure : Nat → Bool := fun pc => false
set_option maxRecDepth 100000 in
set_option maxHeartbeats 4000000 in
theorem vcX5_sure_0 (Rt : xR) (K : xG) (t111 t132 t142 t135 t145 : xT) (M : xM) (v1 v2 : Int) : xw LX fldX5 (calX5_sure t111 t132 t142 t135 t145) [] 1 Rt iX5_sure cutX5_sure K 400 0 [some (.inr 0), some (.inl v1), some (.inl v2)] [] M = (t111 [.inr 10] M (fun r1 M1 => rg r1 ∧ (r1 ≠ 0 → t132 [.inr 0, .inl v1] M1 (fun r2 M2 => rg r2 ∧ (r2 = 0 → Rt (-2 : Int) M2) ∧ (r2 ≠ 0 → t132 [.inr 0, .inl v2] M2 (fun r3 M3 => rg r3 ∧ (r3 ≠ 0 → t142 [.inr 12] M3 (fun r4 M4 => t135 [.inr 4, .inl v1] M4 (fun r5 M5 => t135 [.inr 4, .inl v2] M5 (fun r6 M6 => t145 [.inr 12, .inl r5, .inl r6] M6 (fun r7 M7 => Rt r7 M7))))) ∧ (r3 = 0 → Rt (-2 : Int) M3))))) ∧ (r1 = 0 → Rt (-6 : Int) M1))) := rfl
def calX5_falses (t111 t148 t151 t156 : xT) : xCal := [(111, false, 1, false, t111), (148, false, 1, false, t148), (151, true, 1, false, t151), (156, false, 2, false, t156)]
def cutX5_falses : Nat → Bool := fun pc => Nat.beq pc 22 || Nat.beq pc 30
set_option maxRecDepth 100000 in
set_option maxHeartbeats 4000000 in
theorem vcX5_falses_0 (Rt : xR) (K : xG) (t111 t148 t151 t156 : xT) (M : xM) : xw LX fldX5 (calX5_falses t111 t148 t151 t156) [] 1 Rt iX5_falses cutX5_falses K 400 0 [some (.inr 0), none, none, none] [] M = (t111 [.inr 10] M (fun r1 M1 => rg r1 ∧ (r1 ≤ 0 → t148 [.inr 1] M1 (fun r2 M2 => K 22 [some (.inr 0), some (.inl r2), some (.inl (1 : Int)), none] [] M2)) ∧ (0 < r1 → Rt (0 : Int) M1))) := rfl
set_option maxRecDepth 100000 in
set_option maxHeartbeats 4000000 in
theorem vcX5_falses_22 (Rt : xR) (K : xG) (t111 t148 t151 t156 : xT) (M : xM) (v1 v2 : Int) (o3 : Option xV) : xw LX fldX5 (calX5_falses t111 t148 t151 t156) [] 1 Rt iX5_falses cutX5_falses K 400 22 [some (.inr 0), some (.inl v1), some (.inl v2), o3] [] M = (rg v2 ∧ rg (6 : Int) ∧ ((6 : Int) < v2 → Rt v1 M) ∧ (v2 ≤ (6 : Int) → K 30 [some (.inr 0), some (.inl v1), some (.inl v2), some (.inl (1 : Int))] [] M)) := rfl
set_option maxRecDepth 100000 in
set_option maxHeartbeats 4000000 in
theorem vcX5_falses_30 (Rt : xR) (K : xG) (t111 t148 t151 t156 : xT) (M : xM) (v1 v2 v3 : Int) : xw LX fldX5 (calX5_falses t111 t148 t151 t156) [] 1 Rt iX5_falses cutX5_falses K 400 30 [some (.inr 0), some (.inl v1), some (.inl v2), some (.inl v3)] [] M = (rg v3 ∧ rg v1 ∧ (v1 < v3 → K 22 [some (.inr 0), some (.inl v1), some (.inl (v2 + (1 : Int))), some (.inl v3)] [] M) ∧ (v3 ≤ v1 → t151 [.inl v3] M (fun r1 M1 => rg r1 ∧ rg v2 ∧ (r1 ≠ v2 → K 30 [some (.inr 0), some (.inl v1), some (.inl v2), some (.inl (v3 + (1 : Int)))] [] M1) ∧ (r1 = v2 → t156 [.inr 10, .inl (xi v1 &&& xi (xi v3 ^^^ xi (-1 : Int)).toInt).toInt] M1 (fun r2 M2 => rg r2 ∧ (r2 = 0 → K 30 [some (.inr 0), some (.inl v1), some (.inl v2), some (.inl (v3 + (1 : Int)))] [] M2) ∧ (r2 ≠ 0 → Rt v3 M2)))))) := rfl
def calX5_next (t111 t142 t159 : xT) : xCal := [(111, false, 1, false, t111), (142, false, 1, true, t142), (159, false, 1, false, t159)]
def cutX5_next : Nat → Bool := fun pc => false
set_option maxRecDepth 100000 in
set_option maxHeartbeats 4000000 in
theorem vcX5_next_0 (Rt : xR) (K : xG) (t111 t142 t159 : xT) (M : xM) : xw LX fldX5 (calX5_next t111 t142 t159) [] 1 Rt iX5_next cutX5_next K 400 0 [some (.inr 0)] [] M = (t111 [.inr 10] M (fun r1 M1 => rg r1 ∧ (r1 ≠ 0 → t142 [.inr 12] M1 (fun r2 M2 => t159 [.inr 12] M2 (fun r3 M3 => Rt r3 M3))) ∧ (r1 = 0 → Rt (-6 : Int) M1))) := rfl
def calX5_worst (t111 t142 t162 : xT) : xCal := [(111, false, 1, false, t111), (142, false, 1, true, t142), (162, false, 1, false, t162)]
def cutX5_worst : Nat → Bool := fun pc => false
set_option maxRecDepth 100000 in
set_option maxHeartbeats 4000000 in
theorem vcX5_worst_0 (Rt : xR) (K : xG) (t111 t142 t162 : xT) (M : xM) : xw LX fldX5 (calX5_worst t111 t142 t162) [] 1 Rt iX5_worst cutX5_worst K 400 0 [some (.inr 0)] [] M = (t111 [.inr 10] M (fun r1 M1 => rg r1 ∧ (r1 ≠ 0 → t142 [.inr 12] M1 (fun r2 M2 => t162 [.inr 12] M2 (fun r3 M3 => Rt r3 M3))) ∧ (r1 = 0 → Rt (-6 : Int) M1))) := rfl
def calX5_count (t73 t58 t165 t151 t54 t114 : xT) : xCal := [(73, false, 1, false, t73), (58, false, 1, false, t58), (165, false, 1, false, t165), (151, true, 1, false, t151), (54, false, 2, false, t54), (114, false, 1, false, t114)]
def cutX5_count : Nat → Bool := fun pc => false
set_option maxRecDepth 100000 in
set_option maxHeartbeats 4000000 in
theorem vcX5_count_0 (Rt : xR) (K : xG) (t73 t58 t165 t151 t54 t114 : xT) (M : xM) (v1 : Int) : xw LX fldX5 (calX5_count t73 t58 t165 t151 t54 t114) [] 1 Rt iX5_count cutX5_count K 400 0 [some (.inr 0), some (.inl v1)] [] M = (rg v1 ∧ (v1 < (0 : Int) → Rt (-2 : Int) M) ∧ ((4 : Int) < v1 → Rt (-2 : Int) M) ∧ (v1 = (0 : Int) → t73 [.inr 1] M (fun r1 M1 => Rt r1 M1)) ∧ (v1 = (0 : Int) + 1 → t58 [.inr 1] M (fun r2 M2 => Rt r2 M2)) ∧ (v1 = (0 : Int) + 1 + 1 → t165 [.inr 1] M (fun r3 M3 => t151 [.inl r3] M3 (fun r4 M4 => Rt r4 M4))) ∧ (v1 = (0 : Int) + 1 + 1 + 1 → t54 [.inr 1, .inl (6 : Int)] M (fun r5 M5 => Rt r5 M5)) ∧ (v1 = (0 : Int) + 1 + 1 + 1 + 1 → t114 [.inr 0] M (fun r6 M6 => Rt r6 M6)) ∧ True) := rfl
def calX5_forgetAnswers (t168 t171 : xT) : xCal := [(168, false, 1, true, t168), (171, false, 1, true, t171)]
def cutX5_forgetAnswers : Nat → Bool := fun pc => false
set_option maxRecDepth 100000 in
set_option maxHeartbeats 4000000 in
theorem vcX5_forgetAnswers_0 (Rt : xR) (K : xG) (t168 t171 : xT) (M : xM) : xw LX fldX5 (calX5_forgetAnswers t168 t171) [] 0 Rt iX5_forgetAnswers cutX5_forgetAnswers K 400 0 [some (.inr 0)] [] M = (t168 [.inr 10] M (fun r1 M1 => t171 [.inr 12] M1 (fun r2 M2 => Rt 0 M2))) := rfl
def calX5_isTrace (t73 : xT) : xCal := [(73, false, 1, false, t73)]
def cutX5_isTrace : Nat → Bool := fun pc => false
set_option maxRecDepth 100000 in
set_option maxHeartbeats 4000000 in
theorem vcX5_isTrace_0 (Rt : xR) (K : xG) (t73 : xT) (M : xM) (v1 : Int) : xw LX fldX5 (calX5_isTrace t73) [] 2 Rt iX5_isTrace cutX5_isTrace K 400 0 [some (.inr 0), some (.inl v1)] [] M = (rg v1 ∧ (v1 < 0 → ((0 : Int) = 0 ∨ (0 : Int) = 1) ∧ Rt (0 : Int) M) ∧ (0 ≤ v1 → t73 [.inr 1] M (fun r1 M1 => rg v1 ∧ rg r1 ∧ (r1 ≤ v1 → ((0 : Int) = 0 ∨ (0 : Int) = 1) ∧ Rt (0 : Int) M1) ∧ (v1 < r1 → ((1 : Int) = 0 ∨ (1 : Int) = 1) ∧ Rt (1 : Int) M1)))) := rfl
def calX5_isNet (t111 : xT) : xCal := [(111, false, 1, false, t111)]
def cutX5_isNet : Nat → Bool := fun pc => false
set_option maxRecDepth 100000 in
set_option maxHeartbeats 4000000 in
theorem vcX5_isNet_0 (Rt : xR) (K : xG) (t111 : xT) (M : xM) (v1 : Int) : xw LX fldX5 (calX5_isNet t111) [] 2 Rt iX5_isNet cutX5_isNet K 400 0 [some (.inr 0), some (.inl v1)] [] M = (rg v1 ∧ (v1 < 0 → ((0 : Int) = 0 ∨ (0 : Int) = 1) ∧ Rt (0 : Int) M) ∧ (0 ≤ v1 → t111 [.inr 10] M (fun r1 M1 => rg v1 ∧ rg r1 ∧ (r1 ≤ v1 → ((0 : Int) = 0 ∨ (0 : Int) = 1) ∧ Rt (0 : Int) M1) ∧ (v1 < r1 → ((1 : Int) = 0 ∨ (1 : Int) = 1) ∧ Rt (1 : Int) M1)))) := rfl
def calX5_isTraced (t46 t165 t174 : xT) : xCal := [(46, true, 1, false, t46), (165, false, 1, false, t165), (174, true, 2, false, t174)]
def cutX5_isTraced : Nat → Bool := fun pc => false
set_option maxRecDepth 100000 in
set_option maxHeartbeats 4000000 in
theorem vcX5_isTraced_0 (Rt : xR) (K : xG) (t46 t165 t174 : xT) (M : xM) (v1 : Int) : xw LX fldX5 (calX5_isTraced t46 t165 t174) [] 2 Rt iX5_isTraced cutX5_isTraced K 400 0 [some (.inr 0), some (.inl v1)] [] M = (t46 [.inl v1] M (fun r1 M1 => rg r1 ∧ (r1 = 0 → ((0 : Int) = 0 ∨ (0 : Int) = 1) ∧ Rt (0 : Int) M1) ∧ (r1 ≠ 0 → t165 [.inr 1] M1 (fun r2 M2 => t174 [.inl r2, .inl v1] M2 (fun r3 M3 => rg r3 ∧ (r3 = 0 → ((0 : Int) = 0 ∨ (0 : Int) = 1) ∧ Rt (0 : Int) M3) ∧ (r3 ≠ 0 → ((1 : Int) = 0 ∨ (1 : Int) = 1) ∧ Rt (1 : Int) M3)))))) := rfl
def calX5_boxesOfNames (t165 t177 t151 : xT) : xCal := [(165, false, 1, false, t165), (177, false, 2, false, t177), (151, true, 1, false, t151)]
def cutX5_boxesOfNames : Nat → Bool := fun pc => false
set_option maxRecDepth 100000 in
set_option maxHeartbeats 4000000 in
theorem vcX5_boxesOfNames_0 (Rt : xR) (K : xG) (t165 t177 t151 : xT) (M : xM) : xw LX fldX5 (calX5_boxesOfNames t165 t177 t151) [] 1 Rt iX5_boxesOfNames cutX5_boxesOfNames K 400 0 [some (.inr 0)] [] M = (t165 [.inr 1] M (fun r1 M1 => t177 [.inr 4, .inl r1] M1 (fun r2 M2 => t151 [.inl r2] M2 (fun r3 M3 => Rt r3 M3)))) := rfl
def calX5_isName : xCal := []
def cutX5_isName : Nat → Bool := fun pc => false
set_option maxRecDepth 100000 in
set_option maxHeartbeats 4000000 in
theorem vcX5_isName_0 (Rt : xR) (K : xG) (M : xM) (v0 : Int) : xw LX fldX5 calX5_isName [] 2 Rt iX5_isName cutX5_isName K 400 0 [some (.inl v0)] [] M = (rg v0 ∧ (v0 < 0 → ((0 : Int) = 0 ∨ (0 : Int) = 1) ∧ Rt (0 : Int) M) ∧ (0 ≤ v0 → rg v0 ∧ rg (6 : Int) ∧ ((6 : Int) ≤ v0 → ((0 : Int) = 0 ∨ (0 : Int) = 1) ∧ Rt (0 : Int) M) ∧ (v0 < (6 : Int) → ((1 : Int) = 0 ∨ (1 : Int) = 1) ∧ Rt (1 : Int) M))) := rfl
def calX5_isBox : xCal := []
def cutX5_isBox : Nat → Bool := fun pc => false
set_option maxRecDepth 100000 in
set_option maxHeartbeats 4000000 in
theorem vcX5_isBox_0 (Rt : xR) (K : xG) (M : xM) (v0 : Int) : xw LX fldX5 calX5_isBox [] 2 Rt iX5_isBox cutX5_isBox K 400 0 [some (.inl v0)] [] M = (rg v0 ∧ (v0 < 0 → ((0 : Int) = 0 ∨ (0 : Int) = 1) ∧ Rt (0 : Int) M) ∧ (0 ≤ v0 → rg v0 ∧ rg (10 : Int) ∧ ((10 : Int) ≤ v0 → ((0 : Int) = 0 ∨ (0 : Int) = 1) ∧ Rt (0 : Int) M) ∧ (v0 < (10 : Int) → ((1 : Int) = 0 ∨ (1 : Int) = 1) ∧ Rt (1 : Int) M))) := rfl
def calX5_hasBit : xCal := []
def cutX5_hasBit : Nat → Bool := fun pc => false
set_option maxRecDepth 100000 in
set_option maxHeartbeats 4000000 in
theorem vcX5_hasBit_0 (Rt : xR) (K : xG) (M : xM) (v0 v1 : Int) : xw LX fldX5 calX5_hasBit [] 2 Rt iX5_hasBit cutX5_hasBit K 400 0 [some (.inl v0), some (.inl v1)] [] M = (rg (xi (xi v0 >>> (xi v1 &&& 31)).toInt &&& xi (1 : Int)).toInt ∧ rg (1 : Int) ∧ ((xi (xi v0 >>> (xi v1 &&& 31)).toInt &&& xi (1 : Int)).toInt ≠ (1 : Int) → ((0 : Int) = 0 ∨ (0 : Int) = 1) ∧ Rt (0 : Int) M) ∧ ((xi (xi v0 >>> (xi v1 &&& 31)).toInt &&& xi (1 : Int)).toInt = (1 : Int) → ((1 : Int) = 0 ∨ (1 : Int) = 1) ∧ Rt (1 : Int) M)) := rfl
def calX5_boxIn : xCal := []
def cutX5_boxIn : Nat → Bool := fun pc => false
set_option maxRecDepth 100000 in
set_option maxHeartbeats 4000000 in
theorem vcX5_boxIn_0 (Rt : xR) (K : xG) (M : xM) (v0 v1 : Int) : xw LX fldX5 calX5_boxIn [] 1 Rt iX5_boxIn cutX5_boxIn K 400 0 [some (.inl v0), some (.inl v1)] [] M = (Rt (xi (xi v0 >>> (xi (v1 * (4 : Int)) &&& 31)).toInt &&& xi (15 : Int)).toInt M) := rfl
def calJ6_bitCount_0f7a4 : xCal := []
def cutJ6_bitCount_0f7a4 : Nat → Bool := fun pc => false
set_option maxRecDepth 100000 in
set_option maxHeartbeats 4000000 in
theorem vcJ6_bitCount_0f7a4_0 (Rt : xR) (K : xG) (M : xM) (v0 : Int) : xw LX [] calJ6_bitCount_0f7a4 [(265, 1431655765), (266, 858993459), (267, 252645135)] 1 Rt iJ6_bitCount_0f7a4 cutJ6_bitCount_0f7a4 K 400 0 [some (.inl v0)] [] M = (Rt (xi (((xi (((xi (v0 - (xi (((xi v0).toUInt32 >>> ((xi (1 : Int)).toUInt32 &&& Int32.toUInt32 31)).toInt32).toInt &&& xi (1431655765 : Int)).toInt) &&& xi (858993459 : Int)).toInt + (xi (((xi (v0 - (xi (((xi v0).toUInt32 >>> ((xi (1 : Int)).toUInt32 &&& Int32.toUInt32 31)).toInt32).toInt &&& xi (1431655765 : Int)).toInt)).toUInt32 >>> ((xi (2 : Int)).toUInt32 &&& Int32.toUInt32 31)).toInt32).toInt &&& xi (858993459 : Int)).toInt) + (((xi ((xi (v0 - (xi (((xi v0).toUInt32 >>> ((xi (1 : Int)).toUInt32 &&& Int32.toUInt32 31)).toInt32).toInt &&& xi (1431655765 : Int)).toInt) &&& xi (858993459 : Int)).toInt + (xi (((xi (v0 - (xi (((xi v0).toUInt32 >>> ((xi (1 : Int)).toUInt32 &&& Int32.toUInt32 31)).toInt32).toInt &&& xi (1431655765 : Int)).toInt)).toUInt32 >>> ((xi (2 : Int)).toUInt32 &&& Int32.toUInt32 31)).toInt32).toInt &&& xi (858993459 : Int)).toInt)).toUInt32 >>> ((xi (4 : Int)).toUInt32 &&& Int32.toUInt32 31)).toInt32).toInt) &&& xi (252645135 : Int)).toInt + (((xi (xi (((xi (v0 - (xi (((xi v0).toUInt32 >>> ((xi (1 : Int)).toUInt32 &&& Int32.toUInt32 31)).toInt32).toInt &&& xi (1431655765 : Int)).toInt) &&& xi (858993459 : Int)).toInt + (xi (((xi (v0 - (xi (((xi v0).toUInt32 >>> ((xi (1 : Int)).toUInt32 &&& Int32.toUInt32 31)).toInt32).toInt &&& xi (1431655765 : Int)).toInt)).toUInt32 >>> ((xi (2 : Int)).toUInt32 &&& Int32.toUInt32 31)).toInt32).toInt &&& xi (858993459 : Int)).toInt) + (((xi ((xi (v0 - (xi (((xi v0).toUInt32 >>> ((xi (1 : Int)).toUInt32 &&& Int32.toUInt32 31)).toInt32).toInt &&& xi (1431655765 : Int)).toInt) &&& xi (858993459 : Int)).toInt + (xi (((xi (v0 - (xi (((xi v0).toUInt32 >>> ((xi (1 : Int)).toUInt32 &&& Int32.toUInt32 31)).toInt32).toInt &&& xi (1431655765 : Int)).toInt)).toUInt32 >>> ((xi (2 : Int)).toUInt32 &&& Int32.toUInt32 31)).toInt32).toInt &&& xi (858993459 : Int)).toInt)).toUInt32 >>> ((xi (4 : Int)).toUInt32 &&& Int32.toUInt32 31)).toInt32).toInt) &&& xi (252645135 : Int)).toInt).toUInt32 >>> ((xi (8 : Int)).toUInt32 &&& Int32.toUInt32 31)).toInt32).toInt) + (((xi ((xi (((xi (v0 - (xi (((xi v0).toUInt32 >>> ((xi (1 : Int)).toUInt32 &&& Int32.toUInt32 31)).toInt32).toInt &&& xi (1431655765 : Int)).toInt) &&& xi (858993459 : Int)).toInt + (xi (((xi (v0 - (xi (((xi v0).toUInt32 >>> ((xi (1 : Int)).toUInt32 &&& Int32.toUInt32 31)).toInt32).toInt &&& xi (1431655765 : Int)).toInt)).toUInt32 >>> ((xi (2 : Int)).toUInt32 &&& Int32.toUInt32 31)).toInt32).toInt &&& xi (858993459 : Int)).toInt) + (((xi ((xi (v0 - (xi (((xi v0).toUInt32 >>> ((xi (1 : Int)).toUInt32 &&& Int32.toUInt32 31)).toInt32).toInt &&& xi (1431655765 : Int)).toInt) &&& xi (858993459 : Int)).toInt + (xi (((xi (v0 - (xi (((xi v0).toUInt32 >>> ((xi (1 : Int)).toUInt32 &&& Int32.toUInt32 31)).toInt32).toInt &&& xi (1431655765 : Int)).toInt)).toUInt32 >>> ((xi (2 : Int)).toUInt32 &&& Int32.toUInt32 31)).toInt32).toInt &&& xi (858993459 : Int)).toInt)).toUInt32 >>> ((xi (4 : Int)).toUInt32 &&& Int32.toUInt32 31)).toInt32).toInt) &&& xi (252645135 : Int)).toInt + (((xi (xi (((xi (v0 - (xi (((xi v0).toUInt32 >>> ((xi (1 : Int)).toUInt32 &&& Int32.toUInt32 31)).toInt32).toInt &&& xi (1431655765 : Int)).toInt) &&& xi (858993459 : Int)).toInt + (xi (((xi (v0 - (xi (((xi v0).toUInt32 >>> ((xi (1 : Int)).toUInt32 &&& Int32.toUInt32 31)).toInt32).toInt &&& xi (1431655765 : Int)).toInt)).toUInt32 >>> ((xi (2 : Int)).toUInt32 &&& Int32.toUInt32 31)).toInt32).toInt &&& xi (858993459 : Int)).toInt) + (((xi ((xi (v0 - (xi (((xi v0).toUInt32 >>> ((xi (1 : Int)).toUInt32 &&& Int32.toUInt32 31)).toInt32).toInt &&& xi (1431655765 : Int)).toInt) &&& xi (858993459 : Int)).toInt + (xi (((xi (v0 - (xi (((xi v0).toUInt32 >>> ((xi (1 : Int)).toUInt32 &&& Int32.toUInt32 31)).toInt32).toInt &&& xi (1431655765 : Int)).toInt)).toUInt32 >>> ((xi (2 : Int)).toUInt32 &&& Int32.toUInt32 31)).toInt32).toInt &&& xi (858993459 : Int)).toInt)).toUInt32 >>> ((xi (4 : Int)).toUInt32 &&& Int32.toUInt32 31)).toInt32).toInt) &&& xi (252645135 : Int)).toInt).toUInt32 >>> ((xi (8 : Int)).toUInt32 &&& Int32.toUInt32 31)).toInt32).toInt)).toUInt32 >>> ((xi (16 : Int)).toUInt32 &&& Int32.toUInt32 31)).toInt32).toInt) &&& xi (63 : Int)).toInt M) := rfl
def calJ9_max_7cf53 : xCal := []
def cutJ9_max_7cf53 : Nat → Bool := fun pc => false
set_option maxRecDepth 100000 in
set_option maxHeartbeats 4000000 in
theorem vcJ9_max_7cf53_0 (Rt : xR) (K : xG) (M : xM) (v0 v1 : Int) : xw LX [] calJ9_max_7cf53 [] 1 Rt iJ9_max_7cf53 cutJ9_max_7cf53 K 400 0 [some (.inl v0), some (.inl v1)] [] M = (rg v0 ∧ rg v1 ∧ (v0 < v1 → Rt v1 M) ∧ (v1 ≤ v0 → Rt v0 M)) := rfl
def calJ9_min_7cf53 : xCal := []
def cutJ9_min_7cf53 : Nat → Bool := fun pc => false
set_option maxRecDepth 100000 in
set_option maxHeartbeats 4000000 in
theorem vcJ9_min_7cf53_0 (Rt : xR) (K : xG) (M : xM) (v0 v1 : Int) : xw LX [] calJ9_min_7cf53 [] 1 Rt iJ9_min_7cf53 cutJ9_min_7cf53 K 400 0 [some (.inl v0), some (.inl v1)] [] M = (rg v0 ∧ rg v1 ∧ (v1 < v0 → Rt v1 M) ∧ (v0 ≤ v1 → Rt v0 M)) := rfl
def calJ7_fill_53178 : xCal := []
def cutJ7_fill_53178 : Nat → Bool := fun pc => Nat.beq pc 5
theorem vcJ7_fill_53178_0_6 (Rt : xR) (K : xG) (M : xM) (v1 : Int) : xw LX [] calJ7_fill_53178 [] 0 Rt iJ7_fill_53178 cutJ7_fill_53178 K 400 0 [some (.inr 6), some (.inl v1), none, none] [] M = (K 5 [some (.inr 6), some (.inl v1), some (.inl (0 : Int)), some (.inl (6 : Int))] [] M) := rfl
theorem vcJ7_fill_53178_5_6 (Rt : xR) (K : xG) (M : xM) (v1 v2 v3 : Int) : xw LX [] calJ7_fill_53178 [] 0 Rt iJ7_fill_53178 cutJ7_fill_53178 K 400 5 [some (.inr 6), some (.inl v1), some (.inl v2), some (.inl v3)] [] M = (rg v2 ∧ rg v3 ∧ (v3 ≤ v2 → Rt 0 M) ∧ (v2 < v3 → (0 ≤ v2 ∧ v2 < 6) ∧ K 5 [some (.inr 6), some (.inl v1), some (.inl (v2 + (1 : Int))), some (.inl v3)] [] (xup M 6 v2 v1))) := rfl
theorem vcJ7_fill_53178_0_9 (Rt : xR) (K : xG) (M : xM) (v1 : Int) : xw LX [] calJ7_fill_53178 [] 0 Rt iJ7_fill_53178 cutJ7_fill_53178 K 400 0 [some (.inr 9), some (.inl v1), none, none] [] M = (K 5 [some (.inr 9), some (.inl v1), some (.inl (0 : Int)), some (.inl (10 : Int))] [] M) := rfl
theorem vcJ7_fill_53178_5_9 (Rt : xR) (K : xG) (M : xM) (v1 v2 v3 : Int) : xw LX [] calJ7_fill_53178 [] 0 Rt iJ7_fill_53178 cutJ7_fill_53178 K 400 5 [some (.inr 9), some (.inl v1), some (.inl v2), some (.inl v3)] [] M = (rg v2 ∧ rg v3 ∧ (v3 ≤ v2 → Rt 0 M) ∧ (v2 < v3 → (0 ≤ v2 ∧ v2 < 10) ∧ K 5 [some (.inr 9), some (.inl v1), some (.inl (v2 + (1 : Int))), some (.inl v3)] [] (xup M 9 v2 v1))) := rfl
theorem vcJ7_fill_53178_0_13 (Rt : xR) (K : xG) (M : xM) (v1 : Int) : xw LX [] calJ7_fill_53178 [] 0 Rt iJ7_fill_53178 cutJ7_fill_53178 K 400 0 [some (.inr 13), some (.inl v1), none, none] [] M = (K 5 [some (.inr 13), some (.inl v1), some (.inl (0 : Int)), some (.inl (10 : Int))] [] M) := rfl
theorem vcJ7_fill_53178_5_13 (Rt : xR) (K : xG) (M : xM) (v1 v2 v3 : Int) : xw LX [] calJ7_fill_53178 [] 0 Rt iJ7_fill_53178 cutJ7_fill_53178 K 400 5 [some (.inr 13), some (.inl v1), some (.inl v2), some (.inl v3)] [] M = (rg v2 ∧ rg v3 ∧ (v3 ≤ v2 → Rt 0 M) ∧ (v2 < v3 → (0 ≤ v2 ∧ v2 < 10) ∧ K 5 [some (.inr 13), some (.inl v1), some (.inl (v2 + (1 : Int))), some (.inl v3)] [] (xup M 13 v2 v1))) := rfl
theorem vcJ7_fill_53178_0_14 (Rt : xR) (K : xG) (M : xM) (v1 : Int) : xw LX [] calJ7_fill_53178 [] 0 Rt iJ7_fill_53178 cutJ7_fill_53178 K 400 0 [some (.inr 14), some (.inl v1), none, none] [] M = (K 5 [some (.inr 14), some (.inl v1), some (.inl (0 : Int)), some (.inl (10 : Int))] [] M) := rfl
theorem vcJ7_fill_53178_5_14 (Rt : xR) (K : xG) (M : xM) (v1 v2 v3 : Int) : xw LX [] calJ7_fill_53178 [] 0 Rt iJ7_fill_53178 cutJ7_fill_53178 K 400 5 [some (.inr 14), some (.inl v1), some (.inl v2), some (.inl v3)] [] M = (rg v2 ∧ rg v3 ∧ (v3 ≤ v2 → Rt 0 M) ∧ (v2 < v3 → (0 ≤ v2 ∧ v2 < 10) ∧ K 5 [some (.inr 14), some (.inl v1), some (.inl (v2 + (1 : Int))), some (.inl v3)] [] (xup M 14 v2 v1))) := rfl
theorem vcJ7_fill_53178_0_15 (Rt : xR) (K : xG) (M : xM) (v1 : Int) : xw LX [] calJ7_fill_53178 [] 0 Rt iJ7_fill_53178 cutJ7_fill_53178 K 400 0 [some (.inr 15), some (.inl v1), none, none] [] M = (K 5 [some (.inr 15), some (.inl v1), some (.inl (0 : Int)), some (.inl (396 : Int))] [] M) := rfl
theorem vcJ7_fill_53178_5_15 (Rt : xR) (K : xG) (M : xM) (v1 v2 v3 : Int) : xw LX [] calJ7_fill_53178 [] 0 Rt iJ7_fill_53178 cutJ7_fill_53178 K 400 5 [some (.inr 15), some (.inl v1), some (.inl v2), some (.inl v3)] [] M = (rg v2 ∧ rg v3 ∧ (v3 ≤ v2 → Rt 0 M) ∧ (v2 < v3 → (0 ≤ v2 ∧ v2 < 396) ∧ K 5 [some (.inr 15), some (.inl v1), some (.inl (v2 + (1 : Int))), some (.inl v3)] [] (xup M 15 v2 v1))) := rfl
end
section
def calX6_in : xCal := []
def cutX6_in : Nat → Bool := fun pc => false
set_option maxRecDepth 100000 in
set_option maxHeartbeats 4000000 in
theorem vcX6_in_0 (Rt : xR) (K : xG) (M : xM) (v0 v1 v2 : Int) : xw LM fldX6 calX6_in [] 2 Rt iX6_in cutX6_in K 400 0 [some (.inl v0), some (.inl v1), some (.inl v2)] [] M = (rg v0 ∧ rg v1 ∧ (v0 < v1 → ((0 : Int) = 0 ∨ (0 : Int) = 1) ∧ Rt (0 : Int) M) ∧ (v1 ≤ v0 → rg v0 ∧ rg v2 ∧ (v2 < v0 → ((0 : Int) = 0 ∨ (0 : Int) = 1) ∧ Rt (0 : Int) M) ∧ (v0 ≤ v2 → ((1 : Int) = 0 ∨ (1 : Int) = 1) ∧ Rt (1 : Int) M))) := rfl
def calX6_isName (t48 : xT) : xCal := [(48, true, 3, false, t48)]
def cutX6_isName : Nat → Bool := fun pc => false
set_option maxRecDepth 100000 in
set_option maxHeartbeats 4000000 in
theorem vcX6_isName_0 (Rt : xR) (K : xG) (t48 : xT) (M : xM) (v0 : Int) : xw LM fldX6 (calX6_isName t48) [] 2 Rt iX6_isName cutX6_isName K 400 0 [some (.inl v0)] [] M = (t48 [.inl v0, .inl (0 : Int), .inl (5 : Int)] M (fun r1 M1 => (r1 = 0 ∨ r1 = 1) ∧ Rt r1 M1)) := rfl
def calX6_silentOf : xCal := []
def cutX6_silentOf : Nat → Bool := fun pc => Nat.beq pc 4
set_option maxRecDepth 100000 in
set_option maxHeartbeats 4000000 in
theorem vcX6_silentOf_0 (Rt : xR) (K : xG) (M : xM) (v1 : Int) : xw LM fldX6 calX6_silentOf [] 1 Rt iX6_silentOf cutX6_silentOf K 400 0 [some (.inr 0), some (.inl v1), none, none] [] M = (K 4 [some (.inr 0), some (.inl v1), some (.inl (0 : Int)), some (.inl (0 : Int))] [] M) := rfl
set_option maxRecDepth 100000 in
set_option maxHeartbeats 4000000 in
theorem vcX6_silentOf_4 (Rt : xR) (K : xG) (M : xM) (v1 v2 v3 : Int) : xw LM fldX6 calX6_silentOf [] 1 Rt iX6_silentOf cutX6_silentOf K 400 4 [some (.inr 0), some (.inl v1), some (.inl v2), some (.inl v3)] [] M = ((0 ≤ v1 ∧ v1 < 6) ∧ rg v3 ∧ rg (M 1 v1) ∧ ((M 1 v1) ≤ v3 → Rt v2 M) ∧ (v3 < (M 1 v1) → (0 ≤ (((6 : Int) * v1) + v3) ∧ (((6 : Int) * v1) + v3) < 36) ∧ rg (M 2 (((6 : Int) * v1) + v3)) ∧ rg (-1 : Int) ∧ ((M 2 (((6 : Int) * v1) + v3)) ≠ (-1 : Int) → K 4 [some (.inr 0), some (.inl v1), some (.inl (v2 + (0 : Int))), some (.inl (v3 + (1 : Int)))] [] M) ∧ ((M 2 (((6 : Int) * v1) + v3)) = (-1 : Int) → K 4 [some (.inr 0), some (.inl v1), some (.inl (v2 + (1 : Int))), some (.inl (v3 + (1 : Int)))] [] M))) := rfl
def calX6_silentMany (t56 : xT) : xCal := [(56, false, 2, false, t56)]
def cutX6_silentMany : Nat → Bool := fun pc => Nat.beq pc 4
set_option maxRecDepth 100000 in
set_option maxHeartbeats 4000000 in
theorem vcX6_silentMany_0 (Rt : xR) (K : xG) (t56 : xT) (M : xM) : xw LM fldX6 (calX6_silentMany t56) [] 1 Rt iX6_silentMany cutX6_silentMany K 400 0 [some (.inr 0), none, none] [] M = (K 4 [some (.inr 0), some (.inl (0 : Int)), some (.inl (0 : Int))] [] M) := rfl
set_option maxRecDepth 100000 in
set_option maxHeartbeats 4000000 in
theorem vcX6_silentMany_4 (Rt : xR) (K : xG) (t56 : xT) (M : xM) (v1 v2 : Int) : xw LM fldX6 (calX6_silentMany t56) [] 1 Rt iX6_silentMany cutX6_silentMany K 400 4 [some (.inr 0), some (.inl v1), some (.inl v2)] [] M = (rg v2 ∧ rg (M 0 0) ∧ ((M 0 0) ≤ v2 → Rt v1 M) ∧ (v2 < (M 0 0) → t56 [.inr 0, .inl v2] M (fun r1 M1 => K 4 [some (.inr 0), some (.inl (v1 + r1)), some (.inl (v2 + (1 : Int)))] [] M1))) := rfl
def calX6_hop (t48 t60 : xT) : xCal := [(48, true, 3, false, t48), (60, false, 1, false, t60)]
def cutX6_hop : Nat → Bool := fun pc => Nat.beq pc 19
set_option maxRecDepth 100000 in
set_option maxHeartbeats 4000000 in
theorem vcX6_hop_0 (Rt : xR) (K : xG) (t48 t60 : xT) (M : xM) (v1 : Int) : xw LM fldX6 (calX6_hop t48 t60) [] 1 Rt iX6_hop cutX6_hop K 400 0 [some (.inr 0), some (.inl v1), none, none] [] M = (t48 [.inl v1, .inl (-1 : Int), .inl (5 : Int)] M (fun r1 M1 => rg r1 ∧ (r1 ≠ 0 → t60 [.inr 0] M1 (fun r2 M2 => K 19 [some (.inr 0), some (.inl v1), some (.inl r2), some (.inl (0 : Int))] [] M2)) ∧ (r1 = 0 → Rt (-2 : Int) M1))) := rfl
set_option maxRecDepth 100000 in
set_option maxHeartbeats 4000000 in
theorem vcX6_hop_19 (Rt : xR) (K : xG) (t48 t60 : xT) (M : xM) (v1 v2 v3 : Int) : xw LM fldX6 (calX6_hop t48 t60) [] 1 Rt iX6_hop cutX6_hop K 400 19 [some (.inr 0), some (.inl v1), some (.inl v2), some (.inl v3)] [] M = (rg v3 ∧ rg (M 0 3) ∧ ((M 0 3) ≤ v3 → rg (M 0 3) ∧ rg (6 : Int) ∧ ((M 0 3) = (6 : Int) → Rt (-5 : Int) M) ∧ ((M 0 3) ≠ (6 : Int) → rg v1 ∧ rg (-1 : Int) ∧ (v1 ≠ (-1 : Int) → (0 ≤ (M 0 3) ∧ (M 0 3) < 6) ∧ Rt ((xup (xup M 3 (M 0 3) v1) 0 3 (((xup M 3 (M 0 3) v1) 0 3) + (1 : Int))) 0 3) (xup (xup M 3 (M 0 3) v1) 0 3 (((xup M 3 (M 0 3) v1) 0 3) + (1 : Int)))) ∧ (v1 = (-1 : Int) → rg v2 ∧ rg (4 : Int) ∧ (v2 ≠ (4 : Int) → (0 ≤ (M 0 3) ∧ (M 0 3) < 6) ∧ Rt ((xup (xup M 3 (M 0 3) v1) 0 3 (((xup M 3 (M 0 3) v1) 0 3) + (1 : Int))) 0 3) (xup (xup M 3 (M 0 3) v1) 0 3 (((xup M 3 (M 0 3) v1) 0 3) + (1 : Int)))) ∧ (v2 = (4 : Int) → Rt (-5 : Int) M)))) ∧ (v3 < (M 0 3) → rg v1 ∧ rg (-1 : Int) ∧ (v1 = (-1 : Int) → (0 ≤ v3 ∧ v3 < 6) ∧ rg (M 3 v3) ∧ rg (-1 : Int) ∧ ((M 3 v3) ≠ (-1 : Int) → K 19 [some (.inr 0), some (.inl v1), some (.inl (v2 + (0 : Int))), some (.inl (v3 + (1 : Int)))] [] M) ∧ ((M 3 v3) = (-1 : Int) → K 19 [some (.inr 0), some (.inl v1), some (.inl (v2 + (1 : Int))), some (.inl (v3 + (1 : Int)))] [] M)) ∧ (v1 ≠ (-1 : Int) → (0 ≤ v3 ∧ v3 < 6) ∧ rg (M 3 v3) ∧ rg v1 ∧ ((M 3 v3) ≠ v1 → (0 ≤ v3 ∧ v3 < 6) ∧ rg (M 3 v3) ∧ rg (-1 : Int) ∧ ((M 3 v3) ≠ (-1 : Int) → K 19 [some (.inr 0), some (.inl v1), some (.inl (v2 + (0 : Int))), some (.inl (v3 + (1 : Int)))] [] M) ∧ ((M 3 v3) = (-1 : Int) → K 19 [some (.inr 0), some (.inl v1), some (.inl (v2 + (1 : Int))), some (.inl (v3 + (1 : Int)))] [] M)) ∧ ((M 3 v3) = v1 → Rt (-3 : Int) M)))) := rfl
def calX6_drop : xCal := []
def cutX6_drop : Nat → Bool := fun pc => false
set_option maxRecDepth 100000 in
set_option maxHeartbeats 4000000 in
theorem vcX6_drop_0 (Rt : xR) (K : xG) (M : xM) : xw LM fldX6 calX6_drop [] 1 Rt iX6_drop cutX6_drop K 400 0 [some (.inr 0), none] [] M = (Rt (M 0 3) (xup M 0 3 (0 : Int))) := rfl
def calX6_trace : xCal := []
def cutX6_trace : Nat → Bool := fun pc => Nat.beq pc 50
set_option maxRecDepth 100000 in
set_option maxHeartbeats 4000000 in
theorem vcX6_trace_0 (Rt : xR) (K : xG) (M : xM) : xw LM fldX6 calX6_trace [] 1 Rt iX6_trace cutX6_trace K 400 0 [some (.inr 0), none] [] M = (rg (M 0 0) ∧ rg (6 : Int) ∧ ((M 0 0) ≠ (6 : Int) → rg (M 0 3) ∧ rg (2 : Int) ∧ ((M 0 3) < (2 : Int) → Rt (-6 : Int) M) ∧ ((2 : Int) ≤ (M 0 3) → (0 ≤ (0 : Int) ∧ (0 : Int) < 6) ∧ rg (M 3 (0 : Int)) ∧ rg (-1 : Int) ∧ ((M 3 (0 : Int)) = (-1 : Int) → Rt (-6 : Int) M) ∧ ((M 3 (0 : Int)) ≠ (-1 : Int) → (0 ≤ ((M 0 3) - (1 : Int)) ∧ ((M 0 3) - (1 : Int)) < 6) ∧ rg (M 3 ((M 0 3) - (1 : Int))) ∧ rg (-1 : Int) ∧ ((M 3 ((M 0 3) - (1 : Int))) ≠ (-1 : Int) → K 50 [some (.inr 0), some (.inl (0 : Int))] [] M) ∧ ((M 3 ((M 0 3) - (1 : Int))) = (-1 : Int) → Rt (-6 : Int) M)))) ∧ ((M 0 0) = (6 : Int) → Rt (-5 : Int) M)) := rfl
set_option maxRecDepth 100000 in
set_option maxHeartbeats 4000000 in
theorem vcX6_trace_50 (Rt : xR) (K : xG) (M : xM) (v1 : Int) : xw LM fldX6 calX6_trace [] 1 Rt iX6_trace cutX6_trace K 400 50 [some (.inr 0), some (.inl v1)] [] M = (rg v1 ∧ rg (M 0 3) ∧ ((M 0 3) ≤ v1 → (0 ≤ (M 0 0) ∧ (M 0 0) < 6) ∧ Rt (((xup (xup (xup M 1 (M 0 0) (M 0 3)) 0 3 (0 : Int)) 0 0 (((xup (xup M 1 (M 0 0) (M 0 3)) 0 3 (0 : Int)) 0 0) + (1 : Int))) 0 0) - (1 : Int)) (xup (xup (xup M 1 (M 0 0) (M 0 3)) 0 3 (0 : Int)) 0 0 (((xup (xup M 1 (M 0 0) (M 0 3)) 0 3 (0 : Int)) 0 0) + (1 : Int)))) ∧ (v1 < (M 0 3) → (0 ≤ v1 ∧ v1 < 6) ∧ (0 ≤ (((6 : Int) * (M 0 0)) + v1) ∧ (((6 : Int) * (M 0 0)) + v1) < 36) ∧ K 50 [some (.inr 0), some (.inl (v1 + (1 : Int)))] [] (xup M 2 (((6 : Int) * (M 0 0)) + v1) (M 3 v1)))) := rfl
def calX6_forget (t48 : xT) : xCal := [(48, true, 3, false, t48)]
def cutX6_forget : Nat → Bool := fun pc => Nat.beq pc 29 || Nat.beq pc 53
set_option maxRecDepth 100000 in
set_option maxHeartbeats 4000000 in
theorem vcX6_forget_0 (Rt : xR) (K : xG) (t48 : xT) (M : xM) (v1 : Int) : xw LM fldX6 (calX6_forget t48) [] 1 Rt iX6_forget cutX6_forget K 400 0 [some (.inr 0), some (.inl v1), none, none] [] M = (t48 [.inl v1, .inl (0 : Int), .inl ((M 0 0) - (1 : Int))] M (fun r1 M1 => rg r1 ∧ (r1 ≠ 0 → K 29 [some (.inr 0), some (.inl v1), some (.inl v1), none] [] (xup M1 0 0 ((M1 0 0) - (1 : Int)))) ∧ (r1 = 0 → Rt (-2 : Int) M1))) := rfl
set_option maxRecDepth 100000 in
set_option maxHeartbeats 4000000 in
theorem vcX6_forget_29 (Rt : xR) (K : xG) (t48 : xT) (M : xM) (v1 v2 : Int) (o3 : Option xV) : xw LM fldX6 (calX6_forget t48) [] 1 Rt iX6_forget cutX6_forget K 400 29 [some (.inr 0), some (.inl v1), some (.inl v2), o3] [] M = (rg v2 ∧ rg (M 0 0) ∧ ((M 0 0) ≤ v2 → Rt (M 0 0) M) ∧ (v2 < (M 0 0) → (0 ≤ (v2 + (1 : Int)) ∧ (v2 + (1 : Int)) < 6) ∧ (0 ≤ v2 ∧ v2 < 6) ∧ K 53 [some (.inr 0), some (.inl v1), some (.inl v2), some (.inl (0 : Int))] [] (xup M 1 v2 (M 1 (v2 + (1 : Int)))))) := rfl
set_option maxRecDepth 100000 in
set_option maxHeartbeats 4000000 in
theorem vcX6_forget_53 (Rt : xR) (K : xG) (t48 : xT) (M : xM) (v1 v2 v3 : Int) : xw LM fldX6 (calX6_forget t48) [] 1 Rt iX6_forget cutX6_forget K 400 53 [some (.inr 0), some (.inl v1), some (.inl v2), some (.inl v3)] [] M = (rg v3 ∧ rg (6 : Int) ∧ ((6 : Int) ≤ v3 → K 29 [some (.inr 0), some (.inl v1), some (.inl (v2 + (1 : Int))), some (.inl v3)] [] M) ∧ (v3 < (6 : Int) → (0 ≤ (((6 : Int) * (v2 + (1 : Int))) + v3) ∧ (((6 : Int) * (v2 + (1 : Int))) + v3) < 36) ∧ (0 ≤ (((6 : Int) * v2) + v3) ∧ (((6 : Int) * v2) + v3) < 36) ∧ K 53 [some (.inr 0), some (.inl v1), some (.inl v2), some (.inl (v3 + (1 : Int)))] [] (xup M 2 (((6 : Int) * v2) + v3) (M 2 (((6 : Int) * (v2 + (1 : Int))) + v3))))) := rfl
def calX6_tell (t67 : xT) : xCal := [(67, true, 1, false, t67)]
def cutX6_tell : Nat → Bool := fun pc => Nat.beq pc 90 || Nat.beq pc 104 || Nat.beq pc 224
set_option maxRecDepth 100000 in
set_option maxHeartbeats 4000000 in
theorem vcX6_tell_0 (Rt : xR) (K : xG) (t67 : xT) (M : xM) (v1 v2 v3 : Int) : xw LM fldX6 (calX6_tell t67) [] 1 Rt iX6_tell cutX6_tell K 400 0 [some (.inr 0), some (.inl v1), some (.inl v2), some (.inl v3), none, none, none, none] [] M = (t67 [.inl v1] M (fun r1 M1 => rg r1 ∧ (r1 = 0 → Rt (-2 : Int) M1) ∧ (r1 ≠ 0 → t67 [.inl v2] M1 (fun r2 M2 => rg r2 ∧ (r2 = 0 → Rt (-2 : Int) M2) ∧ (r2 ≠ 0 → rg v1 ∧ rg v2 ∧ (v1 ≠ v2 → rg v3 ∧ (v3 = 0 → (0 ≤ (((6 : Int) * v1) + v2) ∧ (((6 : Int) * v1) + v2) < 36) ∧ rg (M2 5 (((6 : Int) * v1) + v2)) ∧ ((M2 5 (((6 : Int) * v1) + v2)) = 0 → rg v3 ∧ (v3 ≠ 0 → K 90 [some (.inr 0), some (.inl v1), some (.inl v2), some (.inl v3), some (.inl (0 : Int)), some (.inl (0 : Int)), none, none] [] M2) ∧ (v3 = 0 → (0 ≤ v1 ∧ v1 < 6) ∧ (0 ≤ v2 ∧ v2 < 6) ∧ rg (M2 4 v1) ∧ rg (M2 4 v2) ∧ ((M2 4 v1) ≠ (M2 4 v2) → K 90 [some (.inr 0), some (.inl v1), some (.inl v2), some (.inl v3), some (.inl (0 : Int)), some (.inl (0 : Int)), none, none] [] M2) ∧ ((M2 4 v1) = (M2 4 v2) → K 90 [some (.inr 0), some (.inl v1), some (.inl v2), some (.inl v3), some (.inl (1 : Int)), some (.inl (0 : Int)), none, none] [] M2))) ∧ ((M2 5 (((6 : Int) * v1) + v2)) ≠ 0 → Rt (-3 : Int) M2)) ∧ (v3 ≠ 0 → (0 ≤ v1 ∧ v1 < 6) ∧ (0 ≤ v2 ∧ v2 < 6) ∧ rg (M2 4 v1) ∧ rg (M2 4 v2) ∧ ((M2 4 v1) ≠ (M2 4 v2) → rg v3 ∧ (v3 ≠ 0 → K 90 [some (.inr 0), some (.inl v1), some (.inl v2), some (.inl v3), some (.inl (0 : Int)), some (.inl (0 : Int)), none, none] [] M2) ∧ (v3 = 0 → (0 ≤ v1 ∧ v1 < 6) ∧ (0 ≤ v2 ∧ v2 < 6) ∧ rg (M2 4 v1) ∧ rg (M2 4 v2) ∧ ((M2 4 v1) ≠ (M2 4 v2) → K 90 [some (.inr 0), some (.inl v1), some (.inl v2), some (.inl v3), some (.inl (0 : Int)), some (.inl (0 : Int)), none, none] [] M2) ∧ ((M2 4 v1) = (M2 4 v2) → K 90 [some (.inr 0), some (.inl v1), some (.inl v2), some (.inl v3), some (.inl (1 : Int)), some (.inl (0 : Int)), none, none] [] M2))) ∧ ((M2 4 v1) = (M2 4 v2) → Rt (-3 : Int) M2))) ∧ (v1 = v2 → Rt (-2 : Int) M2)))))) := rfl
set_option maxRecDepth 100000 in
set_option maxHeartbeats 4000000 in
theorem vcX6_tell_90 (Rt : xR) (K : xG) (t67 : xT) (M : xM) (v1 v2 v3 v4 v5 : Int) (o6 o7 : Option xV) : xw LM fldX6 (calX6_tell t67) [] 1 Rt iX6_tell cutX6_tell K 400 90 [some (.inr 0), some (.inl v1), some (.inl v2), some (.inl v3), some (.inl v4), some (.inl v5), o6, o7] [] M = (rg v5 ∧ rg (6 : Int) ∧ ((6 : Int) ≤ v5 → rg v4 ∧ (v4 = 0 → rg v3 ∧ (v3 = 0 → (0 ≤ (((6 : Int) * v1) + v2) ∧ (((6 : Int) * v1) + v2) < 36) ∧ ((1 : Int) = 0 ∨ (1 : Int) = 1) ∧ (0 ≤ (((6 : Int) * v2) + v1) ∧ (((6 : Int) * v2) + v1) < 36) ∧ ((1 : Int) = 0 ∨ (1 : Int) = 1) ∧ Rt (1 : Int) (xup (xup (xup M 0 7 ((M 0 7) + (1 : Int))) 5 (((6 : Int) * v1) + v2) (1 : Int)) 5 (((6 : Int) * v2) + v1) (1 : Int))) ∧ (v3 ≠ 0 → (0 ≤ v1 ∧ v1 < 6) ∧ (0 ≤ v2 ∧ v2 < 6) ∧ K 224 [some (.inr 0), some (.inl v1), some (.inl v2), some (.inl v3), some (.inl v4), some (.inl ((xup M 0 7 ((M 0 7) + (1 : Int))) 4 v1)), some (.inl ((xup M 0 7 ((M 0 7) + (1 : Int))) 4 v2)), some (.inl (0 : Int))] [] (xup M 0 7 ((M 0 7) + (1 : Int))))) ∧ (v4 ≠ 0 → Rt (-4 : Int) M)) ∧ (v5 < (6 : Int) → rg v3 ∧ (v3 = 0 → rg v4 ∧ (v4 = 0 → rg v3 ∧ (v3 = 0 → (0 ≤ (((6 : Int) * v1) + v2) ∧ (((6 : Int) * v1) + v2) < 36) ∧ ((1 : Int) = 0 ∨ (1 : Int) = 1) ∧ (0 ≤ (((6 : Int) * v2) + v1) ∧ (((6 : Int) * v2) + v1) < 36) ∧ ((1 : Int) = 0 ∨ (1 : Int) = 1) ∧ Rt (1 : Int) (xup (xup (xup M 0 7 ((M 0 7) + (1 : Int))) 5 (((6 : Int) * v1) + v2) (1 : Int)) 5 (((6 : Int) * v2) + v1) (1 : Int))) ∧ (v3 ≠ 0 → (0 ≤ v1 ∧ v1 < 6) ∧ (0 ≤ v2 ∧ v2 < 6) ∧ K 224 [some (.inr 0), some (.inl v1), some (.inl v2), some (.inl v3), some (.inl v4), some (.inl ((xup M 0 7 ((M 0 7) + (1 : Int))) 4 v1)), some (.inl ((xup M 0 7 ((M 0 7) + (1 : Int))) 4 v2)), some (.inl (0 : Int))] [] (xup M 0 7 ((M 0 7) + (1 : Int))))) ∧ (v4 ≠ 0 → Rt (-4 : Int) M)) ∧ (v3 ≠ 0 → K 104 [some (.inr 0), some (.inl v1), some (.inl v2), some (.inl v3), some (.inl v4), some (.inl v5), some (.inl (0 : Int)), o7] [] M))) := rfl
set_option maxRecDepth 100000 in
set_option maxHeartbeats 4000000 in
theorem vcX6_tell_104 (Rt : xR) (K : xG) (t67 : xT) (M : xM) (v1 v2 v3 v4 v5 v6 : Int) (o7 : Option xV) : xw LM fldX6 (calX6_tell t67) [] 1 Rt iX6_tell cutX6_tell K 400 104 [some (.inr 0), some (.inl v1), some (.inl v2), some (.inl v3), some (.inl v4), some (.inl v5), some (.inl v6), o7] [] M = (rg v6 ∧ rg (6 : Int) ∧ ((6 : Int) ≤ v6 → K 90 [some (.inr 0), some (.inl v1), some (.inl v2), some (.inl v3), some (.inl v4), some (.inl (v5 + (1 : Int))), some (.inl v6), o7] [] M) ∧ (v6 < (6 : Int) → rg v4 ∧ (v4 ≠ 0 → K 104 [some (.inr 0), some (.inl v1), some (.inl v2), some (.inl v3), some (.inl (1 : Int)), some (.inl v5), some (.inl (v6 + (1 : Int))), o7] [] M) ∧ (v4 = 0 → (0 ≤ v5 ∧ v5 < 6) ∧ (0 ≤ v1 ∧ v1 < 6) ∧ rg (M 4 v5) ∧ rg (M 4 v1) ∧ ((M 4 v5) ≠ (M 4 v1) → K 104 [some (.inr 0), some (.inl v1), some (.inl v2), some (.inl v3), some (.inl (0 : Int)), some (.inl v5), some (.inl (v6 + (1 : Int))), o7] [] M) ∧ ((M 4 v5) = (M 4 v1) → (0 ≤ v6 ∧ v6 < 6) ∧ (0 ≤ v2 ∧ v2 < 6) ∧ rg (M 4 v6) ∧ rg (M 4 v2) ∧ ((M 4 v6) ≠ (M 4 v2) → K 104 [some (.inr 0), some (.inl v1), some (.inl v2), some (.inl v3), some (.inl (0 : Int)), some (.inl v5), some (.inl (v6 + (1 : Int))), o7] [] M) ∧ ((M 4 v6) = (M 4 v2) → (0 ≤ (((6 : Int) * v5) + v6) ∧ (((6 : Int) * v5) + v6) < 36) ∧ rg (M 5 (((6 : Int) * v5) + v6)) ∧ ((M 5 (((6 : Int) * v5) + v6)) = 0 → K 104 [some (.inr 0), some (.inl v1), some (.inl v2), some (.inl v3), some (.inl (0 : Int)), some (.inl v5), some (.inl (v6 + (1 : Int))), o7] [] M) ∧ ((M 5 (((6 : Int) * v5) + v6)) ≠ 0 → K 104 [some (.inr 0), some (.inl v1), some (.inl v2), some (.inl v3), some (.inl (1 : Int)), some (.inl v5), some (.inl (v6 + (1 : Int))), o7] [] M)))))) := rfl
set_option maxRecDepth 100000 in
set_option maxHeartbeats 4000000 in
theorem vcX6_tell_224 (Rt : xR) (K : xG) (t67 : xT) (M : xM) (v1 v2 v3 v4 v5 v6 v7 : Int) : xw LM fldX6 (calX6_tell t67) [] 1 Rt iX6_tell cutX6_tell K 400 224 [some (.inr 0), some (.inl v1), some (.inl v2), some (.inl v3), some (.inl v4), some (.inl v5), some (.inl v6), some (.inl v7)] [] M = (rg v7 ∧ rg (6 : Int) ∧ ((6 : Int) ≤ v7 → Rt (1 : Int) M) ∧ (v7 < (6 : Int) → (0 ≤ v7 ∧ v7 < 6) ∧ rg (M 4 v7) ∧ rg v5 ∧ ((M 4 v7) = v5 → rg v5 ∧ rg v6 ∧ (v6 ≤ v5 → (0 ≤ v7 ∧ v7 < 6) ∧ K 224 [some (.inr 0), some (.inl v1), some (.inl v2), some (.inl v3), some (.inl v4), some (.inl v5), some (.inl v6), some (.inl (v7 + (1 : Int)))] [] (xup M 4 v7 v6)) ∧ (v5 < v6 → (0 ≤ v7 ∧ v7 < 6) ∧ K 224 [some (.inr 0), some (.inl v1), some (.inl v2), some (.inl v3), some (.inl v4), some (.inl v5), some (.inl v6), some (.inl (v7 + (1 : Int)))] [] (xup M 4 v7 v5))) ∧ ((M 4 v7) ≠ v5 → (0 ≤ v7 ∧ v7 < 6) ∧ rg (M 4 v7) ∧ rg v6 ∧ ((M 4 v7) ≠ v6 → (0 ≤ v7 ∧ v7 < 6) ∧ (0 ≤ v7 ∧ v7 < 6) ∧ K 224 [some (.inr 0), some (.inl v1), some (.inl v2), some (.inl v3), some (.inl v4), some (.inl v5), some (.inl v6), some (.inl (v7 + (1 : Int)))] [] (xup M 4 v7 (M 4 v7))) ∧ ((M 4 v7) = v6 → rg v5 ∧ rg v6 ∧ (v6 ≤ v5 → (0 ≤ v7 ∧ v7 < 6) ∧ K 224 [some (.inr 0), some (.inl v1), some (.inl v2), some (.inl v3), some (.inl v4), some (.inl v5), some (.inl v6), some (.inl (v7 + (1 : Int)))] [] (xup M 4 v7 v6)) ∧ (v5 < v6 → (0 ≤ v7 ∧ v7 < 6) ∧ K 224 [some (.inr 0), some (.inl v1), some (.inl v2), some (.inl v3), some (.inl v4), some (.inl v5), some (.inl v6), some (.inl (v7 + (1 : Int)))] [] (xup M 4 v7 v5)))))) := rfl
def calX6_untell : xCal := []
def cutX6_untell : Nat → Bool := fun pc => Nat.beq pc 12 || Nat.beq pc 33
set_option maxRecDepth 100000 in
set_option maxHeartbeats 4000000 in
theorem vcX6_untell_0 (Rt : xR) (K : xG) (M : xM) : xw LM fldX6 calX6_untell [] 1 Rt iX6_untell cutX6_untell K 400 0 [some (.inr 0), none, none] [] M = (K 12 [some (.inr 0), some (.inl (M 0 7)), some (.inl (0 : Int))] [] (xup M 0 7 (0 : Int))) := rfl
set_option maxRecDepth 100000 in
set_option maxHeartbeats 4000000 in
theorem vcX6_untell_12 (Rt : xR) (K : xG) (M : xM) (v1 v2 : Int) : xw LM fldX6 calX6_untell [] 1 Rt iX6_untell cutX6_untell K 400 12 [some (.inr 0), some (.inl v1), some (.inl v2)] [] M = (rg v2 ∧ rg (6 : Int) ∧ ((6 : Int) ≤ v2 → K 33 [some (.inr 0), some (.inl v1), some (.inl (0 : Int))] [] M) ∧ (v2 < (6 : Int) → (0 ≤ v2 ∧ v2 < 6) ∧ K 12 [some (.inr 0), some (.inl v1), some (.inl (v2 + (1 : Int)))] [] (xup M 4 v2 v2))) := rfl
set_option maxRecDepth 100000 in
set_option maxHeartbeats 4000000 in
theorem vcX6_untell_33 (Rt : xR) (K : xG) (M : xM) (v1 v2 : Int) : xw LM fldX6 calX6_untell [] 1 Rt iX6_untell cutX6_untell K 400 33 [some (.inr 0), some (.inl v1), some (.inl v2)] [] M = (rg v2 ∧ rg (36 : Int) ∧ ((36 : Int) ≤ v2 → Rt v1 M) ∧ (v2 < (36 : Int) → (0 ≤ v2 ∧ v2 < 36) ∧ ((0 : Int) = 0 ∨ (0 : Int) = 1) ∧ K 33 [some (.inr 0), some (.inl v1), some (.inl (v2 + (1 : Int)))] [] (xup M 5 v2 (0 : Int)))) := rfl
def calX6_at (t48 : xT) : xCal := [(48, true, 3, false, t48)]
def cutX6_at : Nat → Bool := fun pc => false
set_option maxRecDepth 100000 in
set_option maxHeartbeats 4000000 in
theorem vcX6_at_0 (Rt : xR) (K : xG) (t48 : xT) (M : xM) (v1 v2 : Int) : xw LM fldX6 (calX6_at t48) [] 1 Rt iX6_at cutX6_at K 400 0 [some (.inr 0), some (.inl v1), some (.inl v2)] [] M = (t48 [.inl v1, .inl (0 : Int), .inl ((M 0 0) - (1 : Int))] M (fun r1 M1 => rg r1 ∧ (r1 = 0 → Rt (-2 : Int) M1) ∧ (r1 ≠ 0 → (0 ≤ v1 ∧ v1 < 6) ∧ t48 [.inl v2, .inl (0 : Int), .inl ((M1 1 v1) - (1 : Int))] M1 (fun r2 M2 => rg r2 ∧ (r2 = 0 → Rt (-2 : Int) M2) ∧ (r2 ≠ 0 → (0 ≤ (((6 : Int) * v1) + v2) ∧ (((6 : Int) * v1) + v2) < 36) ∧ Rt (M2 2 (((6 : Int) * v1) + v2)) M2))))) := rfl
def calX6_isThere : xCal := []
def cutX6_isThere : Nat → Bool := fun pc => Nat.beq pc 5 || Nat.beq pc 17
set_option maxRecDepth 100000 in
set_option maxHeartbeats 4000000 in
theorem vcX6_isThere_0 (Rt : xR) (K : xG) (M : xM) (v1 v2 : Int) : xw LM fldX6 calX6_isThere [] 2 Rt iX6_isThere cutX6_isThere K 400 0 [some (.inr 0), some (.inl v1), some (.inl v2), none, none, none] [] M = (K 5 [some (.inr 0), some (.inl v1), some (.inl v2), some (.inl (0 : Int)), some (.inl (0 : Int)), none] [] M) := rfl
set_option maxRecDepth 100000 in
set_option maxHeartbeats 4000000 in
theorem vcX6_isThere_5 (Rt : xR) (K : xG) (M : xM) (v1 v2 v3 v4 : Int) (o5 : Option xV) : xw LM fldX6 calX6_isThere [] 2 Rt iX6_isThere cutX6_isThere K 400 5 [some (.inr 0), some (.inl v1), some (.inl v2), some (.inl v3), some (.inl v4), o5] [] M = (rg v4 ∧ rg (M 0 0) ∧ ((M 0 0) ≤ v4 → (v3 = 0 ∨ v3 = 1) ∧ Rt v3 M) ∧ (v4 < (M 0 0) → K 17 [some (.inr 0), some (.inl v1), some (.inl v2), some (.inl v3), some (.inl v4), some (.inl (0 : Int))] [] M)) := rfl
set_option maxRecDepth 100000 in
set_option maxHeartbeats 4000000 in
theorem vcX6_isThere_17 (Rt : xR) (K : xG) (M : xM) (v1 v2 v3 v4 v5 : Int) : xw LM fldX6 calX6_isThere [] 2 Rt iX6_isThere cutX6_isThere K 400 17 [some (.inr 0), some (.inl v1), some (.inl v2), some (.inl v3), some (.inl v4), some (.inl v5)] [] M = ((0 ≤ v4 ∧ v4 < 6) ∧ rg v5 ∧ rg (M 1 v4) ∧ ((M 1 v4) ≤ v5 → K 5 [some (.inr 0), some (.inl v1), some (.inl v2), some (.inl v3), some (.inl (v4 + (1 : Int))), some (.inl v5)] [] M) ∧ (v5 < (M 1 v4) → rg (xi (xi v1 >>> (xi v4 &&& 31)).toInt &&& xi (1 : Int)).toInt ∧ rg (1 : Int) ∧ ((xi (xi v1 >>> (xi v4 &&& 31)).toInt &&& xi (1 : Int)).toInt ≠ (1 : Int) → K 5 [some (.inr 0), some (.inl v1), some (.inl v2), some (.inl v3), some (.inl (v4 + (1 : Int))), some (.inl v5)] [] M) ∧ ((xi (xi v1 >>> (xi v4 &&& 31)).toInt &&& xi (1 : Int)).toInt = (1 : Int) → rg v3 ∧ (v3 ≠ 0 → K 17 [some (.inr 0), some (.inl v1), some (.inl v2), some (.inl (1 : Int)), some (.inl v4), some (.inl (v5 + (1 : Int)))] [] M) ∧ (v3 = 0 → (0 ≤ (((6 : Int) * v4) + v5) ∧ (((6 : Int) * v4) + v5) < 36) ∧ rg (M 2 (((6 : Int) * v4) + v5)) ∧ rg v2 ∧ ((M 2 (((6 : Int) * v4) + v5)) ≠ v2 → K 17 [some (.inr 0), some (.inl v1), some (.inl v2), some (.inl (0 : Int)), some (.inl v4), some (.inl (v5 + (1 : Int)))] [] M) ∧ ((M 2 (((6 : Int) * v4) + v5)) = v2 → K 17 [some (.inr 0), some (.inl v1), some (.inl v2), some (.inl (1 : Int)), some (.inl v4), some (.inl (v5 + (1 : Int)))] [] M))))) := rfl
def calX6_isBoxThere (t74 : xT) : xCal := [(74, false, 3, false, t74)]
def cutX6_isBoxThere : Nat → Bool := fun pc => Nat.beq pc 5
set_option maxRecDepth 100000 in
set_option maxHeartbeats 4000000 in
theorem vcX6_isBoxThere_0 (Rt : xR) (K : xG) (t74 : xT) (M : xM) (v1 v2 : Int) : xw LM fldX6 (calX6_isBoxThere t74) [] 2 Rt iX6_isBoxThere cutX6_isBoxThere K 400 0 [some (.inr 0), some (.inl v1), some (.inl v2), none, none] [] M = (K 5 [some (.inr 0), some (.inl v1), some (.inl v2), some (.inl (0 : Int)), some (.inl (0 : Int))] [] M) := rfl
set_option maxRecDepth 100000 in
set_option maxHeartbeats 4000000 in
theorem vcX6_isBoxThere_5 (Rt : xR) (K : xG) (t74 : xT) (M : xM) (v1 v2 v3 v4 : Int) : xw LM fldX6 (calX6_isBoxThere t74) [] 2 Rt iX6_isBoxThere cutX6_isBoxThere K 400 5 [some (.inr 0), some (.inl v1), some (.inl v2), some (.inl v3), some (.inl v4)] [] M = (rg v4 ∧ rg (6 : Int) ∧ ((6 : Int) ≤ v4 → (v3 = 0 ∨ v3 = 1) ∧ Rt v3 M) ∧ (v4 < (6 : Int) → rg v3 ∧ (v3 ≠ 0 → K 5 [some (.inr 0), some (.inl v1), some (.inl v2), some (.inl (1 : Int)), some (.inl (v4 + (1 : Int)))] [] M) ∧ (v3 = 0 → (0 ≤ v4 ∧ v4 < 6) ∧ rg (M 4 v4) ∧ rg v2 ∧ ((M 4 v4) ≠ v2 → K 5 [some (.inr 0), some (.inl v1), some (.inl v2), some (.inl (0 : Int)), some (.inl (v4 + (1 : Int)))] [] M) ∧ ((M 4 v4) = v2 → t74 [.inr 0, .inl v1, .inl v4] M (fun r1 M1 => rg r1 ∧ (r1 = 0 → K 5 [some (.inr 0), some (.inl v1), some (.inl v2), some (.inl (0 : Int)), some (.inl (v4 + (1 : Int)))] [] M1) ∧ (r1 ≠ 0 → K 5 [some (.inr 0), some (.inl v1), some (.inl v2), some (.inl (1 : Int)), some (.inl (v4 + (1 : Int)))] [] M1)))))) := rfl
def calX6_boxMany (t78 : xT) : xCal := [(78, false, 3, false, t78)]
def cutX6_boxMany : Nat → Bool := fun pc => Nat.beq pc 4
set_option maxRecDepth 100000 in
set_option maxHeartbeats 4000000 in
theorem vcX6_boxMany_0 (Rt : xR) (K : xG) (t78 : xT) (M : xM) (v1 : Int) : xw LM fldX6 (calX6_boxMany t78) [] 1 Rt iX6_boxMany cutX6_boxMany K 400 0 [some (.inr 0), some (.inl v1), none, none] [] M = (K 4 [some (.inr 0), some (.inl v1), some (.inl (0 : Int)), some (.inl (0 : Int))] [] M) := rfl
set_option maxRecDepth 100000 in
set_option maxHeartbeats 4000000 in
theorem vcX6_boxMany_4 (Rt : xR) (K : xG) (t78 : xT) (M : xM) (v1 v2 v3 : Int) : xw LM fldX6 (calX6_boxMany t78) [] 1 Rt iX6_boxMany cutX6_boxMany K 400 4 [some (.inr 0), some (.inl v1), some (.inl v2), some (.inl v3)] [] M = (rg v3 ∧ rg (6 : Int) ∧ ((6 : Int) ≤ v3 → Rt v2 M) ∧ (v3 < (6 : Int) → t78 [.inr 0, .inl v1, .inl v3] M (fun r1 M1 => rg r1 ∧ (r1 = 0 → K 4 [some (.inr 0), some (.inl v1), some (.inl (v2 + (0 : Int))), some (.inl (v3 + (1 : Int)))] [] M1) ∧ (r1 ≠ 0 → K 4 [some (.inr 0), some (.inl v1), some (.inl (v2 + (1 : Int))), some (.inl (v3 + (1 : Int)))] [] M1)))) := rfl
def calX6_layPlaces : xCal := []
def cutX6_layPlaces : Nat → Bool := fun pc => Nat.beq pc 4 || Nat.beq pc 15
set_option maxRecDepth 100000 in
set_option maxHeartbeats 4000000 in
theorem vcX6_layPlaces_0 (Rt : xR) (K : xG) (M : xM) (v1 : Int) : xw LM fldX6 calX6_layPlaces [] 0 Rt iX6_layPlaces cutX6_layPlaces K 400 0 [some (.inr 0), some (.inl v1), none, none, none, none] [] M = (K 4 [some (.inr 0), some (.inl v1), some (.inl (0 : Int)), some (.inl (0 : Int)), none, none] [] M) := rfl
set_option maxRecDepth 100000 in
set_option maxHeartbeats 4000000 in
theorem vcX6_layPlaces_4 (Rt : xR) (K : xG) (M : xM) (v1 v2 v3 : Int) (o4 o5 : Option xV) : xw LM fldX6 calX6_layPlaces [] 0 Rt iX6_layPlaces cutX6_layPlaces K 400 4 [some (.inr 0), some (.inl v1), some (.inl v2), some (.inl v3), o4, o5] [] M = (rg v3 ∧ rg (M 0 0) ∧ ((M 0 0) ≤ v3 → Rt 0 M) ∧ (v3 < (M 0 0) → K 15 [some (.inr 0), some (.inl v1), some (.inl v2), some (.inl v3), some (.inl (0 : Int)), o5] [] M)) := rfl
set_option maxRecDepth 100000 in
set_option maxHeartbeats 4000000 in
theorem vcX6_layPlaces_15 (Rt : xR) (K : xG) (M : xM) (v1 v2 v3 v4 : Int) (o5 : Option xV) : xw LM fldX6 calX6_layPlaces [] 0 Rt iX6_layPlaces cutX6_layPlaces K 400 15 [some (.inr 0), some (.inl v1), some (.inl v2), some (.inl v3), some (.inl v4), o5] [] M = ((0 ≤ v3 ∧ v3 < 6) ∧ rg v4 ∧ rg (M 1 v3) ∧ ((M 1 v3) ≤ v4 → K 4 [some (.inr 0), some (.inl v1), some (.inl v2), some (.inl (v3 + (1 : Int))), some (.inl v4), o5] [] M) ∧ (v4 < (M 1 v3) → rg (xi (xi v1 >>> (xi v3 &&& 31)).toInt &&& xi (1 : Int)).toInt ∧ rg (1 : Int) ∧ ((xi (xi v1 >>> (xi v3 &&& 31)).toInt &&& xi (1 : Int)).toInt ≠ (1 : Int) → K 4 [some (.inr 0), some (.inl v1), some (.inl v2), some (.inl (v3 + (1 : Int))), some (.inl v4), o5] [] M) ∧ ((xi (xi v1 >>> (xi v3 &&& 31)).toInt &&& xi (1 : Int)).toInt = (1 : Int) → (0 ≤ (((6 : Int) * v3) + v4) ∧ (((6 : Int) * v3) + v4) < 36) ∧ rg (M 2 (((6 : Int) * v3) + v4)) ∧ rg (-1 : Int) ∧ ((M 2 (((6 : Int) * v3) + v4)) ≠ (-1 : Int) → (0 ≤ (M 2 (((6 : Int) * v3) + v4)) ∧ (M 2 (((6 : Int) * v3) + v4)) < 6) ∧ (0 ≤ (((6 : Int) * v3) + v4) ∧ (((6 : Int) * v3) + v4) < 36) ∧ rg (M 2 (((6 : Int) * v3) + v4)) ∧ rg (-1 : Int) ∧ ((M 2 (((6 : Int) * v3) + v4)) ≠ (-1 : Int) → K 15 [some (.inr 0), some (.inl v1), some (.inl (v2 + (0 : Int))), some (.inl v3), some (.inl (v4 + (1 : Int))), some (.inl (M 2 (((6 : Int) * v3) + v4)))] [] (xup M 7 (((6 : Int) * v3) + v4) (M 4 (M 2 (((6 : Int) * v3) + v4))))) ∧ ((M 2 (((6 : Int) * v3) + v4)) = (-1 : Int) → K 15 [some (.inr 0), some (.inl v1), some (.inl (v2 + (1 : Int))), some (.inl v3), some (.inl (v4 + (1 : Int))), some (.inl (M 2 (((6 : Int) * v3) + v4)))] [] (xup M 7 (((6 : Int) * v3) + v4) (M 4 (M 2 (((6 : Int) * v3) + v4)))))) ∧ ((M 2 (((6 : Int) * v3) + v4)) = (-1 : Int) → (0 ≤ v2 ∧ v2 < 4) ∧ (0 ≤ (((6 : Int) * v3) + v4) ∧ (((6 : Int) * v3) + v4) < 36) ∧ rg (M 2 (((6 : Int) * v3) + v4)) ∧ rg (-1 : Int) ∧ ((M 2 (((6 : Int) * v3) + v4)) ≠ (-1 : Int) → K 15 [some (.inr 0), some (.inl v1), some (.inl (v2 + (0 : Int))), some (.inl v3), some (.inl (v4 + (1 : Int))), some (.inl (M 2 (((6 : Int) * v3) + v4)))] [] (xup M 7 (((6 : Int) * v3) + v4) (M 6 v2))) ∧ ((M 2 (((6 : Int) * v3) + v4)) = (-1 : Int) → K 15 [some (.inr 0), some (.inl v1), some (.inl (v2 + (1 : Int))), some (.inl v3), some (.inl (v4 + (1 : Int))), some (.inl (M 2 (((6 : Int) * v3) + v4)))] [] (xup M 7 (((6 : Int) * v3) + v4) (M 6 v2))))))) := rfl
def calX6_layLines : xCal := []
def cutX6_layLines : Nat → Bool := fun pc => Nat.beq pc 2 || Nat.beq pc 23 || Nat.beq pc 33 || Nat.beq pc 122 || Nat.beq pc 172 || Nat.beq pc 180 || Nat.beq pc 189
set_option maxRecDepth 100000 in
set_option maxHeartbeats 4000000 in
theorem vcX6_layLines_0 (Rt : xR) (K : xG) (M : xM) (v1 : Int) : xw LM fldX6 calX6_layLines [] 0 Rt iX6_layLines cutX6_layLines K 400 0 [some (.inr 0), some (.inl v1), none, none, none, none] [] M = (K 2 [some (.inr 0), some (.inl v1), some (.inl (0 : Int)), none, none, none] [] M) := rfl
set_option maxRecDepth 100000 in
set_option maxHeartbeats 4000000 in
theorem vcX6_layLines_2 (Rt : xR) (K : xG) (M : xM) (v1 v2 : Int) (o3 o4 o5 : Option xV) : xw LM fldX6 calX6_layLines [] 0 Rt iX6_layLines cutX6_layLines K 400 2 [some (.inr 0), some (.inl v1), some (.inl v2), o3, o4, o5] [] M = (rg v2 ∧ rg (100 : Int) ∧ ((100 : Int) ≤ v2 → K 23 [some (.inr 0), some (.inl v1), some (.inl (0 : Int)), o3, o4, o5] [] M) ∧ (v2 < (100 : Int) → (0 ≤ v2 ∧ v2 < 100) ∧ ((0 : Int) = 0 ∨ (0 : Int) = 1) ∧ K 2 [some (.inr 0), some (.inl v1), some (.inl (v2 + (1 : Int))), o3, o4, o5] [] (xup M 8 v2 (0 : Int)))) := rfl
set_option maxRecDepth 100000 in
set_option maxHeartbeats 4000000 in
theorem vcX6_layLines_23 (Rt : xR) (K : xG) (M : xM) (v1 v2 : Int) (o3 o4 o5 : Option xV) : xw LM fldX6 calX6_layLines [] 0 Rt iX6_layLines cutX6_layLines K 400 23 [some (.inr 0), some (.inl v1), some (.inl v2), o3, o4, o5] [] M = (rg v2 ∧ rg (M 0 0) ∧ ((M 0 0) ≤ v2 → K 122 [some (.inr 0), some (.inl v1), some (.inl (0 : Int)), o3, o4, o5] [] M) ∧ (v2 < (M 0 0) → K 33 [some (.inr 0), some (.inl v1), some (.inl v2), some (.inl (1 : Int)), o4, o5] [] M)) := rfl
set_option maxRecDepth 100000 in
set_option maxHeartbeats 4000000 in
theorem vcX6_layLines_33 (Rt : xR) (K : xG) (M : xM) (v1 v2 v3 : Int) (o4 o5 : Option xV) : xw LM fldX6 calX6_layLines [] 0 Rt iX6_layLines cutX6_layLines K 400 33 [some (.inr 0), some (.inl v1), some (.inl v2), some (.inl v3), o4, o5] [] M = ((0 ≤ v2 ∧ v2 < 6) ∧ rg v3 ∧ rg (M 1 v2) ∧ ((M 1 v2) ≤ v3 → K 23 [some (.inr 0), some (.inl v1), some (.inl (v2 + (1 : Int))), some (.inl v3), o4, o5] [] M) ∧ (v3 < (M 1 v2) → rg (xi (xi v1 >>> (xi v2 &&& 31)).toInt &&& xi (1 : Int)).toInt ∧ rg (1 : Int) ∧ ((xi (xi v1 >>> (xi v2 &&& 31)).toInt &&& xi (1 : Int)).toInt ≠ (1 : Int) → K 23 [some (.inr 0), some (.inl v1), some (.inl (v2 + (1 : Int))), some (.inl v3), o4, o5] [] M) ∧ ((xi (xi v1 >>> (xi v2 &&& 31)).toInt &&& xi (1 : Int)).toInt = (1 : Int) → (0 ≤ ((((6 : Int) * v2) + v3) - (1 : Int)) ∧ ((((6 : Int) * v2) + v3) - (1 : Int)) < 36) ∧ (0 ≤ (((6 : Int) * v2) + v3) ∧ (((6 : Int) * v2) + v3) < 36) ∧ (0 ≤ (((10 : Int) * (M 7 ((((6 : Int) * v2) + v3) - (1 : Int)))) + (M 7 (((6 : Int) * v2) + v3))) ∧ (((10 : Int) * (M 7 ((((6 : Int) * v2) + v3) - (1 : Int)))) + (M 7 (((6 : Int) * v2) + v3))) < 100) ∧ ((1 : Int) = 0 ∨ (1 : Int) = 1) ∧ (0 ≤ (((10 : Int) * (M 7 (((6 : Int) * v2) + v3))) + (M 7 ((((6 : Int) * v2) + v3) - (1 : Int)))) ∧ (((10 : Int) * (M 7 (((6 : Int) * v2) + v3))) + (M 7 ((((6 : Int) * v2) + v3) - (1 : Int)))) < 100) ∧ ((1 : Int) = 0 ∨ (1 : Int) = 1) ∧ K 33 [some (.inr 0), some (.inl v1), some (.inl v2), some (.inl (v3 + (1 : Int))), some (.inl (M 7 ((((6 : Int) * v2) + v3) - (1 : Int)))), some (.inl (M 7 (((6 : Int) * v2) + v3)))] [] (xup (xup M 8 (((10 : Int) * (M 7 ((((6 : Int) * v2) + v3) - (1 : Int)))) + (M 7 (((6 : Int) * v2) + v3))) (1 : Int)) 8 (((10 : Int) * (M 7 (((6 : Int) * v2) + v3))) + (M 7 ((((6 : Int) * v2) + v3) - (1 : Int)))) (1 : Int))))) := rfl
set_option maxRecDepth 100000 in
set_option maxHeartbeats 4000000 in
theorem vcX6_layLines_122 (Rt : xR) (K : xG) (M : xM) (v1 v2 : Int) (o3 o4 o5 : Option xV) : xw LM fldX6 calX6_layLines [] 0 Rt iX6_layLines cutX6_layLines K 400 122 [some (.inr 0), some (.inl v1), some (.inl v2), o3, o4, o5] [] M = (rg v2 ∧ rg (100 : Int) ∧ ((100 : Int) ≤ v2 → K 172 [some (.inr 0), some (.inl v1), some (.inl (0 : Int)), o3, o4, o5] [] M) ∧ (v2 < (100 : Int) → (0 ≤ v2 ∧ v2 < 2147483648 ∧ 0 < (10 : Int) ∧ (10 : Int) < 2147483648) ∧ (0 ≤ v2 ∧ v2 < 2147483648 ∧ 0 < (10 : Int) ∧ (10 : Int) < 2147483648) ∧ rg (v2 / (10 : Int)) ∧ rg (v2 % (10 : Int)) ∧ ((v2 / (10 : Int)) ≠ (v2 % (10 : Int)) → (0 ≤ v2 ∧ v2 < 100) ∧ rg (M 8 v2) ∧ ((M 8 v2) = 0 → (0 ≤ v2 ∧ v2 < 100) ∧ K 122 [some (.inr 0), some (.inl v1), some (.inl (v2 + (1 : Int))), o3, o4, o5] [] (xup M 9 v2 (100 : Int))) ∧ ((M 8 v2) ≠ 0 → (0 ≤ v2 ∧ v2 < 100) ∧ K 122 [some (.inr 0), some (.inl v1), some (.inl (v2 + (1 : Int))), o3, o4, o5] [] (xup M 9 v2 (1 : Int)))) ∧ ((v2 / (10 : Int)) = (v2 % (10 : Int)) → (0 ≤ v2 ∧ v2 < 100) ∧ K 122 [some (.inr 0), some (.inl v1), some (.inl (v2 + (1 : Int))), o3, o4, o5] [] (xup M 9 v2 (0 : Int))))) := rfl
set_option maxRecDepth 100000 in
set_option maxHeartbeats 4000000 in
theorem vcX6_layLines_172 (Rt : xR) (K : xG) (M : xM) (v1 v2 : Int) (o3 o4 o5 : Option xV) : xw LM fldX6 calX6_layLines [] 0 Rt iX6_layLines cutX6_layLines K 400 172 [some (.inr 0), some (.inl v1), some (.inl v2), o3, o4, o5] [] M = (rg v2 ∧ rg (10 : Int) ∧ ((10 : Int) ≤ v2 → Rt 0 M) ∧ (v2 < (10 : Int) → K 180 [some (.inr 0), some (.inl v1), some (.inl v2), some (.inl (0 : Int)), o4, o5] [] M)) := rfl
set_option maxRecDepth 100000 in
set_option maxHeartbeats 4000000 in
theorem vcX6_layLines_180 (Rt : xR) (K : xG) (M : xM) (v1 v2 v3 : Int) (o4 o5 : Option xV) : xw LM fldX6 calX6_layLines [] 0 Rt iX6_layLines cutX6_layLines K 400 180 [some (.inr 0), some (.inl v1), some (.inl v2), some (.inl v3), o4, o5] [] M = (rg v3 ∧ rg (10 : Int) ∧ ((10 : Int) ≤ v3 → K 172 [some (.inr 0), some (.inl v1), some (.inl (v2 + (1 : Int))), some (.inl v3), o4, o5] [] M) ∧ (v3 < (10 : Int) → K 189 [some (.inr 0), some (.inl v1), some (.inl v2), some (.inl v3), some (.inl (0 : Int)), o5] [] M)) := rfl
set_option maxRecDepth 100000 in
set_option maxHeartbeats 4000000 in
theorem vcX6_layLines_189 (Rt : xR) (K : xG) (M : xM) (v1 v2 v3 v4 : Int) (o5 : Option xV) : xw LM fldX6 calX6_layLines [] 0 Rt iX6_layLines cutX6_layLines K 400 189 [some (.inr 0), some (.inl v1), some (.inl v2), some (.inl v3), some (.inl v4), o5] [] M = (rg v4 ∧ rg (10 : Int) ∧ ((10 : Int) ≤ v4 → K 180 [some (.inr 0), some (.inl v1), some (.inl v2), some (.inl (v3 + (1 : Int))), some (.inl v4), o5] [] M) ∧ (v4 < (10 : Int) → (0 ≤ (((10 : Int) * v3) + v2) ∧ (((10 : Int) * v3) + v2) < 100) ∧ (0 ≤ (((10 : Int) * v2) + v4) ∧ (((10 : Int) * v2) + v4) < 100) ∧ (0 ≤ (((10 : Int) * v3) + v4) ∧ (((10 : Int) * v3) + v4) < 100) ∧ rg ((M 9 (((10 : Int) * v3) + v2)) + (M 9 (((10 : Int) * v2) + v4))) ∧ rg (M 9 (((10 : Int) * v3) + v4)) ∧ ((M 9 (((10 : Int) * v3) + v4)) ≤ ((M 9 (((10 : Int) * v3) + v2)) + (M 9 (((10 : Int) * v2) + v4))) → (0 ≤ (((10 : Int) * v3) + v4) ∧ (((10 : Int) * v3) + v4) < 100) ∧ (0 ≤ (((10 : Int) * v3) + v4) ∧ (((10 : Int) * v3) + v4) < 100) ∧ K 189 [some (.inr 0), some (.inl v1), some (.inl v2), some (.inl v3), some (.inl (v4 + (1 : Int))), some (.inl ((M 9 (((10 : Int) * v3) + v2)) + (M 9 (((10 : Int) * v2) + v4))))] [] (xup M 9 (((10 : Int) * v3) + v4) (M 9 (((10 : Int) * v3) + v4)))) ∧ (((M 9 (((10 : Int) * v3) + v2)) + (M 9 (((10 : Int) * v2) + v4))) < (M 9 (((10 : Int) * v3) + v4)) → (0 ≤ (((10 : Int) * v3) + v4) ∧ (((10 : Int) * v3) + v4) < 100) ∧ K 189 [some (.inr 0), some (.inl v1), some (.inl v2), some (.inl v3), some (.inl (v4 + (1 : Int))), some (.inl ((M 9 (((10 : Int) * v3) + v2)) + (M 9 (((10 : Int) * v2) + v4))))] [] (xup M 9 (((10 : Int) * v3) + v4) ((M 9 (((10 : Int) * v3) + v2)) + (M 9 (((10 : Int) * v2) + v4))))))) := rfl
def calX6_hasOnce : xCal := []
def cutX6_hasOnce : Nat → Bool := fun pc => Nat.beq pc 4
set_option maxRecDepth 100000 in
set_option maxHeartbeats 4000000 in
theorem vcX6_hasOnce_0 (Rt : xR) (K : xG) (M : xM) (v1 : Int) : xw LM fldX6 calX6_hasOnce [] 2 Rt iX6_hasOnce cutX6_hasOnce K 400 0 [some (.inr 0), some (.inl v1), none, none, none] [] M = (K 4 [some (.inr 0), some (.inl v1), some (.inl (0 : Int)), some (.inl (0 : Int)), none] [] M) := rfl
set_option maxRecDepth 100000 in
set_option maxHeartbeats 4000000 in
theorem vcX6_hasOnce_4 (Rt : xR) (K : xG) (M : xM) (v1 v2 v3 : Int) (o4 : Option xV) : xw LM fldX6 calX6_hasOnce [] 2 Rt iX6_hasOnce cutX6_hasOnce K 400 4 [some (.inr 0), some (.inl v1), some (.inl v2), some (.inl v3), o4] [] M = ((0 ≤ v1 ∧ v1 < 6) ∧ rg v3 ∧ rg (M 1 v1) ∧ ((M 1 v1) ≤ v3 → ((1 : Int) = 0 ∨ (1 : Int) = 1) ∧ Rt (1 : Int) M) ∧ (v3 < (M 1 v1) → (0 ≤ (((6 : Int) * v1) + v3) ∧ (((6 : Int) * v1) + v3) < 36) ∧ rg (xi (xi v2 >>> (xi (M 7 (((6 : Int) * v1) + v3)) &&& 31)).toInt &&& xi (1 : Int)).toInt ∧ rg (1 : Int) ∧ ((xi (xi v2 >>> (xi (M 7 (((6 : Int) * v1) + v3)) &&& 31)).toInt &&& xi (1 : Int)).toInt ≠ (1 : Int) → K 4 [some (.inr 0), some (.inl v1), some (.inl (xi v2 ||| xi (xi (1 : Int) <<< (xi (M 7 (((6 : Int) * v1) + v3)) &&& 31)).toInt).toInt), some (.inl (v3 + (1 : Int))), some (.inl (M 7 (((6 : Int) * v1) + v3)))] [] M) ∧ ((xi (xi v2 >>> (xi (M 7 (((6 : Int) * v1) + v3)) &&& 31)).toInt &&& xi (1 : Int)).toInt = (1 : Int) → ((0 : Int) = 0 ∨ (0 : Int) = 1) ∧ Rt (0 : Int) M))) := rfl
def calX6_fits (t81 t85 t88 : xT) : xCal := [(81, false, 2, true, t81), (85, false, 2, false, t85), (88, false, 2, true, t88)]
def cutX6_fits : Nat → Bool := fun pc => Nat.beq pc 7 || Nat.beq pc 47
set_option maxRecDepth 100000 in
set_option maxHeartbeats 4000000 in
theorem vcX6_fits_0 (Rt : xR) (K : xG) (t81 t85 t88 : xT) (M : xM) (v1 : Int) : xw LM fldX6 (calX6_fits t81 t85 t88) [] 2 Rt iX6_fits cutX6_fits K 400 0 [some (.inr 0), some (.inl v1), none, none, none] [] M = (t81 [.inr 0, .inl v1] M (fun r1 M1 => K 7 [some (.inr 0), some (.inl v1), some (.inl (0 : Int)), none, none] [] M1)) := rfl
set_option maxRecDepth 100000 in
set_option maxHeartbeats 4000000 in
theorem vcX6_fits_7 (Rt : xR) (K : xG) (t81 t85 t88 : xT) (M : xM) (v1 v2 : Int) (o3 o4 : Option xV) : xw LM fldX6 (calX6_fits t81 t85 t88) [] 2 Rt iX6_fits cutX6_fits K 400 7 [some (.inr 0), some (.inl v1), some (.inl v2), o3, o4] [] M = (rg v2 ∧ rg (M 0 0) ∧ ((M 0 0) ≤ v2 → t88 [.inr 0, .inl v1] M (fun r1 M1 => K 47 [some (.inr 0), some (.inl v1), some (.inl (0 : Int)), o3, o4] [] M1)) ∧ (v2 < (M 0 0) → rg (xi (xi v1 >>> (xi v2 &&& 31)).toInt &&& xi (1 : Int)).toInt ∧ rg (1 : Int) ∧ ((xi (xi v1 >>> (xi v2 &&& 31)).toInt &&& xi (1 : Int)).toInt ≠ (1 : Int) → K 7 [some (.inr 0), some (.inl v1), some (.inl (v2 + (1 : Int))), o3, o4] [] M) ∧ ((xi (xi v1 >>> (xi v2 &&& 31)).toInt &&& xi (1 : Int)).toInt = (1 : Int) → t85 [.inr 0, .inl v2] M (fun r2 M2 => rg r2 ∧ (r2 ≠ 0 → K 7 [some (.inr 0), some (.inl v1), some (.inl (v2 + (1 : Int))), o3, o4] [] M2) ∧ (r2 = 0 → ((0 : Int) = 0 ∨ (0 : Int) = 1) ∧ Rt (0 : Int) M2))))) := rfl
set_option maxRecDepth 100000 in
set_option maxHeartbeats 4000000 in
theorem vcX6_fits_47 (Rt : xR) (K : xG) (t81 t85 t88 : xT) (M : xM) (v1 v2 : Int) (o3 o4 : Option xV) : xw LM fldX6 (calX6_fits t81 t85 t88) [] 2 Rt iX6_fits cutX6_fits K 400 47 [some (.inr 0), some (.inl v1), some (.inl v2), o3, o4] [] M = (rg v2 ∧ rg (M 0 0) ∧ ((M 0 0) ≤ v2 → ((1 : Int) = 0 ∨ (1 : Int) = 1) ∧ Rt (1 : Int) M) ∧ (v2 < (M 0 0) → rg (xi (xi v1 >>> (xi v2 &&& 31)).toInt &&& xi (1 : Int)).toInt ∧ rg (1 : Int) ∧ ((xi (xi v1 >>> (xi v2 &&& 31)).toInt &&& xi (1 : Int)).toInt ≠ (1 : Int) → K 47 [some (.inr 0), some (.inl v1), some (.inl (v2 + (1 : Int))), o3, o4] [] M) ∧ ((xi (xi v1 >>> (xi v2 &&& 31)).toInt &&& xi (1 : Int)).toInt = (1 : Int) → (0 ≤ ((6 : Int) * v2) ∧ ((6 : Int) * v2) < 36) ∧ (0 ≤ v2 ∧ v2 < 6) ∧ (0 ≤ ((((6 : Int) * v2) + (M 1 v2)) - (1 : Int)) ∧ ((((6 : Int) * v2) + (M 1 v2)) - (1 : Int)) < 36) ∧ (0 ≤ (((10 : Int) * (M 7 ((6 : Int) * v2))) + (M 7 ((((6 : Int) * v2) + (M 1 v2)) - (1 : Int)))) ∧ (((10 : Int) * (M 7 ((6 : Int) * v2))) + (M 7 ((((6 : Int) * v2) + (M 1 v2)) - (1 : Int)))) < 100) ∧ (0 ≤ v2 ∧ v2 < 6) ∧ rg (M 9 (((10 : Int) * (M 7 ((6 : Int) * v2))) + (M 7 ((((6 : Int) * v2) + (M 1 v2)) - (1 : Int))))) ∧ rg ((M 1 v2) - (1 : Int)) ∧ (((M 1 v2) - (1 : Int)) ≤ (M 9 (((10 : Int) * (M 7 ((6 : Int) * v2))) + (M 7 ((((6 : Int) * v2) + (M 1 v2)) - (1 : Int))))) → K 47 [some (.inr 0), some (.inl v1), some (.inl (v2 + (1 : Int))), some (.inl (M 7 ((6 : Int) * v2))), some (.inl (M 7 ((((6 : Int) * v2) + (M 1 v2)) - (1 : Int))))] [] M) ∧ ((M 9 (((10 : Int) * (M 7 ((6 : Int) * v2))) + (M 7 ((((6 : Int) * v2) + (M 1 v2)) - (1 : Int))))) < ((M 1 v2) - (1 : Int)) → ((0 : Int) = 0 ∨ (0 : Int) = 1) ∧ Rt (0 : Int) M)))) := rfl
def calX6_begin (t56 t94 : xT) : xCal := [(56, false, 2, false, t56), (94, false, 3, false, t94)]
def cutX6_begin : Nat → Bool := fun pc => Nat.beq pc 7 || Nat.beq pc 50
set_option maxRecDepth 100000 in
set_option maxHeartbeats 4000000 in
theorem vcX6_begin_0 (Rt : xR) (K : xG) (t56 t94 : xT) (M : xM) (v1 : Int) : xw LM fldX6 (calX6_begin t56 t94) [] 0 Rt iX6_begin cutX6_begin K 400 0 [some (.inr 0), some (.inl v1), none] [] M = (K 7 [some (.inr 0), some (.inl v1), some (.inl (0 : Int))] [] (xup M 0 12 (0 : Int))) := rfl
set_option maxRecDepth 100000 in
set_option maxHeartbeats 4000000 in
theorem vcX6_begin_7 (Rt : xR) (K : xG) (t56 t94 : xT) (M : xM) (v1 v2 : Int) : xw LM fldX6 (calX6_begin t56 t94) [] 0 Rt iX6_begin cutX6_begin K 400 7 [some (.inr 0), some (.inl v1), some (.inl v2)] [] M = (rg v2 ∧ rg (M 0 0) ∧ ((M 0 0) ≤ v2 → K 50 [some (.inr 0), some (.inl v1), some (.inl (0 : Int))] [] M) ∧ (v2 < (M 0 0) → rg (xi (xi v1 >>> (xi v2 &&& 31)).toInt &&& xi (1 : Int)).toInt ∧ rg (1 : Int) ∧ ((xi (xi v1 >>> (xi v2 &&& 31)).toInt &&& xi (1 : Int)).toInt ≠ (1 : Int) → K 7 [some (.inr 0), some (.inl v1), some (.inl (v2 + (1 : Int)))] [] (xup M 0 12 ((M 0 12) + (0 : Int)))) ∧ ((xi (xi v1 >>> (xi v2 &&& 31)).toInt &&& xi (1 : Int)).toInt = (1 : Int) → t56 [.inr 0, .inl v2] M (fun r1 M1 => K 7 [some (.inr 0), some (.inl v1), some (.inl (v2 + (1 : Int)))] [] (xup M1 0 12 ((M 0 12) + r1)))))) := rfl
set_option maxRecDepth 100000 in
set_option maxHeartbeats 4000000 in
theorem vcX6_begin_50 (Rt : xR) (K : xG) (t56 t94 : xT) (M : xM) (v1 v2 : Int) : xw LM fldX6 (calX6_begin t56 t94) [] 0 Rt iX6_begin cutX6_begin K 400 50 [some (.inr 0), some (.inl v1), some (.inl v2)] [] M = (rg v2 ∧ rg (M 0 12) ∧ ((M 0 12) ≤ v2 → Rt 0 M) ∧ (v2 < (M 0 12) → (0 ≤ v2 ∧ v2 < 4) ∧ t94 [.inr 0, .inl v1, .inl v2] (xup M 6 v2 (-1 : Int)) (fun r1 M1 => K 50 [some (.inr 0), some (.inl v1), some (.inl (v2 + (1 : Int)))] [] M1))) := rfl
def calX6_raise (t78 : xT) : xCal := [(78, false, 3, false, t78)]
def cutX6_raise : Nat → Bool := fun pc => Nat.beq pc 6 || Nat.beq pc 53
set_option maxRecDepth 100000 in
set_option maxHeartbeats 4000000 in
theorem vcX6_raise_0 (Rt : xR) (K : xG) (t78 : xT) (M : xM) (v1 v2 : Int) : xw LM fldX6 (calX6_raise t78) [] 2 Rt iX6_raise cutX6_raise K 400 0 [some (.inr 0), some (.inl v1), some (.inl v2), none, none] [] M = (K 6 [some (.inr 0), some (.inl v1), some (.inl v2), some (.inl (6 : Int)), some (.inl (0 : Int))] [] M) := rfl
set_option maxRecDepth 100000 in
set_option maxHeartbeats 4000000 in
theorem vcX6_raise_6 (Rt : xR) (K : xG) (t78 : xT) (M : xM) (v1 v2 v3 v4 : Int) : xw LM fldX6 (calX6_raise t78) [] 2 Rt iX6_raise cutX6_raise K 400 6 [some (.inr 0), some (.inl v1), some (.inl v2), some (.inl v3), some (.inl v4)] [] M = (rg v4 ∧ rg v2 ∧ (v2 ≤ v4 → (0 ≤ v2 ∧ v2 < 4) ∧ K 53 [some (.inr 0), some (.inl v1), some (.inl v2), some (.inl v3), some (.inl ((M 6 v2) + (1 : Int)))] [] M) ∧ (v4 < v2 → (0 ≤ v4 ∧ v4 < 4) ∧ rg (M 6 v4) ∧ rg v3 ∧ ((M 6 v4) < v3 → K 6 [some (.inr 0), some (.inl v1), some (.inl v2), some (.inl v3), some (.inl (v4 + (1 : Int)))] [] M) ∧ (v3 ≤ (M 6 v4) → (0 ≤ v4 ∧ v4 < 4) ∧ K 6 [some (.inr 0), some (.inl v1), some (.inl v2), some (.inl ((M 6 v4) + (1 : Int))), some (.inl (v4 + (1 : Int)))] [] M))) := rfl
set_option maxRecDepth 100000 in
set_option maxHeartbeats 4000000 in
theorem vcX6_raise_53 (Rt : xR) (K : xG) (t78 : xT) (M : xM) (v1 v2 v3 v4 : Int) : xw LM fldX6 (calX6_raise t78) [] 2 Rt iX6_raise cutX6_raise K 400 53 [some (.inr 0), some (.inl v1), some (.inl v2), some (.inl v3), some (.inl v4)] [] M = (rg v4 ∧ rg (6 : Int) ∧ ((6 : Int) ≤ v4 → (0 ≤ v2 ∧ v2 < 4) ∧ rg v4 ∧ rg v3 ∧ (v3 < v4 → ((0 : Int) = 0 ∨ (0 : Int) = 1) ∧ Rt (0 : Int) (xup M 6 v2 v4)) ∧ (v4 ≤ v3 → ((1 : Int) = 0 ∨ (1 : Int) = 1) ∧ Rt (1 : Int) (xup M 6 v2 v4))) ∧ (v4 < (6 : Int) → t78 [.inr 0, .inl v1, .inl v4] M (fun r1 M1 => rg r1 ∧ (r1 ≠ 0 → (0 ≤ v2 ∧ v2 < 4) ∧ rg v4 ∧ rg v3 ∧ (v3 < v4 → ((0 : Int) = 0 ∨ (0 : Int) = 1) ∧ Rt (0 : Int) (xup M1 6 v2 v4)) ∧ (v4 ≤ v3 → ((1 : Int) = 0 ∨ (1 : Int) = 1) ∧ Rt (1 : Int) (xup M1 6 v2 v4))) ∧ (r1 = 0 → K 53 [some (.inr 0), some (.inl v1), some (.inl v2), some (.inl v3), some (.inl (v4 + (1 : Int)))] [] M1)))) := rfl
def calX6_goOn (t94 : xT) : xCal := [(94, false, 3, false, t94)]
def cutX6_goOn : Nat → Bool := fun pc => Nat.beq pc 7 || Nat.beq pc 30
set_option maxRecDepth 100000 in
set_option maxHeartbeats 4000000 in
theorem vcX6_goOn_0 (Rt : xR) (K : xG) (t94 : xT) (M : xM) (v1 : Int) : xw LM fldX6 (calX6_goOn t94) [] 2 Rt iX6_goOn cutX6_goOn K 400 0 [some (.inr 0), some (.inl v1), none, none] [] M = (K 7 [some (.inr 0), some (.inl v1), some (.inl ((M 0 12) - (1 : Int))), none] [] M) := rfl
set_option maxRecDepth 100000 in
set_option maxHeartbeats 4000000 in
theorem vcX6_goOn_7 (Rt : xR) (K : xG) (t94 : xT) (M : xM) (v1 v2 : Int) (o3 : Option xV) : xw LM fldX6 (calX6_goOn t94) [] 2 Rt iX6_goOn cutX6_goOn K 400 7 [some (.inr 0), some (.inl v1), some (.inl v2), o3] [] M = (rg v2 ∧ (v2 < 0 → K 30 [some (.inr 0), some (.inl v1), some (.inl v2), some (.inl (v2 + (1 : Int)))] [] M) ∧ (0 ≤ v2 → t94 [.inr 0, .inl v1, .inl v2] M (fun r1 M1 => rg r1 ∧ (r1 ≠ 0 → K 30 [some (.inr 0), some (.inl v1), some (.inl v2), some (.inl (v2 + (1 : Int)))] [] M1) ∧ (r1 = 0 → K 7 [some (.inr 0), some (.inl v1), some (.inl (v2 + (-1 : Int))), o3] [] M1)))) := rfl
set_option maxRecDepth 100000 in
set_option maxHeartbeats 4000000 in
theorem vcX6_goOn_30 (Rt : xR) (K : xG) (t94 : xT) (M : xM) (v1 v2 v3 : Int) : xw LM fldX6 (calX6_goOn t94) [] 2 Rt iX6_goOn cutX6_goOn K 400 30 [some (.inr 0), some (.inl v1), some (.inl v2), some (.inl v3)] [] M = (rg v3 ∧ rg (M 0 12) ∧ ((M 0 12) ≤ v3 → rg v2 ∧ (v2 < 0 → ((0 : Int) = 0 ∨ (0 : Int) = 1) ∧ Rt (0 : Int) M) ∧ (0 ≤ v2 → ((1 : Int) = 0 ∨ (1 : Int) = 1) ∧ Rt (1 : Int) M)) ∧ (v3 < (M 0 12) → rg v2 ∧ (v2 < 0 → rg v2 ∧ (v2 < 0 → ((0 : Int) = 0 ∨ (0 : Int) = 1) ∧ Rt (0 : Int) M) ∧ (0 ≤ v2 → ((1 : Int) = 0 ∨ (1 : Int) = 1) ∧ Rt (1 : Int) M)) ∧ (0 ≤ v2 → (0 ≤ v3 ∧ v3 < 4) ∧ t94 [.inr 0, .inl v1, .inl v3] (xup M 6 v3 (-1 : Int)) (fun r1 M1 => K 30 [some (.inr 0), some (.inl v1), some (.inl v2), some (.inl (v3 + (1 : Int)))] [] M1)))) := rfl
def calX6_newMany : xCal := []
def cutX6_newMany : Nat → Bool := fun pc => Nat.beq pc 5
set_option maxRecDepth 100000 in
set_option maxHeartbeats 4000000 in
theorem vcX6_newMany_0 (Rt : xR) (K : xG) (M : xM) : xw LM fldX6 calX6_newMany [] 1 Rt iX6_newMany cutX6_newMany K 400 0 [some (.inr 0), none, none] [] M = (K 5 [some (.inr 0), some (.inl (6 : Int)), some (.inl (0 : Int))] [] M) := rfl
set_option maxRecDepth 100000 in
set_option maxHeartbeats 4000000 in
theorem vcX6_newMany_5 (Rt : xR) (K : xG) (M : xM) (v1 v2 : Int) : xw LM fldX6 calX6_newMany [] 1 Rt iX6_newMany cutX6_newMany K 400 5 [some (.inr 0), some (.inl v1), some (.inl v2)] [] M = (rg v2 ∧ rg (M 0 12) ∧ ((M 0 12) ≤ v2 → Rt (v1 - (6 : Int)) M) ∧ (v2 < (M 0 12) → (0 ≤ v2 ∧ v2 < 4) ∧ rg (M 6 v2) ∧ rg v1 ∧ ((M 6 v2) < v1 → K 5 [some (.inr 0), some (.inl v1), some (.inl (v2 + (1 : Int)))] [] M) ∧ (v1 ≤ (M 6 v2) → (0 ≤ v2 ∧ v2 < 4) ∧ K 5 [some (.inr 0), some (.inl ((M 6 v2) + (1 : Int))), some (.inl (v2 + (1 : Int)))] [] M))) := rfl
def calX6_lineMany : xCal := []
def cutX6_lineMany : Nat → Bool := fun pc => Nat.beq pc 4 || Nat.beq pc 12
set_option maxRecDepth 100000 in
set_option maxHeartbeats 4000000 in
theorem vcX6_lineMany_0 (Rt : xR) (K : xG) (M : xM) : xw LM fldX6 calX6_lineMany [] 1 Rt iX6_lineMany cutX6_lineMany K 400 0 [some (.inr 0), none, none, none] [] M = (K 4 [some (.inr 0), some (.inl (0 : Int)), some (.inl (0 : Int)), none] [] M) := rfl
set_option maxRecDepth 100000 in
set_option maxHeartbeats 4000000 in
theorem vcX6_lineMany_4 (Rt : xR) (K : xG) (M : xM) (v1 v2 : Int) (o3 : Option xV) : xw LM fldX6 calX6_lineMany [] 1 Rt iX6_lineMany cutX6_lineMany K 400 4 [some (.inr 0), some (.inl v1), some (.inl v2), o3] [] M = (rg v2 ∧ rg (10 : Int) ∧ ((10 : Int) ≤ v2 → Rt v1 M) ∧ (v2 < (10 : Int) → K 12 [some (.inr 0), some (.inl v1), some (.inl v2), some (.inl (0 : Int))] [] M)) := rfl
set_option maxRecDepth 100000 in
set_option maxHeartbeats 4000000 in
theorem vcX6_lineMany_12 (Rt : xR) (K : xG) (M : xM) (v1 v2 v3 : Int) : xw LM fldX6 calX6_lineMany [] 1 Rt iX6_lineMany cutX6_lineMany K 400 12 [some (.inr 0), some (.inl v1), some (.inl v2), some (.inl v3)] [] M = (rg v3 ∧ rg v2 ∧ (v2 ≤ v3 → K 4 [some (.inr 0), some (.inl v1), some (.inl (v2 + (1 : Int))), some (.inl v3)] [] M) ∧ (v3 < v2 → (0 ≤ (((10 : Int) * v2) + v3) ∧ (((10 : Int) * v2) + v3) < 100) ∧ rg (M 8 (((10 : Int) * v2) + v3)) ∧ ((M 8 (((10 : Int) * v2) + v3)) = 0 → K 12 [some (.inr 0), some (.inl (v1 + (0 : Int))), some (.inl v2), some (.inl (v3 + (1 : Int)))] [] M) ∧ ((M 8 (((10 : Int) * v2) + v3)) ≠ 0 → K 12 [some (.inr 0), some (.inl (v1 + (1 : Int))), some (.inl v2), some (.inl (v3 + (1 : Int)))] [] M))) := rfl
def calX6_keep : xCal := []
def cutX6_keep : Nat → Bool := fun pc => Nat.beq pc 2 || Nat.beq pc 46
set_option maxRecDepth 100000 in
set_option maxHeartbeats 4000000 in
theorem vcX6_keep_0 (Rt : xR) (K : xG) (M : xM) : xw LM fldX6 calX6_keep [] 0 Rt iX6_keep cutX6_keep K 400 0 [some (.inr 0), none, none] [] M = (K 2 [some (.inr 0), some (.inl (0 : Int)), none] [] M) := rfl
set_option maxRecDepth 100000 in
set_option maxHeartbeats 4000000 in
theorem vcX6_keep_2 (Rt : xR) (K : xG) (M : xM) (v1 : Int) (o2 : Option xV) : xw LM fldX6 calX6_keep [] 0 Rt iX6_keep cutX6_keep K 400 2 [some (.inr 0), some (.inl v1), o2] [] M = (rg v1 ∧ rg (4 : Int) ∧ ((4 : Int) ≤ v1 → K 46 [some (.inr 0), some (.inl (0 : Int)), o2] [] M) ∧ (v1 < (4 : Int) → rg v1 ∧ rg (M 0 12) ∧ ((M 0 12) ≤ v1 → (0 ≤ (((4 : Int) * (M 0 13)) + v1) ∧ (((4 : Int) * (M 0 13)) + v1) < 20160) ∧ K 2 [some (.inr 0), some (.inl (v1 + (1 : Int))), o2] [] (xup M 10 (((4 : Int) * (M 0 13)) + v1) (-1 : Int))) ∧ (v1 < (M 0 12) → (0 ≤ v1 ∧ v1 < 4) ∧ (0 ≤ (((4 : Int) * (M 0 13)) + v1) ∧ (((4 : Int) * (M 0 13)) + v1) < 20160) ∧ K 2 [some (.inr 0), some (.inl (v1 + (1 : Int))), o2] [] (xup M 10 (((4 : Int) * (M 0 13)) + v1) (M 6 v1))))) := rfl
set_option maxRecDepth 100000 in
set_option maxHeartbeats 4000000 in
theorem vcX6_keep_46 (Rt : xR) (K : xG) (M : xM) (v1 : Int) (o2 : Option xV) : xw LM fldX6 calX6_keep [] 0 Rt iX6_keep cutX6_keep K 400 46 [some (.inr 0), some (.inl v1), o2] [] M = (rg v1 ∧ rg (36 : Int) ∧ ((36 : Int) ≤ v1 → Rt 0 (xup M 0 13 ((M 0 13) + (1 : Int)))) ∧ (v1 < (36 : Int) → (0 ≤ v1 ∧ v1 < 2147483648 ∧ 0 < (6 : Int) ∧ (6 : Int) < 2147483648) ∧ (0 ≤ (v1 / (6 : Int)) ∧ (v1 / (6 : Int)) < 6) ∧ (0 ≤ v1 ∧ v1 < 2147483648 ∧ 0 < (6 : Int) ∧ (6 : Int) < 2147483648) ∧ (0 ≤ (v1 % (6 : Int)) ∧ (v1 % (6 : Int)) < 6) ∧ (0 ≤ (((10 : Int) * (M 4 (v1 / (6 : Int)))) + (M 4 (v1 % (6 : Int)))) ∧ (((10 : Int) * (M 4 (v1 / (6 : Int)))) + (M 4 (v1 % (6 : Int)))) < 100) ∧ rg (M 9 (((10 : Int) * (M 4 (v1 / (6 : Int)))) + (M 4 (v1 % (6 : Int))))) ∧ rg (100 : Int) ∧ ((100 : Int) ≤ (M 9 (((10 : Int) * (M 4 (v1 / (6 : Int)))) + (M 4 (v1 % (6 : Int))))) → (0 ≤ (((36 : Int) * (M 0 13)) + v1) ∧ (((36 : Int) * (M 0 13)) + v1) < 181440) ∧ (0 ≤ (((10 : Int) * (M 4 (v1 / (6 : Int)))) + (M 4 (v1 % (6 : Int)))) ∧ (((10 : Int) * (M 4 (v1 / (6 : Int)))) + (M 4 (v1 % (6 : Int)))) < 100) ∧ (0 ≤ (((36 : Int) * ((xup M 11 (((36 : Int) * (M 0 13)) + v1) (-1 : Int)) 0 13)) + v1) ∧ (((36 : Int) * ((xup M 11 (((36 : Int) * (M 0 13)) + v1) (-1 : Int)) 0 13)) + v1) < 181440) ∧ (((xup M 11 (((36 : Int) * (M 0 13)) + v1) (-1 : Int)) 8 (((10 : Int) * (M 4 (v1 / (6 : Int)))) + (M 4 (v1 % (6 : Int))))) = 0 ∨ ((xup M 11 (((36 : Int) * (M 0 13)) + v1) (-1 : Int)) 8 (((10 : Int) * (M 4 (v1 / (6 : Int)))) + (M 4 (v1 % (6 : Int))))) = 1) ∧ K 46 [some (.inr 0), some (.inl (v1 + (1 : Int))), some (.inl (((10 : Int) * (M 4 (v1 / (6 : Int)))) + (M 4 (v1 % (6 : Int)))))] [] (xup (xup M 11 (((36 : Int) * (M 0 13)) + v1) (-1 : Int)) 12 (((36 : Int) * ((xup M 11 (((36 : Int) * (M 0 13)) + v1) (-1 : Int)) 0 13)) + v1) ((xup M 11 (((36 : Int) * (M 0 13)) + v1) (-1 : Int)) 8 (((10 : Int) * (M 4 (v1 / (6 : Int)))) + (M 4 (v1 % (6 : Int))))))) ∧ ((M 9 (((10 : Int) * (M 4 (v1 / (6 : Int)))) + (M 4 (v1 % (6 : Int))))) < (100 : Int) → (0 ≤ (((10 : Int) * (M 4 (v1 / (6 : Int)))) + (M 4 (v1 % (6 : Int)))) ∧ (((10 : Int) * (M 4 (v1 / (6 : Int)))) + (M 4 (v1 % (6 : Int)))) < 100) ∧ (0 ≤ (((36 : Int) * (M 0 13)) + v1) ∧ (((36 : Int) * (M 0 13)) + v1) < 181440) ∧ (0 ≤ (((10 : Int) * (M 4 (v1 / (6 : Int)))) + (M 4 (v1 % (6 : Int)))) ∧ (((10 : Int) * (M 4 (v1 / (6 : Int)))) + (M 4 (v1 % (6 : Int)))) < 100) ∧ (0 ≤ (((36 : Int) * ((xup M 11 (((36 : Int) * (M 0 13)) + v1) (M 9 (((10 : Int) * (M 4 (v1 / (6 : Int)))) + (M 4 (v1 % (6 : Int)))))) 0 13)) + v1) ∧ (((36 : Int) * ((xup M 11 (((36 : Int) * (M 0 13)) + v1) (M 9 (((10 : Int) * (M 4 (v1 / (6 : Int)))) + (M 4 (v1 % (6 : Int)))))) 0 13)) + v1) < 181440) ∧ (((xup M 11 (((36 : Int) * (M 0 13)) + v1) (M 9 (((10 : Int) * (M 4 (v1 / (6 : Int)))) + (M 4 (v1 % (6 : Int)))))) 8 (((10 : Int) * (M 4 (v1 / (6 : Int)))) + (M 4 (v1 % (6 : Int))))) = 0 ∨ ((xup M 11 (((36 : Int) * (M 0 13)) + v1) (M 9 (((10 : Int) * (M 4 (v1 / (6 : Int)))) + (M 4 (v1 % (6 : Int)))))) 8 (((10 : Int) * (M 4 (v1 / (6 : Int)))) + (M 4 (v1 % (6 : Int))))) = 1) ∧ K 46 [some (.inr 0), some (.inl (v1 + (1 : Int))), some (.inl (((10 : Int) * (M 4 (v1 / (6 : Int)))) + (M 4 (v1 % (6 : Int)))))] [] (xup (xup M 11 (((36 : Int) * (M 0 13)) + v1) (M 9 (((10 : Int) * (M 4 (v1 / (6 : Int)))) + (M 4 (v1 % (6 : Int)))))) 12 (((36 : Int) * ((xup M 11 (((36 : Int) * (M 0 13)) + v1) (M 9 (((10 : Int) * (M 4 (v1 / (6 : Int)))) + (M 4 (v1 % (6 : Int)))))) 0 13)) + v1) ((xup M 11 (((36 : Int) * (M 0 13)) + v1) (M 9 (((10 : Int) * (M 4 (v1 / (6 : Int)))) + (M 4 (v1 % (6 : Int)))))) 8 (((10 : Int) * (M 4 (v1 / (6 : Int)))) + (M 4 (v1 % (6 : Int))))))))) := rfl
def calX6_findNets (t100 t109 t112 t115 t118 t121 t124 : xT) : xCal := [(100, false, 2, false, t100), (109, false, 2, true, t109), (112, false, 1, false, t112), (115, false, 2, false, t115), (118, false, 1, false, t118), (121, false, 1, true, t121), (124, false, 2, false, t124)]
def cutX6_findNets : Nat → Bool := fun pc => Nat.beq pc 39
set_option maxRecDepth 100000 in
set_option maxHeartbeats 4000000 in
theorem vcX6_findNets_0 (Rt : xR) (K : xG) (t100 t109 t112 t115 t118 t121 t124 : xT) (M : xM) : xw LM fldX6 (calX6_findNets t100 t109 t112 t115 t118 t121 t124) [] 0 Rt iX6_findNets cutX6_findNets K 400 0 [some (.inr 0), none, none, none, none, none] [] M = (t100 [.inr 0, .inl ((xi (1 : Int) <<< (xi (M 0 0) &&& 31)).toInt - (1 : Int))] M (fun r1 M1 => t109 [.inr 0, .inl ((xi (1 : Int) <<< (xi (M 0 0) &&& 31)).toInt - (1 : Int))] (xup (xup (xup M1 0 13 (0 : Int)) 0 14 (100 : Int)) 0 15 (100 : Int)) (fun r2 M2 => K 39 [some (.inr 0), some (.inl ((xi (1 : Int) <<< (xi (M 0 0) &&& 31)).toInt - (1 : Int))), some (.inl r1), some (.inl (1 : Int)), none, none] [] M2))) := rfl
set_option maxRecDepth 100000 in
set_option maxHeartbeats 4000000 in
theorem vcX6_findNets_39 (Rt : xR) (K : xG) (t100 t109 t112 t115 t118 t121 t124 : xT) (M : xM) (v1 v2 v3 : Int) (o4 o5 : Option xV) : xw LM fldX6 (calX6_findNets t100 t109 t112 t115 t118 t121 t124) [] 0 Rt iX6_findNets cutX6_findNets K 400 39 [some (.inr 0), some (.inl v1), some (.inl v2), some (.inl v3), o4, o5] [] M = (rg v3 ∧ (v3 = 0 → Rt 0 M) ∧ (v3 ≠ 0 → t112 [.inr 0] M (fun r1 M1 => rg (v2 + r1) ∧ rg (M1 0 14) ∧ ((M1 0 14) < (v2 + r1) → t124 [.inr 0, .inl v1] M1 (fun r2 M2 => K 39 [some (.inr 0), some (.inl v1), some (.inl v2), some (.inl r2), o4, o5] [] M2)) ∧ ((v2 + r1) ≤ (M1 0 14) → t115 [.inr 0, .inl v1] M1 (fun r3 M3 => rg r3 ∧ (r3 = 0 → t124 [.inr 0, .inl v1] M3 (fun r4 M4 => K 39 [some (.inr 0), some (.inl v1), some (.inl v2), some (.inl r4), o4, o5] [] M4)) ∧ (r3 ≠ 0 → t112 [.inr 0] M3 (fun r5 M5 => t118 [.inr 0] M5 (fun r6 M6 => rg (v2 + r5) ∧ rg (M6 0 14) ∧ ((v2 + r5) < (M6 0 14) → rg r6 ∧ rg ((xup (xup (xup M6 0 13 (0 : Int)) 0 14 (v2 + r5)) 0 15 r6) 0 15) ∧ (r6 ≠ ((xup (xup (xup M6 0 13 (0 : Int)) 0 14 (v2 + r5)) 0 15 r6) 0 15) → t124 [.inr 0, .inl v1] (xup (xup (xup M6 0 13 (0 : Int)) 0 14 (v2 + r5)) 0 15 r6) (fun r7 M7 => K 39 [some (.inr 0), some (.inl v1), some (.inl v2), some (.inl r7), some (.inl (v2 + r5)), some (.inl r6)] [] M7)) ∧ (r6 = ((xup (xup (xup M6 0 13 (0 : Int)) 0 14 (v2 + r5)) 0 15 r6) 0 15) → t121 [.inr 0] (xup (xup (xup M6 0 13 (0 : Int)) 0 14 (v2 + r5)) 0 15 r6) (fun r8 M8 => t124 [.inr 0, .inl v1] M8 (fun r9 M9 => K 39 [some (.inr 0), some (.inl v1), some (.inl v2), some (.inl r9), some (.inl (v2 + r5)), some (.inl r6)] [] M9)))) ∧ ((M6 0 14) ≤ (v2 + r5) → rg r6 ∧ rg (M6 0 15) ∧ ((M6 0 15) ≤ r6 → rg r6 ∧ rg (M6 0 15) ∧ (r6 ≠ (M6 0 15) → t124 [.inr 0, .inl v1] M6 (fun r10 M10 => K 39 [some (.inr 0), some (.inl v1), some (.inl v2), some (.inl r10), some (.inl (v2 + r5)), some (.inl r6)] [] M10)) ∧ (r6 = (M6 0 15) → t121 [.inr 0] M6 (fun r11 M11 => t124 [.inr 0, .inl v1] M11 (fun r12 M12 => K 39 [some (.inr 0), some (.inl v1), some (.inl v2), some (.inl r12), some (.inl (v2 + r5)), some (.inl r6)] [] M12)))) ∧ (r6 < (M6 0 15) → rg r6 ∧ rg ((xup (xup (xup M6 0 13 (0 : Int)) 0 14 (v2 + r5)) 0 15 r6) 0 15) ∧ (r6 ≠ ((xup (xup (xup M6 0 13 (0 : Int)) 0 14 (v2 + r5)) 0 15 r6) 0 15) → t124 [.inr 0, .inl v1] (xup (xup (xup M6 0 13 (0 : Int)) 0 14 (v2 + r5)) 0 15 r6) (fun r13 M13 => K 39 [some (.inr 0), some (.inl v1), some (.inl v2), some (.inl r13), some (.inl (v2 + r5)), some (.inl r6)] [] M13)) ∧ (r6 = ((xup (xup (xup M6 0 13 (0 : Int)) 0 14 (v2 + r5)) 0 15 r6) 0 15) → t121 [.inr 0] (xup (xup (xup M6 0 13 (0 : Int)) 0 14 (v2 + r5)) 0 15 r6) (fun r14 M14 => t124 [.inr 0, .inl v1] M14 (fun r15 M15 => K 39 [some (.inr 0), some (.inl v1), some (.inl v2), some (.inl r15), some (.inl (v2 + r5)), some (.inl r6)] [] M15))))))))))))) := rfl
def calX6_nets (t127 : xT) : xCal := [(127, false, 1, true, t127)]
def cutX6_nets : Nat → Bool := fun pc => false
set_option maxRecDepth 100000 in
set_option maxHeartbeats 4000000 in
theorem vcX6_nets_0 (Rt : xR) (K : xG) (t127 : xT) (M : xM) : xw LM fldX6 (calX6_nets t127) [] 1 Rt iX6_nets cutX6_nets K 400 0 [some (.inr 0)] [] M = (t127 [.inr 0] M (fun r1 M1 => Rt (M1 0 13) M1)) := rfl
def calX6_shape (t48 t127 : xT) : xCal := [(48, true, 3, false, t48), (127, false, 1, true, t127)]
def cutX6_shape : Nat → Bool := fun pc => false
set_option maxRecDepth 100000 in
set_option maxHeartbeats 4000000 in
theorem vcX6_shape_0 (Rt : xR) (K : xG) (t48 t127 : xT) (M : xM) (v1 : Int) : xw LM fldX6 (calX6_shape t48 t127) [] 1 Rt iX6_shape cutX6_shape K 400 0 [some (.inr 0), some (.inl v1)] [] M = (t48 [.inl v1, .inl (0 : Int), .inl (1 : Int)] M (fun r1 M1 => rg r1 ∧ (r1 ≠ 0 → t127 [.inr 0] M1 (fun r2 M2 => rg (M2 0 13) ∧ ((M2 0 13) ≠ 0 → rg v1 ∧ (v1 ≠ 0 → Rt (M2 0 15) M2) ∧ (v1 = 0 → Rt (M2 0 14) M2)) ∧ ((M2 0 13) = 0 → Rt (-6 : Int) M2))) ∧ (r1 = 0 → Rt (-2 : Int) M1))) := rfl
def calX6_boxOf (t127 t48 : xT) : xCal := [(127, false, 1, true, t127), (48, true, 3, false, t48)]
def cutX6_boxOf : Nat → Bool := fun pc => false
set_option maxRecDepth 100000 in
set_option maxHeartbeats 4000000 in
theorem vcX6_boxOf_0 (Rt : xR) (K : xG) (t127 t48 : xT) (M : xM) (v1 v2 : Int) : xw LM fldX6 (calX6_boxOf t127 t48) [] 1 Rt iX6_boxOf cutX6_boxOf K 400 0 [some (.inr 0), some (.inl v1), some (.inl v2), none] [] M = (t127 [.inr 0] M (fun r1 M1 => rg (M1 0 13) ∧ ((M1 0 13) ≠ 0 → t48 [.inl v1, .inl (0 : Int), .inl ((M1 0 13) - (1 : Int))] M1 (fun r2 M2 => rg r2 ∧ (r2 = 0 → Rt (-2 : Int) M2) ∧ (r2 ≠ 0 → t48 [.inl v2, .inl (0 : Int), .inl ((M2 0 12) - (1 : Int))] M2 (fun r3 M3 => rg r3 ∧ (r3 ≠ 0 → (0 ≤ (((4 : Int) * v1) + v2) ∧ (((4 : Int) * v1) + v2) < 20160) ∧ rg (M3 10 (((4 : Int) * v1) + v2)) ∧ rg (6 : Int) ∧ ((6 : Int) ≤ (M3 10 (((4 : Int) * v1) + v2)) → Rt ((M3 10 (((4 : Int) * v1) + v2)) + (4 : Int)) M3) ∧ ((M3 10 (((4 : Int) * v1) + v2)) < (6 : Int) → Rt (M3 10 (((4 : Int) * v1) + v2)) M3)) ∧ (r3 = 0 → Rt (-2 : Int) M3))))) ∧ ((M1 0 13) = 0 → Rt (-6 : Int) M1))) := rfl
def calX6_isSeen (t67 t74 : xT) : xCal := [(67, true, 1, false, t67), (74, false, 3, false, t74)]
def cutX6_isSeen : Nat → Bool := fun pc => false
set_option maxRecDepth 100000 in
set_option maxHeartbeats 4000000 in
theorem vcX6_isSeen_0 (Rt : xR) (K : xG) (t67 t74 : xT) (M : xM) (v1 : Int) : xw LM fldX6 (calX6_isSeen t67 t74) [] 2 Rt iX6_isSeen cutX6_isSeen K 400 0 [some (.inr 0), some (.inl v1)] [] M = (t67 [.inl v1] M (fun r1 M1 => rg r1 ∧ (r1 = 0 → ((0 : Int) = 0 ∨ (0 : Int) = 1) ∧ Rt (0 : Int) M1) ∧ (r1 ≠ 0 → t74 [.inr 0, .inl ((xi (1 : Int) <<< (xi (M1 0 0) &&& 31)).toInt - (1 : Int)), .inl v1] M1 (fun r2 M2 => rg r2 ∧ (r2 = 0 → ((0 : Int) = 0 ∨ (0 : Int) = 1) ∧ Rt (0 : Int) M2) ∧ (r2 ≠ 0 → ((1 : Int) = 0 ∨ (1 : Int) = 1) ∧ Rt (1 : Int) M2))))) := rfl
def calX6_far (t127 t48 t130 : xT) : xCal := [(127, false, 1, true, t127), (48, true, 3, false, t48), (130, false, 2, false, t130)]
def cutX6_far : Nat → Bool := fun pc => false
set_option maxRecDepth 100000 in
set_option maxHeartbeats 4000000 in
theorem vcX6_far_0 (Rt : xR) (K : xG) (t127 t48 t130 : xT) (M : xM) (v1 v2 v3 : Int) : xw LM fldX6 (calX6_far t127 t48 t130) [] 1 Rt iX6_far cutX6_far K 400 0 [some (.inr 0), some (.inl v1), some (.inl v2), some (.inl v3)] [] M = (t127 [.inr 0] M (fun r1 M1 => rg (M1 0 13) ∧ ((M1 0 13) ≠ 0 → t48 [.inl v1, .inl (0 : Int), .inl ((M1 0 13) - (1 : Int))] M1 (fun r2 M2 => rg r2 ∧ (r2 = 0 → Rt (-2 : Int) M2) ∧ (r2 ≠ 0 → t130 [.inr 0, .inl v2] M2 (fun r3 M3 => rg r3 ∧ (r3 = 0 → Rt (-2 : Int) M3) ∧ (r3 ≠ 0 → t130 [.inr 0, .inl v3] M3 (fun r4 M4 => rg r4 ∧ (r4 = 0 → Rt (-2 : Int) M4) ∧ (r4 ≠ 0 → (0 ≤ ((((36 : Int) * v1) + ((6 : Int) * v2)) + v3) ∧ ((((36 : Int) * v1) + ((6 : Int) * v2)) + v3) < 181440) ∧ Rt (M4 11 ((((36 : Int) * v1) + ((6 : Int) * v2)) + v3)) M4))))))) ∧ ((M1 0 13) = 0 → Rt (-6 : Int) M1))) := rfl
def calX6_sure (t127 t130 : xT) : xCal := [(127, false, 1, true, t127), (130, false, 2, false, t130)]
def cutX6_sure : Nat → Bool := fun pc => Nat.beq pc 38
set_option maxRecDepth 100000 in
set_option maxHeartbeats 4000000 in
theorem vcX6_sure_0 (Rt : xR) (K : xG) (t127 t130 : xT) (M : xM) (v1 v2 : Int) : xw LM fldX6 (calX6_sure t127 t130) [] 1 Rt iX6_sure cutX6_sure K 400 0 [some (.inr 0), some (.inl v1), some (.inl v2), none, none] [] M = (t127 [.inr 0] M (fun r1 M1 => rg (M1 0 13) ∧ ((M1 0 13) ≠ 0 → t130 [.inr 0, .inl v1] M1 (fun r2 M2 => rg r2 ∧ (r2 = 0 → Rt (-2 : Int) M2) ∧ (r2 ≠ 0 → t130 [.inr 0, .inl v2] M2 (fun r3 M3 => rg r3 ∧ (r3 ≠ 0 → K 38 [some (.inr 0), some (.inl v1), some (.inl v2), some (.inl (0 : Int)), some (.inl (0 : Int))] [] M3) ∧ (r3 = 0 → Rt (-2 : Int) M3))))) ∧ ((M1 0 13) = 0 → Rt (-6 : Int) M1))) := rfl
set_option maxRecDepth 100000 in
set_option maxHeartbeats 4000000 in
theorem vcX6_sure_38 (Rt : xR) (K : xG) (t127 t130 : xT) (M : xM) (v1 v2 v3 v4 : Int) : xw LM fldX6 (calX6_sure t127 t130) [] 1 Rt iX6_sure cutX6_sure K 400 38 [some (.inr 0), some (.inl v1), some (.inl v2), some (.inl v3), some (.inl v4)] [] M = (rg v4 ∧ rg (M 0 13) ∧ ((M 0 13) ≤ v4 → rg v3 ∧ (v3 ≠ 0 → rg v3 ∧ rg (M 0 13) ∧ (v3 ≠ (M 0 13) → Rt (1 : Int) M) ∧ (v3 = (M 0 13) → Rt (2 : Int) M)) ∧ (v3 = 0 → Rt (0 : Int) M)) ∧ (v4 < (M 0 13) → (0 ≤ ((((36 : Int) * v4) + ((6 : Int) * v1)) + v2) ∧ ((((36 : Int) * v4) + ((6 : Int) * v1)) + v2) < 181440) ∧ rg (M 12 ((((36 : Int) * v4) + ((6 : Int) * v1)) + v2)) ∧ ((M 12 ((((36 : Int) * v4) + ((6 : Int) * v1)) + v2)) = 0 → K 38 [some (.inr 0), some (.inl v1), some (.inl v2), some (.inl (v3 + (0 : Int))), some (.inl (v4 + (1 : Int)))] [] M) ∧ ((M 12 ((((36 : Int) * v4) + ((6 : Int) * v1)) + v2)) ≠ 0 → K 38 [some (.inr 0), some (.inl v1), some (.inl v2), some (.inl (v3 + (1 : Int))), some (.inl (v4 + (1 : Int)))] [] M))) := rfl
def calX6_canFit (t109 t115 t124 : xT) : xCal := [(109, false, 2, true, t109), (115, false, 2, false, t115), (124, false, 2, false, t124)]
def cutX6_canFit : Nat → Bool := fun pc => Nat.beq pc 7
set_option maxRecDepth 100000 in
set_option maxHeartbeats 4000000 in
theorem vcX6_canFit_0 (Rt : xR) (K : xG) (t109 t115 t124 : xT) (M : xM) (v1 : Int) : xw LM fldX6 (calX6_canFit t109 t115 t124) [] 2 Rt iX6_canFit cutX6_canFit K 400 0 [some (.inr 0), some (.inl v1), none] [] M = (t109 [.inr 0, .inl v1] M (fun r1 M1 => K 7 [some (.inr 0), some (.inl v1), some (.inl (1 : Int))] [] M1)) := rfl
set_option maxRecDepth 100000 in
set_option maxHeartbeats 4000000 in
theorem vcX6_canFit_7 (Rt : xR) (K : xG) (t109 t115 t124 : xT) (M : xM) (v1 v2 : Int) : xw LM fldX6 (calX6_canFit t109 t115 t124) [] 2 Rt iX6_canFit cutX6_canFit K 400 7 [some (.inr 0), some (.inl v1), some (.inl v2)] [] M = (rg v2 ∧ (v2 = 0 → ((0 : Int) = 0 ∨ (0 : Int) = 1) ∧ Rt (0 : Int) M) ∧ (v2 ≠ 0 → t115 [.inr 0, .inl v1] M (fun r1 M1 => rg r1 ∧ (r1 = 0 → t124 [.inr 0, .inl v1] M1 (fun r2 M2 => K 7 [some (.inr 0), some (.inl v1), some (.inl r2)] [] M2)) ∧ (r1 ≠ 0 → ((1 : Int) = 0 ∨ (1 : Int) = 1) ∧ Rt (1 : Int) M1)))) := rfl
def calX6_ones : xCal := []
def cutX6_ones : Nat → Bool := fun pc => Nat.beq pc 4
set_option maxRecDepth 100000 in
set_option maxHeartbeats 4000000 in
theorem vcX6_ones_0 (Rt : xR) (K : xG) (M : xM) (v0 : Int) : xw LM fldX6 calX6_ones [] 1 Rt iX6_ones cutX6_ones K 400 0 [some (.inl v0), none, none] [] M = (K 4 [some (.inl v0), some (.inl (0 : Int)), some (.inl (0 : Int))] [] M) := rfl
set_option maxRecDepth 100000 in
set_option maxHeartbeats 4000000 in
theorem vcX6_ones_4 (Rt : xR) (K : xG) (M : xM) (v0 v1 v2 : Int) : xw LM fldX6 calX6_ones [] 1 Rt iX6_ones cutX6_ones K 400 4 [some (.inl v0), some (.inl v1), some (.inl v2)] [] M = (rg v2 ∧ rg (6 : Int) ∧ ((6 : Int) ≤ v2 → Rt v1 M) ∧ (v2 < (6 : Int) → K 4 [some (.inl v0), some (.inl (v1 + (xi (xi v0 >>> (xi v2 &&& 31)).toInt &&& xi (1 : Int)).toInt)), some (.inl (v2 + (1 : Int)))] [] M)) := rfl
def calX6_falses (t133 t136 : xT) : xCal := [(133, true, 1, false, t133), (136, false, 2, false, t136)]
def cutX6_falses : Nat → Bool := fun pc => Nat.beq pc 13
set_option maxRecDepth 100000 in
set_option maxHeartbeats 4000000 in
theorem vcX6_falses_0 (Rt : xR) (K : xG) (t133 t136 : xT) (M : xM) : xw LM fldX6 (calX6_falses t133 t136) [] 1 Rt iX6_falses cutX6_falses K 400 0 [some (.inr 0), none, none, none] [] M = (K 13 [some (.inr 0), some (.inl ((xi (1 : Int) <<< (xi (M 0 0) &&& 31)).toInt - (1 : Int))), some (.inl ((xi (1 : Int) <<< (xi (M 0 0) &&& 31)).toInt - (1 : Int))), some (.inl ((xi (1 : Int) <<< (xi (M 0 0) &&& 31)).toInt - (1 : Int)))] [] M) := rfl
set_option maxRecDepth 100000 in
set_option maxHeartbeats 4000000 in
theorem vcX6_falses_13 (Rt : xR) (K : xG) (t133 t136 : xT) (M : xM) (v1 v2 v3 : Int) : xw LM fldX6 (calX6_falses t133 t136) [] 1 Rt iX6_falses cutX6_falses K 400 13 [some (.inr 0), some (.inl v1), some (.inl v2), some (.inl v3)] [] M = (rg v3 ∧ (v3 < 0 → Rt v2 M) ∧ (0 ≤ v3 → t133 [.inl v3] M (fun r1 M1 => t133 [.inl v2] M1 (fun r2 M2 => rg r1 ∧ rg r2 ∧ (r2 < r1 → K 13 [some (.inr 0), some (.inl v1), some (.inl v2), some (.inl (v3 + (-1 : Int)))] [] M2) ∧ (r1 ≤ r2 → t136 [.inr 0, .inl (xi v1 &&& xi (xi v3 ^^^ xi (-1 : Int)).toInt).toInt] M2 (fun r3 M3 => rg r3 ∧ (r3 = 0 → K 13 [some (.inr 0), some (.inl v1), some (.inl v2), some (.inl (v3 + (-1 : Int)))] [] M3) ∧ (r3 ≠ 0 → K 13 [some (.inr 0), some (.inl v1), some (.inl v3), some (.inl (v3 + (-1 : Int)))] [] M3))))))) := rfl
def calX6_greatestHeap : xCal := []
def cutX6_greatestHeap : Nat → Bool := fun pc => Nat.beq pc 4 || Nat.beq pc 16
set_option maxRecDepth 100000 in
set_option maxHeartbeats 4000000 in
theorem vcX6_greatestHeap_0 (Rt : xR) (K : xG) (M : xM) (v1 : Int) : xw LM fldX6 calX6_greatestHeap [] 1 Rt iX6_greatestHeap cutX6_greatestHeap K 400 0 [some (.inr 0), some (.inl v1), none, none, none, none] [] M = (K 4 [some (.inr 0), some (.inl v1), some (.inl (0 : Int)), some (.inl (-1 : Int)), none, none] [] M) := rfl
set_option maxRecDepth 100000 in
set_option maxHeartbeats 4000000 in
theorem vcX6_greatestHeap_4 (Rt : xR) (K : xG) (M : xM) (v1 v2 v3 : Int) (o4 o5 : Option xV) : xw LM fldX6 calX6_greatestHeap [] 1 Rt iX6_greatestHeap cutX6_greatestHeap K 400 4 [some (.inr 0), some (.inl v1), some (.inl v2), some (.inl v3), o4, o5] [] M = (rg v3 ∧ rg (10 : Int) ∧ ((10 : Int) ≤ v3 → Rt v2 M) ∧ (v3 < (10 : Int) → K 16 [some (.inr 0), some (.inl v1), some (.inl v2), some (.inl v3), some (.inl (0 : Int)), some (.inl (0 : Int))] [] M)) := rfl
set_option maxRecDepth 100000 in
set_option maxHeartbeats 4000000 in
theorem vcX6_greatestHeap_16 (Rt : xR) (K : xG) (M : xM) (v1 v2 v3 v4 v5 : Int) : xw LM fldX6 calX6_greatestHeap [] 1 Rt iX6_greatestHeap cutX6_greatestHeap K 400 16 [some (.inr 0), some (.inl v1), some (.inl v2), some (.inl v3), some (.inl v4), some (.inl v5)] [] M = (rg v5 ∧ rg (M 0 13) ∧ ((M 0 13) ≤ v5 → rg v4 ∧ rg v2 ∧ (v4 ≤ v2 → K 4 [some (.inr 0), some (.inl v1), some (.inl v2), some (.inl (v3 + (1 : Int))), some (.inl v4), some (.inl v5)] [] M) ∧ (v2 < v4 → K 4 [some (.inr 0), some (.inl v1), some (.inl v4), some (.inl (v3 + (1 : Int))), some (.inl v4), some (.inl v5)] [] M)) ∧ (v5 < (M 0 13) → (0 ≤ (((36 : Int) * v5) + v1) ∧ (((36 : Int) * v5) + v1) < 181440) ∧ rg (M 11 (((36 : Int) * v5) + v1)) ∧ rg v3 ∧ ((M 11 (((36 : Int) * v5) + v1)) ≠ v3 → K 16 [some (.inr 0), some (.inl v1), some (.inl v2), some (.inl v3), some (.inl (v4 + (0 : Int))), some (.inl (v5 + (1 : Int)))] [] M) ∧ ((M 11 (((36 : Int) * v5) + v1)) = v3 → K 16 [some (.inr 0), some (.inl v1), some (.inl v2), some (.inl v3), some (.inl (v4 + (1 : Int))), some (.inl (v5 + (1 : Int)))] [] M))) := rfl
def calX6_findNext (t127 t130 t142 : xT) : xCal := [(127, false, 1, true, t127), (130, false, 2, false, t130), (142, false, 2, false, t142)]
def cutX6_findNext : Nat → Bool := fun pc => Nat.beq pc 11 || Nat.beq pc 21
set_option maxRecDepth 100000 in
set_option maxHeartbeats 4000000 in
theorem vcX6_findNext_0 (Rt : xR) (K : xG) (t127 t130 t142 : xT) (M : xM) : xw LM fldX6 (calX6_findNext t127 t130 t142) [] 2 Rt iX6_findNext cutX6_findNext K 400 0 [some (.inr 0), none, none, none] [] M = (t127 [.inr 0] M (fun r1 M1 => K 11 [some (.inr 0), some (.inl (0 : Int)), none, none] [] (xup M1 0 19 (-1 : Int)))) := rfl
set_option maxRecDepth 100000 in
set_option maxHeartbeats 4000000 in
theorem vcX6_findNext_11 (Rt : xR) (K : xG) (t127 t130 t142 : xT) (M : xM) (v1 : Int) (o2 o3 : Option xV) : xw LM fldX6 (calX6_findNext t127 t130 t142) [] 2 Rt iX6_findNext cutX6_findNext K 400 11 [some (.inr 0), some (.inl v1), o2, o3] [] M = (rg v1 ∧ rg (6 : Int) ∧ ((6 : Int) ≤ v1 → rg (M 0 19) ∧ rg (-1 : Int) ∧ ((M 0 19) = (-1 : Int) → ((0 : Int) = 0 ∨ (0 : Int) = 1) ∧ Rt (0 : Int) M) ∧ ((M 0 19) ≠ (-1 : Int) → ((1 : Int) = 0 ∨ (1 : Int) = 1) ∧ Rt (1 : Int) M)) ∧ (v1 < (6 : Int) → K 21 [some (.inr 0), some (.inl v1), some (.inl (v1 + (1 : Int))), o3] [] M)) := rfl
set_option maxRecDepth 100000 in
set_option maxHeartbeats 4000000 in
theorem vcX6_findNext_21 (Rt : xR) (K : xG) (t127 t130 t142 : xT) (M : xM) (v1 v2 : Int) (o3 : Option xV) : xw LM fldX6 (calX6_findNext t127 t130 t142) [] 2 Rt iX6_findNext cutX6_findNext K 400 21 [some (.inr 0), some (.inl v1), some (.inl v2), o3] [] M = (rg v2 ∧ rg (6 : Int) ∧ ((6 : Int) ≤ v2 → K 11 [some (.inr 0), some (.inl (v1 + (1 : Int))), some (.inl v2), o3] [] M) ∧ (v2 < (6 : Int) → rg (M 0 13) ∧ ((M 0 13) ≤ 0 → K 11 [some (.inr 0), some (.inl (v1 + (1 : Int))), some (.inl v2), o3] [] M) ∧ (0 < (M 0 13) → t130 [.inr 0, .inl v1] M (fun r1 M1 => rg r1 ∧ (r1 = 0 → K 21 [some (.inr 0), some (.inl v1), some (.inl (v2 + (1 : Int))), o3] [] M1) ∧ (r1 ≠ 0 → t130 [.inr 0, .inl v2] M1 (fun r2 M2 => rg r2 ∧ (r2 = 0 → K 21 [some (.inr 0), some (.inl v1), some (.inl (v2 + (1 : Int))), o3] [] M2) ∧ (r2 ≠ 0 → t142 [.inr 0, .inl (((6 : Int) * v1) + v2)] M2 (fun r3 M3 => rg (M3 0 19) ∧ rg (-1 : Int) ∧ ((M3 0 19) = (-1 : Int) → K 21 [some (.inr 0), some (.inl v1), some (.inl (v2 + (1 : Int))), some (.inl r3)] [] (xup (xup M3 0 19 (((6 : Int) * v1) + v2)) 0 20 r3)) ∧ ((M3 0 19) ≠ (-1 : Int) → rg r3 ∧ rg (M3 0 20) ∧ ((M3 0 20) ≤ r3 → K 21 [some (.inr 0), some (.inl v1), some (.inl (v2 + (1 : Int))), some (.inl r3)] [] M3) ∧ (r3 < (M3 0 20) → K 21 [some (.inr 0), some (.inl v1), some (.inl (v2 + (1 : Int))), some (.inl r3)] [] (xup (xup M3 0 19 (((6 : Int) * v1) + v2)) 0 20 r3))))))))))) := rfl
def calX6_next (t148 : xT) : xCal := [(148, false, 1, false, t148)]
def cutX6_next : Nat → Bool := fun pc => false
set_option maxRecDepth 100000 in
set_option maxHeartbeats 4000000 in
theorem vcX6_next_0 (Rt : xR) (K : xG) (t148 : xT) (M : xM) : xw LM fldX6 (calX6_next t148) [] 1 Rt iX6_next cutX6_next K 400 0 [some (.inr 0)] [] M = (t148 [.inr 0] M (fun r1 M1 => rg r1 ∧ (r1 = 0 → Rt (-6 : Int) M1) ∧ (r1 ≠ 0 → (0 ≤ (M1 0 19) ∧ (M1 0 19) < 2147483648 ∧ 0 < (6 : Int) ∧ (6 : Int) < 2147483648) ∧ (0 ≤ (M1 0 19) ∧ (M1 0 19) < 2147483648 ∧ 0 < (6 : Int) ∧ (6 : Int) < 2147483648) ∧ Rt (((10 : Int) * ((M1 0 19) / (6 : Int))) + ((M1 0 19) % (6 : Int))) M1))) := rfl
def calX6_worst (t148 : xT) : xCal := [(148, false, 1, false, t148)]
def cutX6_worst : Nat → Bool := fun pc => false
set_option maxRecDepth 100000 in
set_option maxHeartbeats 4000000 in
theorem vcX6_worst_0 (Rt : xR) (K : xG) (t148 : xT) (M : xM) : xw LM fldX6 (calX6_worst t148) [] 1 Rt iX6_worst cutX6_worst K 400 0 [some (.inr 0)] [] M = (t148 [.inr 0] M (fun r1 M1 => rg r1 ∧ (r1 = 0 → Rt (-6 : Int) M1) ∧ (r1 ≠ 0 → Rt (M1 0 20) M1))) := rfl
def calX6_count (t60 t130 t100 : xT) : xCal := [(60, false, 1, false, t60), (130, false, 2, false, t130), (100, false, 2, false, t100)]
def cutX6_count : Nat → Bool := fun pc => Nat.beq pc 48
set_option maxRecDepth 100000 in
set_option maxHeartbeats 4000000 in
theorem vcX6_count_0 (Rt : xR) (K : xG) (t60 t130 t100 : xT) (M : xM) (v1 : Int) : xw LM fldX6 (calX6_count t60 t130 t100) [] 1 Rt iX6_count cutX6_count K 400 0 [some (.inr 0), some (.inl v1), none, none] [] M = (rg v1 ∧ (v1 < (0 : Int) → Rt (-2 : Int) M) ∧ ((4 : Int) < v1 → Rt (-2 : Int) M) ∧ (v1 = (0 : Int) → Rt (M 0 0) M) ∧ (v1 = (0 : Int) + 1 → t60 [.inr 0] M (fun r1 M1 => Rt r1 M1)) ∧ (v1 = (0 : Int) + 1 + 1 → K 48 [some (.inr 0), some (.inl v1), some (.inl (0 : Int)), some (.inl (0 : Int))] [] M) ∧ (v1 = (0 : Int) + 1 + 1 + 1 → Rt (M 0 3) M) ∧ (v1 = (0 : Int) + 1 + 1 + 1 + 1 → t100 [.inr 0, .inl ((xi (1 : Int) <<< (xi (M 0 0) &&& 31)).toInt - (1 : Int))] M (fun r2 M2 => Rt r2 M2)) ∧ True) := rfl
set_option maxRecDepth 100000 in
set_option maxHeartbeats 4000000 in
theorem vcX6_count_48 (Rt : xR) (K : xG) (t60 t130 t100 : xT) (M : xM) (v1 v2 v3 : Int) : xw LM fldX6 (calX6_count t60 t130 t100) [] 1 Rt iX6_count cutX6_count K 400 48 [some (.inr 0), some (.inl v1), some (.inl v2), some (.inl v3)] [] M = (rg v3 ∧ rg (6 : Int) ∧ ((6 : Int) ≤ v3 → Rt v2 M) ∧ (v3 < (6 : Int) → t130 [.inr 0, .inl v3] M (fun r1 M1 => rg r1 ∧ (r1 = 0 → K 48 [some (.inr 0), some (.inl v1), some (.inl (v2 + (0 : Int))), some (.inl (v3 + (1 : Int)))] [] M1) ∧ (r1 ≠ 0 → K 48 [some (.inr 0), some (.inl v1), some (.inl (v2 + (1 : Int))), some (.inl (v3 + (1 : Int)))] [] M1)))) := rfl
end
section
/-! specs of methods: their shapes; bits -/
def spV0 (c0 : Nat) (f : xM → xR → Prop) : xT := fun as M Post => as = [.inr c0] ∧ f M Post
def spV1 (c0 : Nat) (f : Int → xM → xR → Prop) : xT := fun as M Post => ∃ a, as = [.inr c0, .inl a] ∧ f a M Post
def spV2 (c0 : Nat) (f : Int → Int → xM → xR → Prop) : xT := fun as M Post => ∃ a b, as = [.inr c0, .inl a, .inl b] ∧ f a b M Post
def spV3 (c0 : Nat) (f : Int → Int → Int → xM → xR → Prop) : xT := fun as M Post => ∃ a b c, as = [.inr c0, .inl a, .inl b, .inl c] ∧ f a b c M Post
def spS1 (f : Int → xM → xR → Prop) : xT := fun as M Post => ∃ a, as = [.inl a] ∧ f a M Post
def spS2 (f : Int → Int → xM → xR → Prop) : xT := fun as M Post => ∃ a b, as = [.inl a, .inl b] ∧ f a b M Post
def spS3 (f : Int → Int → Int → xM → xR → Prop) : xT := fun as M Post => ∃ a b c, as = [.inl a, .inl b, .inl c] ∧ f a b c M Post
theorem spV0_e {c0 : Nat} {f : xM → xR → Prop} {M : xM} {Post : xR} : spV0 c0 f [.inr c0] M Post = f M Post := propext ⟨fun h => h.2, fun h => ⟨rfl, h⟩⟩
theorem spV1_e {c0 : Nat} {f : Int → xM → xR → Prop} {a : Int} {M : xM} {Post : xR} : spV1 c0 f [.inr c0, .inl a] M Post = f a M Post := propext ⟨fun ⟨_, e, h⟩ => by cases e; exact h, fun h => ⟨_, rfl, h⟩⟩
theorem spV2_e {c0 : Nat} {f : Int → Int → xM → xR → Prop} {a b : Int} {M : xM} {Post : xR} : spV2 c0 f [.inr c0, .inl a, .inl b] M Post = f a b M Post := propext ⟨fun ⟨_, _, e, h⟩ => by cases e; exact h, fun h => ⟨_, _, rfl, h⟩⟩
theorem spV3_e {c0 : Nat} {f : Int → Int → Int → xM → xR → Prop} {a b c : Int} {M : xM} {Post : xR} : spV3 c0 f [.inr c0, .inl a, .inl b, .inl c] M Post = f a b c M Post := propext ⟨fun ⟨_, _, _, e, h⟩ => by cases e; exact h, fun h => ⟨_, _, _, rfl, h⟩⟩
theorem spS1_e {f : Int → xM → xR → Prop} {a : Int} {M : xM} {Post : xR} : spS1 f [.inl a] M Post = f a M Post := propext ⟨fun ⟨_, e, h⟩ => by cases e; exact h, fun h => ⟨_, rfl, h⟩⟩
theorem spS2_e {f : Int → Int → xM → xR → Prop} {a b : Int} {M : xM} {Post : xR} : spS2 f [.inl a, .inl b] M Post = f a b M Post := propext ⟨fun ⟨_, _, e, h⟩ => by cases e; exact h, fun h => ⟨_, _, rfl, h⟩⟩
theorem spS3_e {f : Int → Int → Int → xM → xR → Prop} {a b c : Int} {M : xM} {Post : xR} : spS3 f [.inl a, .inl b, .inl c] M Post = f a b c M Post := propext ⟨fun ⟨_, _, _, e, h⟩ => by cases e; exact h, fun h => ⟨_, _, _, rfl, h⟩⟩
theorem spV0_r {c0 : Nat} {f : xM → xR → Prop} : ∀ as M Post, spV0 c0 f as M Post → ∃ as', as = .inr c0 :: as' := fun _ _ _ h => ⟨[], h.1⟩
theorem spV1_r {c0 : Nat} {f : Int → xM → xR → Prop} : ∀ as M Post, spV1 c0 f as M Post → ∃ as', as = .inr c0 :: as' := fun _ _ _ h => by obtain ⟨a, h, -⟩ := h; exact ⟨_, h⟩
theorem spV2_r {c0 : Nat} {f : Int → Int → xM → xR → Prop} : ∀ as M Post, spV2 c0 f as M Post → ∃ as', as = .inr c0 :: as' := fun _ _ _ h => by obtain ⟨a, b, h, -⟩ := h; exact ⟨_, h⟩
theorem spV3_r {c0 : Nat} {f : Int → Int → Int → xM → xR → Prop} : ∀ as M Post, spV3 c0 f as M Post → ∃ as', as = .inr c0 :: as' := fun _ _ _ h => by obtain ⟨a, b, c, h, -⟩ := h; exact ⟨_, h⟩
section XM2
variable {p : Program} {l : Launch} {e : Env} {R : Room} {s : State} {m : MethodId} {args : Array Value} {below : List Frame} {meth : Method} {c : Code}
variable {D : va_G} {T : Nat → ClassId} {ad : Nat → Nat} {L : List xD} {nL : Nat} {cc : ByteArray} {own : String}
/-! Math.max, Math.min: the kit's own rows -/
def f_max (a b : Int) (M : xM) (Post : xR) : Prop := rg a ∧ rg b ∧ Post (max a b) M
def f_min (a b : Int) (M : xM) (Post : xR) : Prop := rg a ∧ rg b ∧ Post (min a b) M
abbrev sp_J9_max_7cf53 : xT := spS2 f_max
abbrev sp_J9_min_7cf53 : xT := spS2 f_min
def xMath (own : String) (q : Nat × Bool × Nat × Bool × xT) : Prop := Cond.initialized "java/lang/Math" ∈ xtb ∧ ((q.2 = (true, 2, false, sp_J9_max_7cf53) ∧ Cond.methodLink own q.1 Lib.Math.max.name ∈ xtb ∧ Cond.static Lib.Math.max.name ∈ xtb ∧ Cond.code Lib.Math.max.name Lib.Math.max.code 2 (some .int) ∈ xtb) ∨ (q.2 = (true, 2, false, sp_J9_min_7cf53) ∧ Cond.methodLink own q.1 Lib.Math.min.name ∈ xtb ∧ Cond.static Lib.Math.min.name ∈ xtb ∧ Cond.code Lib.Math.min.name Lib.Math.min.code 2 (some .int) ∈ xtb))
def xCallee2 (l : Launch) (D : va_G) (T : Nat → ClassId) (ad : Nat → Nat) (L : List xD) (own : String) (h : Nat) (q : Nat × Bool × Nat × Bool × xT) : Prop := xCallee l D T ad L own h q ∨ (1 ≤ h ∧ xMath own q)
theorem xCOk_of2 {Q : State → Prop} {h : Nat} {q : Nat × Bool × Nat × Bool × xT} (hX : xX p s m args c D T cc nL own) (hq : xCallee2 l D T ad L own h q) : xCOk p l e (xrm h) s m args below meth c D T ad L nL Q cc q := by
  rcases hq with hq | ⟨h1, hini, hq⟩
  · exact xCOk_of hX hq
  · obtain ⟨hx, hb, hml, hown, hts, hK, hN⟩ := id hX
    have hlo : ∀ rest : List xV, rest.length ≤ 8 → ((rest.map (xv ad)).map fun v => v.category).sum + 13 ≤ (xrm h).locals := fun rest hr => by
      rw [xsum]
      show rest.length + 13 ≤ 40 * h
      omega
    obtain ⟨idx, q2⟩ := q
    rcases hq with ⟨rfl, w1, w2, w3⟩ | ⟨rfl, w1, w2, w3⟩
    · intro pc lv as rest M Post hdec hlen hrest htr hgo H locs ls hP hS hl
      obtain ⟨a, b, rfl, ha, hb', hpost⟩ := htr
      have hsz : ls.size = nL := hl.2.choose_spec.1.1
      refine va_mmax hx hb (hml.trans hsz.symm) hown (hts _ w1) (hts _ w2) (hts _ hini) (hts _ w3) h1 (hlo rest hrest) (Nat.zero_le _) (Nat.zero_le _) hdec ?_
      have h2 := hgo _ M hpost H locs ls hP hS hl
      have e2 : (if xi a < xi b then xi b else xi a) = xi (max a b) := by
        by_cases hab : a < b
        · rw [if_pos ((xi_lt ha hb').mpr hab), Int.max_eq_right (by omega)]
        · rw [if_neg (fun z => hab ((xi_lt ha hb').mp z)), Int.max_eq_left (by omega)]
      rw [e2]
      exact h2
    · intro pc lv as rest M Post hdec hlen hrest htr hgo H locs ls hP hS hl
      obtain ⟨a, b, rfl, ha, hb', hpost⟩ := htr
      have hsz : ls.size = nL := hl.2.choose_spec.1.1
      refine va_mmin hx hb (hml.trans hsz.symm) hown (hts _ w1) (hts _ w2) (hts _ hini) (hts _ w3) h1 (hlo rest hrest) (Nat.zero_le _) (Nat.zero_le _) hdec ?_
      have h2 := hgo _ M hpost H locs ls hP hS hl
      have e2 : (if xi b < xi a then xi b else xi a) = xi (min a b) := by
        by_cases hab : b < a
        · rw [if_pos ((xi_lt hb' ha).mpr hab), Int.min_eq_right (by omega)]
        · rw [if_neg (fun z => hab ((xi_lt hb' ha).mp z)), Int.min_eq_left (by omega)]
      rw [e2]
      exact h2
set_option maxHeartbeats 4000000 in
/-- A METHOD: its code, its cuts with an invariant and a measure, its callees -/
theorem xmet2 {y : MethodName} {ret : Option FieldType} {h : Nat} {tr : xT} {fld : xFld} {cals : xCal} {cst : xCst} {rt : Nat} {I : Nat → Option (Instr × List Nat)} {cut : Nat → Bool} (hO : xOk ad L)
    (hy : plainName y.cls = true) (hrt : (rt = 0 → ret = none) ∧ (rt = 1 → ret = some .int) ∧ (rt = 2 → ret = some .boolean)) (hI : xIOk cc I) (hF : ∀ q ∈ fld, xFOk y.cls q) (hKc : ∀ q ∈ cst, xKOk y.cls q) (hC : ∀ q ∈ cals, xCallee2 l D T ad L y.cls h q)
    (hb : ∀ (as : List xV) (M : xM) (Post : xR), tr as M Post → as.length ≤ nL ∧ ∃ (Inv : xG) (μ : Nat → xL → List xV → xM → Nat) (f0 f1 : Nat),
      xw L fld cals cst rt Post I cut Inv f0 0 (xlv as nL) [] M ∧ ∀ pc lv st M', Inv pc lv st M' → xw L fld cals cst rt Post I cut (fun pc2 lv2 st2 M2 => Inv pc2 lv2 st2 M2 ∧ μ pc2 lv2 st2 M2 < μ pc lv st M') f1 pc lv st M') :
    xMet l D T ad L y cc nL ret (decide (rt = 0)) h tr := by
  intro as M Post htr
  obtain ⟨hlen, Inv, μ, f0, f1, h0, h1⟩ := hb as M Post htr
  refine Met.ofW (cc := cc) (maxL := nL) (ret := ret) hy rfl ?_
  intro p e s m args below meth c s₁ B hml hv
  obtain ⟨rfl, hP, hK, hN⟩ := hv
  have hts : ∀ w ∈ xtb, w.before (as.map (xv ad)).toArray s = true := fun w hw => atoms_spec (ws := Cond.code y cc nL ret :: xtb) B.pre w (List.mem_cons_of_mem _ hw)
  have hown : s.vm.findClass y.cls = some m.cls := findClass_of_methodNamed B.named
  have hX : xX p s m (as.map (xv ad)).toArray c D T cc nL y.cls := ⟨B.exec, B.bytes, hml, hown, hts, hK, hN⟩
  have hCs : ∀ q ∈ cals, xCOk p l e (xrm h) s m (as.map (xv ad)).toArray below meth c D T ad L nL (MQ below (xQ D T ad L (decide (rt = 0)) Post) (as.map (xv ad)).toArray s 0 0 (xA ad L)) cc q := fun q hq => xCOk_of2 hX (hC q hq)
  have hInv : ∀ (n : Nat) pc lv st M', Inv pc lv st M' → μ pc lv st M' < n → Wx p l e (xrm h) s m (as.map (xv ad)).toArray below meth c D T ad L nL (MQ below (xQ D T ad L (decide (rt = 0)) Post) (as.map (xv ad)).toArray s 0 0 (xA ad L)) pc lv st M' := by
    intro n
    induction n with
    | zero => intro pc lv st M' _ hlt; omega
    | succ n ih =>
      intro pc lv st M' hi hlt
      exact xw_ok hX B.notSynchronized B.returns hrt hO hF hKc hCs hI (fun pc2 lv2 st2 M2 hk => ih pc2 lv2 st2 M2 hk.1 (by have := hk.2; omega)) f1 pc lv st M' (h1 pc lv st M' hi)
  have hW := xw_ok hX B.notSynchronized B.returns hrt hO hF hKc hCs hI (fun pc2 lv2 st2 M2 hk => hInv _ pc2 lv2 st2 M2 hk (Nat.lt_succ_self _)) f0 0 (xlv as nL) [] M h0
  rw [lg_entry_eq]
  exact hW s.heap [] _ hP va_S.rf (xlv_ent hlen)
end XM2
section XM0
variable {l : Launch} {D : va_G} {T : Nat → ClassId} {ad : Nat → Nat} {L : List xD} {nL : Nat} {cc : ByteArray}
/-- a method without a loop -/
theorem xmet0 {y : MethodName} {ret : Option FieldType} {h : Nat} {tr : xT} {fld : xFld} {cals : xCal} {cst : xCst} {rt : Nat} {I : Nat → Option (Instr × List Nat)} {cut : Nat → Bool} (hO : xOk ad L)
    (hy : plainName y.cls = true) (hrt : (rt = 0 → ret = none) ∧ (rt = 1 → ret = some .int) ∧ (rt = 2 → ret = some .boolean)) (hI : xIOk cc I) (hF : ∀ q ∈ fld, xFOk y.cls q) (hKc : ∀ q ∈ cst, xKOk y.cls q) (hC : ∀ q ∈ cals, xCallee l D T ad L y.cls h q)
    (hb : ∀ (as : List xV) (M : xM) (Post : xR), tr as M Post → as.length ≤ nL ∧ xw L fld cals cst rt Post I cut (fun _ _ _ _ => False) 400 0 (xlv as nL) [] M) :
    xMet l D T ad L y cc nL ret (decide (rt = 0)) h tr := xmet hO hy hrt hI hF hKc hC (fun as M Post ht => ⟨(hb as M Post ht).1, fun _ _ _ _ => False, fun _ _ _ _ => 0, 400, 0, (hb as M Post ht).2, fun _ _ _ _ h => h.elim⟩)
end XM0
-- bits
theorem s_l : ∀ n, n < 32 → ((nI n &&& 31).toBitVec.smod 32).toNat = n := by decide +kernel
theorem nx_and (a b : Nat) : nI a &&& nI b = nI (a &&& b) := by
  apply Int32.toBitVec_inj.1
  show BitVec.ofNat 32 a &&& BitVec.ofNat 32 b = BitVec.ofNat 32 (a &&& b)
  apply BitVec.eq_of_getLsbD_eq
  intro i hi
  simp [hi]
theorem nx_or (a b : Nat) : nI a ||| nI b = nI (a ||| b) := by
  apply Int32.toBitVec_inj.1
  show BitVec.ofNat 32 a ||| BitVec.ofNat 32 b = BitVec.ofNat 32 (a ||| b)
  apply BitVec.eq_of_getLsbD_eq
  intro i hi
  simp [hi]
theorem bs_n (n : Nat) (h : n < 2147483648) : (nI n).toInt = (n : Int) := nI_toInt (by omega)
theorem bs_and {a b : Nat} (ha : a < 2147483648) : (xi (a : Int) &&& xi (b : Int)).toInt = ((a &&& b : Nat) : Int) := by
  rw [xi_nI, xi_nI, nx_and, bs_n]
  exact Nat.lt_of_le_of_lt Nat.and_le_left ha
theorem bs_or {a b : Nat} (ha : a < 2147483648) (hb : b < 2147483648) : (xi (a : Int) ||| xi (b : Int)).toInt = ((a ||| b : Nat) : Int) := by
  rw [xi_nI, xi_nI, nx_or, bs_n]
  exact Nat.or_lt_two_pow (n := 31) ha hb
theorem bs_shr {a k : Nat} (ha : a < 2147483648) (hk : k < 32) : (xi (a : Int) >>> (xi (k : Int) &&& 31)).toInt = ((a / 2 ^ k : Nat) : Int) := by
  rw [xi_nI, xi_nI, pk_shrN ha _ k (s_l k hk), bs_n]
  exact Nat.lt_of_le_of_lt (Nat.div_le_self _ _) ha
theorem bs_shl {a k : Nat} (hk : k < 32) (h : a * 2 ^ k < 2147483648) : (xi (a : Int) <<< (xi (k : Int) &&& 31)).toInt = ((a * 2 ^ k : Nat) : Int) := by
  rw [xi_nI, xi_nI, pk_shlN _ k (s_l k hk) (by omega), bs_n _ h]
theorem bs_one {k : Nat} (hk : k < 31) : (xi 1 <<< (xi (k : Int) &&& 31)).toInt = ((2 ^ k : Nat) : Int) := by
  have h2 : 2 ^ k < 2147483648 := Nat.pow_lt_pow_right (a := 2) (m := k) (n := 31) (by omega) hk
  have := bs_shl (a := 1) (k := k) (by omega) (by omega)
  rw [Nat.one_mul] at this
  exact this
/-- the bit i of a number -/
def tb (x : Int) (i : Int) : Prop := x.toNat.testBit i.toNat = true
theorem tb_iff {a k : Nat} : tb (a : Int) (k : Int) ↔ a / 2 ^ k % 2 = 1 := by
  unfold tb
  rw [Int.toNat_natCast, Int.toNat_natCast, Nat.testBit_eq_decide_div_mod_eq, decide_eq_true_eq]
theorem bs_bit {x i : Int} (hx : 0 ≤ x ∧ x < 2147483648) (hi : 0 ≤ i ∧ i < 32) : (xi ((xi x >>> (xi i &&& 31)).toInt) &&& xi 1).toInt = 1 ∧ tb x i ∨ (xi ((xi x >>> (xi i &&& 31)).toInt) &&& xi 1).toInt = 0 ∧ ¬ tb x i := by
  obtain ⟨a, rfl⟩ : ∃ a : Nat, x = a := ⟨x.toNat, by omega⟩
  obtain ⟨k, rfl⟩ : ∃ k : Nat, i = k := ⟨i.toNat, by omega⟩
  have h1 : a / 2 ^ k < 2147483648 := Nat.lt_of_le_of_lt (Nat.div_le_self _ _) (by omega)
  rw [tb_iff, bs_shr (by omega) (by omega), show (1 : Int) = ((1 : Nat) : Int) from rfl, bs_and h1, Nat.and_one_is_mod]
  omega
end
section
/-! NetShape's own small ones, the JDK's -/
def f_X5_hasBit (x i : Int) (M : xM) (Post : xR) : Prop := (0 ≤ x ∧ x < 2147483648) ∧ (0 ≤ i ∧ i < 32) ∧ ∀ r, (r = 1 ∧ tb x i ∨ r = 0 ∧ ¬ tb x i) → Post r M
abbrev sp_X5_hasBit : xT := spS2 f_X5_hasBit
set_option maxRecDepth 100000 in
set_option maxHeartbeats 4000000 in
theorem b_X5_hasBit (as : List xV) (M : xM) (Post : xR) (h : sp_X5_hasBit as M Post) : as.length ≤ 2 ∧ xw LX fldX5 calX5_hasBit [] 2 Post iX5_hasBit cutX5_hasBit (fun _ _ _ _ => False) 400 0 (xlv as 2) [] M := by
  obtain ⟨v0, v1, rfl, h⟩ := h
  refine ⟨by simp, ?_⟩
  refine Eq.mpr (vcX5_hasBit_0 ..) ?_
  obtain ⟨hx, hi, hp⟩ := h
  have := bs_bit hx hi
  simp only [rg]
  grind
theorem k_X5_hasBit {l : Launch} {D : va_G} {T : Nat → ClassId} {ad : Nat → Nat} (hO : xOk ad LX) : xMet l D T ad LX yX5_hasBit cX5_hasBit 2 (some .boolean) false 0 sp_X5_hasBit :=
  xmet0 (rt := 2) (fld := fldX5) (cals := calX5_hasBit) (cst := []) (I := iX5_hasBit) (cut := cutX5_hasBit) hO (by decide +kernel) ⟨by decide, by decide, by decide⟩ oX5_hasBit foX5 (fun _ h => absurd h List.not_mem_nil) (fun _ h => absurd h List.not_mem_nil) b_X5_hasBit
def f_X5_isName (x : Int) (M : xM) (Post : xR) : Prop := rg x ∧ ∀ r, (r = 1 ∧ 0 ≤ x ∧ x < 6 ∨ r = 0 ∧ ¬ (0 ≤ x ∧ x < 6)) → Post r M
abbrev sp_X5_isName : xT := spS1 f_X5_isName
set_option maxRecDepth 100000 in
set_option maxHeartbeats 4000000 in
theorem b_X5_isName (as : List xV) (M : xM) (Post : xR) (h : sp_X5_isName as M Post) : as.length ≤ 1 ∧ xw LX fldX5 calX5_isName [] 2 Post iX5_isName cutX5_isName (fun _ _ _ _ => False) 400 0 (xlv as 1) [] M := by
  obtain ⟨v0, rfl, h⟩ := h
  refine ⟨by simp, ?_⟩
  refine Eq.mpr (vcX5_isName_0 ..) ?_
  obtain ⟨hx, hp⟩ := h
  simp only [rg] at *
  grind
theorem k_X5_isName {l : Launch} {D : va_G} {T : Nat → ClassId} {ad : Nat → Nat} (hO : xOk ad LX) : xMet l D T ad LX yX5_isName cX5_isName 1 (some .boolean) false 0 sp_X5_isName :=
  xmet0 (rt := 2) (fld := fldX5) (cals := calX5_isName) (cst := []) (I := iX5_isName) (cut := cutX5_isName) hO (by decide +kernel) ⟨by decide, by decide, by decide⟩ oX5_isName foX5 (fun _ h => absurd h List.not_mem_nil) (fun _ h => absurd h List.not_mem_nil) b_X5_isName
def f_X5_isBox (x : Int) (M : xM) (Post : xR) : Prop := rg x ∧ ∀ r, (r = 1 ∧ 0 ≤ x ∧ x < 10 ∨ r = 0 ∧ ¬ (0 ≤ x ∧ x < 10)) → Post r M
abbrev sp_X5_isBox : xT := spS1 f_X5_isBox
set_option maxRecDepth 100000 in
set_option maxHeartbeats 4000000 in
theorem b_X5_isBox (as : List xV) (M : xM) (Post : xR) (h : sp_X5_isBox as M Post) : as.length ≤ 1 ∧ xw LX fldX5 calX5_isBox [] 2 Post iX5_isBox cutX5_isBox (fun _ _ _ _ => False) 400 0 (xlv as 1) [] M := by
  obtain ⟨v0, rfl, h⟩ := h
  refine ⟨by simp, ?_⟩
  refine Eq.mpr (vcX5_isBox_0 ..) ?_
  obtain ⟨hx, hp⟩ := h
  simp only [rg] at *
  grind
theorem k_X5_isBox {l : Launch} {D : va_G} {T : Nat → ClassId} {ad : Nat → Nat} (hO : xOk ad LX) : xMet l D T ad LX yX5_isBox cX5_isBox 1 (some .boolean) false 0 sp_X5_isBox :=
  xmet0 (rt := 2) (fld := fldX5) (cals := calX5_isBox) (cst := []) (I := iX5_isBox) (cut := cutX5_isBox) hO (by decide +kernel) ⟨by decide, by decide, by decide⟩ oX5_isBox foX5 (fun _ h => absurd h List.not_mem_nil) (fun _ h => absurd h List.not_mem_nil) b_X5_isBox
/-- box s of a packed code -/
def bxc (code s : Int) : Int := code / 16 ^ s.toNat % 16
def f_X5_boxIn (x s : Int) (M : xM) (Post : xR) : Prop := (0 ≤ x ∧ x < 65536) ∧ (0 ≤ s ∧ s < 4) ∧ Post (bxc x s) M
theorem bxc_ok {x s : Int} (hx : 0 ≤ x ∧ x < 65536) (hs : 0 ≤ s ∧ s < 4) : (xi ((xi x >>> (xi (s * 4) &&& 31)).toInt) &&& xi 15).toInt = bxc x s := by
  obtain ⟨a, rfl⟩ : ∃ a : Nat, x = a := ⟨x.toNat, by omega⟩
  obtain ⟨k, rfl⟩ : ∃ k : Nat, s = k := ⟨s.toNat, by omega⟩
  have h1 : a / 2 ^ (k * 4) < 2147483648 := Nat.lt_of_le_of_lt (Nat.div_le_self _ _) (by omega)
  rw [show (k : Int) * 4 = ((k * 4 : Nat) : Int) by omega, bs_shr (by omega) (by omega), show (15 : Int) = ((15 : Nat) : Int) from rfl, bs_and h1, show (15 : Nat) = 2 ^ 4 - 1 from rfl, Nat.and_two_pow_sub_one_eq_mod]
  unfold bxc
  rw [Int.toNat_natCast, Nat.mul_comm k 4, Nat.pow_mul]
  simp
abbrev sp_X5_boxIn : xT := spS2 f_X5_boxIn
set_option maxRecDepth 100000 in
set_option maxHeartbeats 4000000 in
theorem b_X5_boxIn (as : List xV) (M : xM) (Post : xR) (h : sp_X5_boxIn as M Post) : as.length ≤ 2 ∧ xw LX fldX5 calX5_boxIn [] 1 Post iX5_boxIn cutX5_boxIn (fun _ _ _ _ => False) 400 0 (xlv as 2) [] M := by
  obtain ⟨v0, v1, rfl, h⟩ := h
  refine ⟨by simp, ?_⟩
  refine Eq.mpr (vcX5_boxIn_0 ..) ?_
  obtain ⟨hx, hs, hp⟩ := h
  rw [bxc_ok hx hs]
  exact hp
theorem k_X5_boxIn {l : Launch} {D : va_G} {T : Nat → ClassId} {ad : Nat → Nat} (hO : xOk ad LX) : xMet l D T ad LX yX5_boxIn cX5_boxIn 2 (some .int) false 0 sp_X5_boxIn :=
  xmet0 (rt := 1) (fld := fldX5) (cals := calX5_boxIn) (cst := []) (I := iX5_boxIn) (cut := cutX5_boxIn) hO (by decide +kernel) ⟨by decide, by decide, by decide⟩ oX5_boxIn foX5 (fun _ h => absurd h List.not_mem_nil) (fun _ h => absurd h List.not_mem_nil) b_X5_boxIn
/-- how many of the bits 0 to 9 -/
def pop (x : Int) : Int := (((List.range 10).countP (fun i => x.toNat.testBit i) : Nat) : Int)
/-- what the bytecode of bitCount works out -/
def BC (v0 : Int) : Int := (xi (((xi (((xi (v0 - (xi (((xi v0).toUInt32 >>> ((xi (1 : Int)).toUInt32 &&& Int32.toUInt32 31)).toInt32).toInt &&& xi (1431655765 : Int)).toInt) &&& xi (858993459 : Int)).toInt + (xi (((xi (v0 - (xi (((xi v0).toUInt32 >>> ((xi (1 : Int)).toUInt32 &&& Int32.toUInt32 31)).toInt32).toInt &&& xi (1431655765 : Int)).toInt)).toUInt32 >>> ((xi (2 : Int)).toUInt32 &&& Int32.toUInt32 31)).toInt32).toInt &&& xi (858993459 : Int)).toInt) + (((xi ((xi (v0 - (xi (((xi v0).toUInt32 >>> ((xi (1 : Int)).toUInt32 &&& Int32.toUInt32 31)).toInt32).toInt &&& xi (1431655765 : Int)).toInt) &&& xi (858993459 : Int)).toInt + (xi (((xi (v0 - (xi (((xi v0).toUInt32 >>> ((xi (1 : Int)).toUInt32 &&& Int32.toUInt32 31)).toInt32).toInt &&& xi (1431655765 : Int)).toInt)).toUInt32 >>> ((xi (2 : Int)).toUInt32 &&& Int32.toUInt32 31)).toInt32).toInt &&& xi (858993459 : Int)).toInt)).toUInt32 >>> ((xi (4 : Int)).toUInt32 &&& Int32.toUInt32 31)).toInt32).toInt) &&& xi (252645135 : Int)).toInt + (((xi (xi (((xi (v0 - (xi (((xi v0).toUInt32 >>> ((xi (1 : Int)).toUInt32 &&& Int32.toUInt32 31)).toInt32).toInt &&& xi (1431655765 : Int)).toInt) &&& xi (858993459 : Int)).toInt + (xi (((xi (v0 - (xi (((xi v0).toUInt32 >>> ((xi (1 : Int)).toUInt32 &&& Int32.toUInt32 31)).toInt32).toInt &&& xi (1431655765 : Int)).toInt)).toUInt32 >>> ((xi (2 : Int)).toUInt32 &&& Int32.toUInt32 31)).toInt32).toInt &&& xi (858993459 : Int)).toInt) + (((xi ((xi (v0 - (xi (((xi v0).toUInt32 >>> ((xi (1 : Int)).toUInt32 &&& Int32.toUInt32 31)).toInt32).toInt &&& xi (1431655765 : Int)).toInt) &&& xi (858993459 : Int)).toInt + (xi (((xi (v0 - (xi (((xi v0).toUInt32 >>> ((xi (1 : Int)).toUInt32 &&& Int32.toUInt32 31)).toInt32).toInt &&& xi (1431655765 : Int)).toInt)).toUInt32 >>> ((xi (2 : Int)).toUInt32 &&& Int32.toUInt32 31)).toInt32).toInt &&& xi (858993459 : Int)).toInt)).toUInt32 >>> ((xi (4 : Int)).toUInt32 &&& Int32.toUInt32 31)).toInt32).toInt) &&& xi (252645135 : Int)).toInt).toUInt32 >>> ((xi (8 : Int)).toUInt32 &&& Int32.toUInt32 31)).toInt32).toInt) + (((xi ((xi (((xi (v0 - (xi (((xi v0).toUInt32 >>> ((xi (1 : Int)).toUInt32 &&& Int32.toUInt32 31)).toInt32).toInt &&& xi (1431655765 : Int)).toInt) &&& xi (858993459 : Int)).toInt + (xi (((xi (v0 - (xi (((xi v0).toUInt32 >>> ((xi (1 : Int)).toUInt32 &&& Int32.toUInt32 31)).toInt32).toInt &&& xi (1431655765 : Int)).toInt)).toUInt32 >>> ((xi (2 : Int)).toUInt32 &&& Int32.toUInt32 31)).toInt32).toInt &&& xi (858993459 : Int)).toInt) + (((xi ((xi (v0 - (xi (((xi v0).toUInt32 >>> ((xi (1 : Int)).toUInt32 &&& Int32.toUInt32 31)).toInt32).toInt &&& xi (1431655765 : Int)).toInt) &&& xi (858993459 : Int)).toInt + (xi (((xi (v0 - (xi (((xi v0).toUInt32 >>> ((xi (1 : Int)).toUInt32 &&& Int32.toUInt32 31)).toInt32).toInt &&& xi (1431655765 : Int)).toInt)).toUInt32 >>> ((xi (2 : Int)).toUInt32 &&& Int32.toUInt32 31)).toInt32).toInt &&& xi (858993459 : Int)).toInt)).toUInt32 >>> ((xi (4 : Int)).toUInt32 &&& Int32.toUInt32 31)).toInt32).toInt) &&& xi (252645135 : Int)).toInt + (((xi (xi (((xi (v0 - (xi (((xi v0).toUInt32 >>> ((xi (1 : Int)).toUInt32 &&& Int32.toUInt32 31)).toInt32).toInt &&& xi (1431655765 : Int)).toInt) &&& xi (858993459 : Int)).toInt + (xi (((xi (v0 - (xi (((xi v0).toUInt32 >>> ((xi (1 : Int)).toUInt32 &&& Int32.toUInt32 31)).toInt32).toInt &&& xi (1431655765 : Int)).toInt)).toUInt32 >>> ((xi (2 : Int)).toUInt32 &&& Int32.toUInt32 31)).toInt32).toInt &&& xi (858993459 : Int)).toInt) + (((xi ((xi (v0 - (xi (((xi v0).toUInt32 >>> ((xi (1 : Int)).toUInt32 &&& Int32.toUInt32 31)).toInt32).toInt &&& xi (1431655765 : Int)).toInt) &&& xi (858993459 : Int)).toInt + (xi (((xi (v0 - (xi (((xi v0).toUInt32 >>> ((xi (1 : Int)).toUInt32 &&& Int32.toUInt32 31)).toInt32).toInt &&& xi (1431655765 : Int)).toInt)).toUInt32 >>> ((xi (2 : Int)).toUInt32 &&& Int32.toUInt32 31)).toInt32).toInt &&& xi (858993459 : Int)).toInt)).toUInt32 >>> ((xi (4 : Int)).toUInt32 &&& Int32.toUInt32 31)).toInt32).toInt) &&& xi (252645135 : Int)).toInt).toUInt32 >>> ((xi (8 : Int)).toUInt32 &&& Int32.toUInt32 31)).toInt32).toInt)).toUInt32 >>> ((xi (16 : Int)).toUInt32 &&& Int32.toUInt32 31)).toInt32).toInt) &&& xi (63 : Int)).toInt
theorem us_n {n k : Nat} (hn : n < 2147483648) (hk : (((nI k).toUInt32 &&& Int32.toUInt32 31).toBitVec % 32).toNat = k) : (((xi (n : Int)).toUInt32 >>> ((xi (k : Int)).toUInt32 &&& Int32.toUInt32 31)).toInt32).toInt = ((n / 2 ^ k : Nat) : Int) := by
  rw [xi_nI, xi_nI, pk_ushrN (by omega) _ k hk, bs_n]
  exact Nat.lt_of_le_of_lt (Nat.div_le_self _ _) hn
def nbc1 (a : Nat) : Nat := a - (a / 2 ^ 1 &&& 1431655765)
def nbc2 (a : Nat) : Nat := (a &&& 858993459) + (a / 2 ^ 2 &&& 858993459)
def nbc3 (a : Nat) : Nat := (a + a / 2 ^ 4) &&& 252645135
def nbc4 (a : Nat) : Nat := a + a / 2 ^ 8
def nbc5 (a : Nat) : Nat := a + a / 2 ^ 16
theorem nbc : (List.range 1024).all (fun a => decide ((((nbc5 (nbc4 (nbc3 (nbc2 (nbc1 a)))) &&& 63 : Nat) : Int) = pop (a : Int))) && decide (nbc1 a < 1024)) = true := by decide +kernel
theorem BC_ok {a : Nat} (ha : a < 1024) : BC (a : Int) = pop (a : Int) := by
  have h0 := List.all_eq_true.mp nbc a (List.mem_range.mpr ha)
  rw [Bool.and_eq_true, decide_eq_true_eq, decide_eq_true_eq] at h0
  obtain ⟨h0, h1⟩ := h0
  rw [← h0]
  clear h0
  have e1 : (a : Int) - (xi ((((xi (a : Int)).toUInt32 >>> ((xi ((1 : Nat) : Int)).toUInt32 &&& Int32.toUInt32 31)).toInt32).toInt) &&& xi ((1431655765 : Nat) : Int)).toInt = ((nbc1 a : Nat) : Int) := by
    rw [us_n (by omega) (by decide +kernel), bs_and (Nat.lt_of_le_of_lt (Nat.div_le_self _ _) (by omega))]
    have : a / 2 ^ 1 &&& 1431655765 ≤ a := Nat.le_trans Nat.and_le_left (Nat.div_le_self _ _)
    unfold nbc1
    omega
  generalize nbc1 a = b at e1 h1 ⊢
  have e2 : (xi (b : Int) &&& xi ((858993459 : Nat) : Int)).toInt + (xi ((((xi (b : Int)).toUInt32 >>> ((xi ((2 : Nat) : Int)).toUInt32 &&& Int32.toUInt32 31)).toInt32).toInt) &&& xi ((858993459 : Nat) : Int)).toInt = ((nbc2 b : Nat) : Int) := by
    rw [us_n (by omega) (by decide +kernel), bs_and (by omega), bs_and (Nat.lt_of_le_of_lt (Nat.div_le_self _ _) (by omega))]
    unfold nbc2
    omega
  have h2 : nbc2 b < 2048 := by
    have q1 : b &&& 858993459 ≤ b := Nat.and_le_left
    have q2 : b / 2 ^ 2 &&& 858993459 ≤ b := Nat.le_trans Nat.and_le_left (Nat.div_le_self _ _)
    unfold nbc2
    omega
  generalize nbc2 b = d at e2 h2 ⊢
  have e3 : (xi ((d : Int) + (((xi (d : Int)).toUInt32 >>> ((xi ((4 : Nat) : Int)).toUInt32 &&& Int32.toUInt32 31)).toInt32).toInt) &&& xi ((252645135 : Nat) : Int)).toInt = ((nbc3 d : Nat) : Int) := by
    have q : d / 2 ^ 4 ≤ d := Nat.div_le_self _ _
    rw [us_n (by omega) (by decide +kernel), show (d : Int) + ((d / 2 ^ 4 : Nat) : Int) = ((d + d / 2 ^ 4 : Nat) : Int) by omega, bs_and (by omega)]
    rfl
  have h3 : nbc3 d < 4096 := by
    have q : d / 2 ^ 4 ≤ d := Nat.div_le_self _ _
    have q1 : (d + d / 2 ^ 4) &&& 252645135 ≤ d + d / 2 ^ 4 := Nat.and_le_left
    unfold nbc3
    omega
  generalize nbc3 d = f at e3 h3 ⊢
  have e4 : (f : Int) + (((xi (f : Int)).toUInt32 >>> ((xi ((8 : Nat) : Int)).toUInt32 &&& Int32.toUInt32 31)).toInt32).toInt = ((nbc4 f : Nat) : Int) := by
    rw [us_n (by omega) (by decide +kernel)]
    unfold nbc4
    omega
  have h4 : nbc4 f < 8192 := by
    have q : f / 2 ^ 8 ≤ f := Nat.div_le_self _ _
    unfold nbc4
    omega
  generalize nbc4 f = i at e4 h4 ⊢
  have e5 : (i : Int) + (((xi (i : Int)).toUInt32 >>> ((xi ((16 : Nat) : Int)).toUInt32 &&& Int32.toUInt32 31)).toInt32).toInt = ((nbc5 i : Nat) : Int) := by
    rw [us_n (by omega) (by decide +kernel)]
    unfold nbc5
    omega
  have h5 : nbc5 i < 16384 := by
    have q : i / 2 ^ 16 ≤ i := Nat.div_le_self _ _
    unfold nbc5
    omega
  unfold BC
  have r1 : (1 : Int) = ((1 : Nat) : Int) := rfl
  have r2 : (1431655765 : Int) = ((1431655765 : Nat) : Int) := rfl
  have r3 : (2 : Int) = ((2 : Nat) : Int) := rfl
  have r4 : (858993459 : Int) = ((858993459 : Nat) : Int) := rfl
  have r5 : (4 : Int) = ((4 : Nat) : Int) := rfl
  have r6 : (252645135 : Int) = ((252645135 : Nat) : Int) := rfl
  have r7 : (8 : Int) = ((8 : Nat) : Int) := rfl
  have r8 : (16 : Int) = ((16 : Nat) : Int) := rfl
  have r9 : (63 : Int) = ((63 : Nat) : Int) := rfl
  rw [r1, r2, r3, r4, r5, r6, r7, r8, r9, e1, e2, e3, e4, e5, bs_and (by omega)]
def f_J6_bitCount_0f7a4 (x : Int) (M : xM) (Post : xR) : Prop := (0 ≤ x ∧ x < 1024) ∧ Post (pop x) M
abbrev sp_J6_bitCount_0f7a4 : xT := spS1 f_J6_bitCount_0f7a4
set_option maxRecDepth 100000 in
set_option maxHeartbeats 4000000 in
theorem b_J6_bitCount_0f7a4 (as : List xV) (M : xM) (Post : xR) (h : sp_J6_bitCount_0f7a4 as M Post) : as.length ≤ 1 ∧ xw LX [] calJ6_bitCount_0f7a4 [(265, 1431655765), (266, 858993459), (267, 252645135)] 1 Post iJ6_bitCount_0f7a4 cutJ6_bitCount_0f7a4 (fun _ _ _ _ => False) 400 0 (xlv as 1) [] M := by
  obtain ⟨v0, rfl, h⟩ := h
  refine ⟨by simp, ?_⟩
  refine Eq.mpr (vcJ6_bitCount_0f7a4_0 ..) ?_
  obtain ⟨hx, hp⟩ := h
  obtain ⟨a, rfl⟩ : ∃ a : Nat, v0 = a := ⟨v0.toNat, by omega⟩
  rw [← BC_ok (by omega)] at hp
  exact hp
theorem k_J6_bitCount_0f7a4 {l : Launch} {D : va_G} {T : Nat → ClassId} {ad : Nat → Nat} (hO : xOk ad LX) : xMet l D T ad LX yJ6_bitCount_0f7a4 cJ6_bitCount_0f7a4 1 (some .int) false 0 sp_J6_bitCount_0f7a4 :=
  xmet0 (rt := 1) (fld := []) (cals := calJ6_bitCount_0f7a4) (cst := [(265, 1431655765), (266, 858993459), (267, 252645135)]) (I := iJ6_bitCount_0f7a4) (cut := cutJ6_bitCount_0f7a4) hO (by decide +kernel) ⟨by decide, by decide, by decide⟩ oJ6_bitCount_0f7a4 (fun _ h => absurd h List.not_mem_nil) (List.forall_mem_cons.mpr ⟨xm 421 (by decide +kernel) rfl, List.forall_mem_cons.mpr ⟨xm 422 (by decide +kernel) rfl, List.forall_mem_cons.mpr ⟨xm 423 (by decide +kernel) rfl, fun _ h => absurd h List.not_mem_nil⟩⟩⟩) (fun _ h => absurd h List.not_mem_nil) b_J6_bitCount_0f7a4
/-- Arrays.fill, of the class's rows -/
def f_J7_fill (c n : Nat) (v : Int) (M : xM) (Post : xR) : Prop := ∀ M' : xM, (∀ c', c' ≠ c → M' c' = M c') → (∀ j, 0 ≤ j → j < (n : Int) → M' c j = v) → Post 0 M'
def sp_J7_fill_53178 : xT := fun as M Post => ∃ v, (as = [.inr 6, .inl v] ∧ f_J7_fill 6 6 v M Post) ∨ (as = [.inr 9, .inl v] ∧ f_J7_fill 9 10 v M Post) ∨ (as = [.inr 13, .inl v] ∧ f_J7_fill 13 10 v M Post) ∨ (as = [.inr 14, .inl v] ∧ f_J7_fill 14 10 v M Post) ∨ (as = [.inr 15, .inl v] ∧ f_J7_fill 15 396 v M Post)
set_option maxRecDepth 100000 in
set_option maxHeartbeats 4000000 in
theorem b_J7_fill_53178 (as : List xV) (M : xM) (Post : xR) (h : sp_J7_fill_53178 as M Post) : as.length ≤ 4 ∧ ∃ (Inv : xG) (μ : Nat → xL → List xV → xM → Nat) (f0 f1 : Nat), xw LX [] calJ7_fill_53178 [] 0 Post iJ7_fill_53178 cutJ7_fill_53178 Inv f0 0 (xlv as 4) [] M ∧ ∀ pc lv st M', Inv pc lv st M' → xw LX [] calJ7_fill_53178 [] 0 Post iJ7_fill_53178 cutJ7_fill_53178 (fun pc2 lv2 st2 M2 => Inv pc2 lv2 st2 M2 ∧ μ pc2 lv2 st2 M2 < μ pc lv st M') f1 pc lv st M' := by
  obtain ⟨v, h⟩ := h
  rcases h with ⟨rfl, h⟩ | ⟨rfl, h⟩ | ⟨rfl, h⟩ | ⟨rfl, h⟩ | ⟨rfl, h⟩
  · refine ⟨by simp, (fun pc lv st N => ∃ i : Int, pc = 5 ∧ lv = [some (.inr 6), some (.inl v), some (.inl i), some (.inl 6)] ∧ st = [] ∧ 0 ≤ i ∧ i ≤ 6 ∧ (∀ c', c' ≠ 6 → N c' = M c') ∧ ∀ j, 0 ≤ j → j < i → N 6 j = v), (fun pc lv st N => match lv with | [_, _, some (.inl i), _] => (6 - i).toNat | _ => 0), 400, 400, Eq.mpr (vcJ7_fill_53178_0_6 ..) ?_, ?_⟩
    · exact ⟨0, rfl, rfl, rfl, by omega, by omega, fun _ _ => rfl, fun j h1 h2 => by omega⟩
    · rintro pc lv st N ⟨i, rfl, rfl, rfl, h0, h1, h2, h3⟩
      refine Eq.mpr (vcJ7_fill_53178_5_6 ..) ?_
      refine ⟨⟨by omega, by omega⟩, ⟨by omega, by omega⟩, fun h4 => ?_, fun h4 => ⟨⟨by omega, by omega⟩, ⟨i + 1, rfl, rfl, rfl, by omega, by omega, fun c' hc => by rw [xup_ne hc]; exact h2 c' hc, fun j q1 q2 => ?_⟩, ?_⟩⟩
      · exact h N h2 (fun j q1 q2 => h3 j q1 (by omega))
      · by_cases hj : j = i
        · simp [xup, hj]
        · simp only [xup, hj, and_false, if_false]
          exact h3 j q1 (by omega)
      · show (6 - (i + 1)).toNat < (6 - i).toNat
        omega
  · refine ⟨by simp, (fun pc lv st N => ∃ i : Int, pc = 5 ∧ lv = [some (.inr 9), some (.inl v), some (.inl i), some (.inl 10)] ∧ st = [] ∧ 0 ≤ i ∧ i ≤ 10 ∧ (∀ c', c' ≠ 9 → N c' = M c') ∧ ∀ j, 0 ≤ j → j < i → N 9 j = v), (fun pc lv st N => match lv with | [_, _, some (.inl i), _] => (10 - i).toNat | _ => 0), 400, 400, Eq.mpr (vcJ7_fill_53178_0_9 ..) ?_, ?_⟩
    · exact ⟨0, rfl, rfl, rfl, by omega, by omega, fun _ _ => rfl, fun j h1 h2 => by omega⟩
    · rintro pc lv st N ⟨i, rfl, rfl, rfl, h0, h1, h2, h3⟩
      refine Eq.mpr (vcJ7_fill_53178_5_9 ..) ?_
      refine ⟨⟨by omega, by omega⟩, ⟨by omega, by omega⟩, fun h4 => ?_, fun h4 => ⟨⟨by omega, by omega⟩, ⟨i + 1, rfl, rfl, rfl, by omega, by omega, fun c' hc => by rw [xup_ne hc]; exact h2 c' hc, fun j q1 q2 => ?_⟩, ?_⟩⟩
      · exact h N h2 (fun j q1 q2 => h3 j q1 (by omega))
      · by_cases hj : j = i
        · simp [xup, hj]
        · simp only [xup, hj, and_false, if_false]
          exact h3 j q1 (by omega)
      · show (10 - (i + 1)).toNat < (10 - i).toNat
        omega
  · refine ⟨by simp, (fun pc lv st N => ∃ i : Int, pc = 5 ∧ lv = [some (.inr 13), some (.inl v), some (.inl i), some (.inl 10)] ∧ st = [] ∧ 0 ≤ i ∧ i ≤ 10 ∧ (∀ c', c' ≠ 13 → N c' = M c') ∧ ∀ j, 0 ≤ j → j < i → N 13 j = v), (fun pc lv st N => match lv with | [_, _, some (.inl i), _] => (10 - i).toNat | _ => 0), 400, 400, Eq.mpr (vcJ7_fill_53178_0_13 ..) ?_, ?_⟩
    · exact ⟨0, rfl, rfl, rfl, by omega, by omega, fun _ _ => rfl, fun j h1 h2 => by omega⟩
    · rintro pc lv st N ⟨i, rfl, rfl, rfl, h0, h1, h2, h3⟩
      refine Eq.mpr (vcJ7_fill_53178_5_13 ..) ?_
      refine ⟨⟨by omega, by omega⟩, ⟨by omega, by omega⟩, fun h4 => ?_, fun h4 => ⟨⟨by omega, by omega⟩, ⟨i + 1, rfl, rfl, rfl, by omega, by omega, fun c' hc => by rw [xup_ne hc]; exact h2 c' hc, fun j q1 q2 => ?_⟩, ?_⟩⟩
      · exact h N h2 (fun j q1 q2 => h3 j q1 (by omega))
      · by_cases hj : j = i
        · simp [xup, hj]
        · simp only [xup, hj, and_false, if_false]
          exact h3 j q1 (by omega)
      · show (10 - (i + 1)).toNat < (10 - i).toNat
        omega
  · refine ⟨by simp, (fun pc lv st N => ∃ i : Int, pc = 5 ∧ lv = [some (.inr 14), some (.inl v), some (.inl i), some (.inl 10)] ∧ st = [] ∧ 0 ≤ i ∧ i ≤ 10 ∧ (∀ c', c' ≠ 14 → N c' = M c') ∧ ∀ j, 0 ≤ j → j < i → N 14 j = v), (fun pc lv st N => match lv with | [_, _, some (.inl i), _] => (10 - i).toNat | _ => 0), 400, 400, Eq.mpr (vcJ7_fill_53178_0_14 ..) ?_, ?_⟩
    · exact ⟨0, rfl, rfl, rfl, by omega, by omega, fun _ _ => rfl, fun j h1 h2 => by omega⟩
    · rintro pc lv st N ⟨i, rfl, rfl, rfl, h0, h1, h2, h3⟩
      refine Eq.mpr (vcJ7_fill_53178_5_14 ..) ?_
      refine ⟨⟨by omega, by omega⟩, ⟨by omega, by omega⟩, fun h4 => ?_, fun h4 => ⟨⟨by omega, by omega⟩, ⟨i + 1, rfl, rfl, rfl, by omega, by omega, fun c' hc => by rw [xup_ne hc]; exact h2 c' hc, fun j q1 q2 => ?_⟩, ?_⟩⟩
      · exact h N h2 (fun j q1 q2 => h3 j q1 (by omega))
      · by_cases hj : j = i
        · simp [xup, hj]
        · simp only [xup, hj, and_false, if_false]
          exact h3 j q1 (by omega)
      · show (10 - (i + 1)).toNat < (10 - i).toNat
        omega
  · refine ⟨by simp, (fun pc lv st N => ∃ i : Int, pc = 5 ∧ lv = [some (.inr 15), some (.inl v), some (.inl i), some (.inl 396)] ∧ st = [] ∧ 0 ≤ i ∧ i ≤ 396 ∧ (∀ c', c' ≠ 15 → N c' = M c') ∧ ∀ j, 0 ≤ j → j < i → N 15 j = v), (fun pc lv st N => match lv with | [_, _, some (.inl i), _] => (396 - i).toNat | _ => 0), 400, 400, Eq.mpr (vcJ7_fill_53178_0_15 ..) ?_, ?_⟩
    · exact ⟨0, rfl, rfl, rfl, by omega, by omega, fun _ _ => rfl, fun j h1 h2 => by omega⟩
    · rintro pc lv st N ⟨i, rfl, rfl, rfl, h0, h1, h2, h3⟩
      refine Eq.mpr (vcJ7_fill_53178_5_15 ..) ?_
      refine ⟨⟨by omega, by omega⟩, ⟨by omega, by omega⟩, fun h4 => ?_, fun h4 => ⟨⟨by omega, by omega⟩, ⟨i + 1, rfl, rfl, rfl, by omega, by omega, fun c' hc => by rw [xup_ne hc]; exact h2 c' hc, fun j q1 q2 => ?_⟩, ?_⟩⟩
      · exact h N h2 (fun j q1 q2 => h3 j q1 (by omega))
      · by_cases hj : j = i
        · simp [xup, hj]
        · simp only [xup, hj, and_false, if_false]
          exact h3 j q1 (by omega)
      · show (396 - (i + 1)).toNat < (396 - i).toNat
        omega
theorem k_J7_fill_53178 {l : Launch} {D : va_G} {T : Nat → ClassId} {ad : Nat → Nat} (hO : xOk ad LX) : xMet l D T ad LX yJ7_fill_53178 cJ7_fill_53178 4 none true 0 sp_J7_fill_53178 :=
  xmet (rt := 0) (fld := []) (cals := calJ7_fill_53178) (cst := []) (I := iJ7_fill_53178) (cut := cutJ7_fill_53178) hO (by decide +kernel) ⟨by decide, by decide, by decide⟩ oJ7_fill_53178 (fun _ h => absurd h List.not_mem_nil) (fun _ h => absurd h List.not_mem_nil) (fun _ h => absurd h List.not_mem_nil) b_J7_fill_53178
end
section
/-! Rows: the class's TRACES and its row at hand (row 6); cell 2 the HOPS, cell 3 the lengths, place 2 of cell 1 how many TRACES -/
def wR (M : xM) : Prop := (0 ≤ M 1 2 ∧ M 1 2 ≤ 6) ∧ (∀ r, 0 ≤ r → r < 7 → 0 ≤ M 3 r ∧ M 3 r ≤ 6) ∧ (∀ p, 0 ≤ p → p < 42 → -1 ≤ M 2 p ∧ M 2 p ≤ 5)
/-- SILENT ones among the first k from b on -/
def cS (f : Int → Int) (b : Int) : Nat → Int
  | 0 => 0
  | k + 1 => cS f b k + if f (b + (k : Int)) = -1 then 1 else 0
theorem cS_b (f : Int → Int) (b : Int) (k : Nat) : 0 ≤ cS f b k ∧ cS f b k ≤ k := by
  induction k with
  | zero => simp [cS]
  | succ k ih => simp only [cS]; split <;> omega
theorem cS_congr {f g : Int → Int} {b b' : Int} {k : Nat} (h : ∀ i : Int, 0 ≤ i → i < k → f (b + i) = g (b' + i)) : cS f b k = cS g b' k := by
  induction k with
  | zero => rfl
  | succ k ih => simp only [cS]; rw [ih (fun i h1 h2 => h i h1 (by omega)), h k (by omega) (by omega)]
def sS (f g : Int → Int) : Nat → Int
  | 0 => 0
  | k + 1 => sS f g k + cS f ((k : Int) * 6) (g k).toNat
theorem sS_b (f g : Int → Int) (k : Nat) (h : ∀ t : Int, 0 ≤ t → t < k → g t ≤ 6) : 0 ≤ sS f g k ∧ sS f g k ≤ 6 * k := by
  induction k with
  | zero => simp [sS]
  | succ k ih =>
    have h1 := ih (fun t a b => h t a (by omega))
    have h2 := cS_b f ((k : Int) * 6) (g k).toNat
    have h3 := h k (by omega) (by omega)
    simp only [sS]
    omega
/-- the NAME n is in some TRACE -/
def nmIn (M : xM) (n : Int) : Prop := ∃ t i : Int, 0 ≤ t ∧ t < M 1 2 ∧ 0 ≤ i ∧ i < M 3 t ∧ M 2 (t * 6 + i) = n
def rowEq (M : xM) (t : Int) (M' : xM) (t' : Int) : Prop := M' 3 t' = M 3 t ∧ ∀ i, 0 ≤ i → i < M 3 t → M' 2 (t' * 6 + i) = M 2 (t * 6 + i)
theorem xup_at {M : xM} {c : Nat} {k k' x : Int} : xup M c k x c k' = if k' = k then x else M c k' := by simp [xup]
theorem tb_or {a b : Nat} {n : Int} : tb ((a ||| b : Nat) : Int) n ↔ tb (a : Int) n ∨ tb (b : Int) n := by simp [tb, Nat.testBit_or]
theorem tb_pow {h : Nat} {n : Int} (hn : 0 ≤ n) : tb ((2 ^ h : Nat) : Int) n ↔ n = h := by
  simp only [tb, Int.toNat_natCast, Nat.testBit_two_pow]
  rw [decide_eq_true_eq]
  omega
theorem tb_0 (n : Int) : ¬ tb 0 n := by simp [tb]
/-- a bit more -/
theorem or1 {x h : Int} (k : Nat) (hk : k ≤ 31) (hx : 0 ≤ x ∧ x < (2 ^ k : Nat)) (hh : 0 ≤ h ∧ h < k) : (0 ≤ (xi x ||| xi (xi 1 <<< (xi h &&& 31)).toInt).toInt ∧ (xi x ||| xi (xi 1 <<< (xi h &&& 31)).toInt).toInt < (2 ^ k : Nat)) ∧ ∀ n, 0 ≤ n → (tb (xi x ||| xi (xi 1 <<< (xi h &&& 31)).toInt).toInt n ↔ tb x n ∨ n = h) := by
  obtain ⟨a, rfl⟩ : ∃ a : Nat, x = a := ⟨x.toNat, by omega⟩
  obtain ⟨j, rfl⟩ : ∃ j : Nat, h = j := ⟨h.toNat, by omega⟩
  have h31 : 2 ^ k ≤ 2 ^ 31 := Nat.pow_le_pow_right (by omega) hk
  have hj : 2 ^ j < 2 ^ k := Nat.pow_lt_pow_right (by omega) (by omega)
  rw [bs_one (by omega), bs_or (by omega) (by omega)]
  refine ⟨⟨by omega, ?_⟩, fun n hn => ?_⟩
  · have := Nat.or_lt_two_pow (x := a) (y := 2 ^ j) (n := k) (by omega) hj
    omega
  · rw [tb_or, tb_pow hn]
theorem or0 {x : Int} (hx : rg x) : (xi x ||| xi 0).toInt = x := by
  have e : xi x ||| xi 0 = xi x := by
    apply Int32.toBitVec_inj.1
    show (xi x).toBitVec ||| 0#32 = _
    simp
  rw [e, to_xi hx]
def f_X2_traces (M : xM) (Post : xR) : Prop := Post (M 1 2) M
abbrev sp_X2_traces : xT := spV0 1 f_X2_traces
set_option maxRecDepth 100000 in
set_option maxHeartbeats 4000000 in
theorem b_X2_traces (as : List xV) (M : xM) (Post : xR) (h : sp_X2_traces as M Post) : as.length ≤ 1 ∧ xw LX fldX2 calX2_traces [] 1 Post iX2_traces cutX2_traces (fun _ _ _ _ => False) 400 0 (xlv as 1) [] M := by
  obtain ⟨rfl, h⟩ := h
  refine ⟨by simp, ?_⟩
  refine Eq.mpr (vcX2_traces_0 ..) ?_
  exact h
theorem k_X2_traces {l : Launch} {D : va_G} {T : Nat → ClassId} {ad : Nat → Nat} (hO : xOk ad LX) : xMet l D T ad LX yX2_traces cX2_traces 1 (some .int) false 0 sp_X2_traces :=
  xmet0 (rt := 1) (fld := fldX2) (cals := calX2_traces) (cst := []) (I := iX2_traces) (cut := cutX2_traces) hO (by decide +kernel) ⟨by decide, by decide, by decide⟩ oX2_traces foX2 (fun _ h => absurd h List.not_mem_nil) (fun _ h => absurd h List.not_mem_nil) b_X2_traces
def f_X2_all (M : xM) (Post : xR) : Prop := (0 ≤ M 1 2 ∧ M 1 2 ≤ 6) ∧ Post ((2 ^ (M 1 2).toNat : Nat) - 1) M
abbrev sp_X2_all : xT := spV0 1 f_X2_all
set_option maxRecDepth 100000 in
set_option maxHeartbeats 4000000 in
theorem b_X2_all (as : List xV) (M : xM) (Post : xR) (h : sp_X2_all as M Post) : as.length ≤ 1 ∧ xw LX fldX2 calX2_all [] 1 Post iX2_all cutX2_all (fun _ _ _ _ => False) 400 0 (xlv as 1) [] M := by
  obtain ⟨rfl, h⟩ := h
  refine ⟨by simp, ?_⟩
  refine Eq.mpr (vcX2_all_0 ..) ?_
  obtain ⟨h0, hp⟩ := h
  have e : (xi 1 <<< (xi (M 1 2) &&& 31)).toInt = ((2 ^ (M 1 2).toNat : Nat) : Int) := by
    rw [← bs_one (by omega), Int.toNat_of_nonneg h0.1]
  rw [e]
  exact hp
theorem k_X2_all {l : Launch} {D : va_G} {T : Nat → ClassId} {ad : Nat → Nat} (hO : xOk ad LX) : xMet l D T ad LX yX2_all cX2_all 1 (some .int) false 0 sp_X2_all :=
  xmet0 (rt := 1) (fld := fldX2) (cals := calX2_all) (cst := []) (I := iX2_all) (cut := cutX2_all) hO (by decide +kernel) ⟨by decide, by decide, by decide⟩ oX2_all foX2 (fun _ h => absurd h List.not_mem_nil) (fun _ h => absurd h List.not_mem_nil) b_X2_all
def f_X2_length (r : Int) (M : xM) (Post : xR) : Prop := (0 ≤ r ∧ r < 7) ∧ Post (M 3 r) M
abbrev sp_X2_length : xT := spV1 1 f_X2_length
set_option maxRecDepth 100000 in
set_option maxHeartbeats 4000000 in
theorem b_X2_length (as : List xV) (M : xM) (Post : xR) (h : sp_X2_length as M Post) : as.length ≤ 2 ∧ xw LX fldX2 calX2_length [] 1 Post iX2_length cutX2_length (fun _ _ _ _ => False) 400 0 (xlv as 2) [] M := by
  obtain ⟨v1, rfl, h⟩ := h
  refine ⟨by simp, ?_⟩
  refine Eq.mpr (vcX2_length_0 ..) ?_
  obtain ⟨h0, hp⟩ := h
  simp only [rg]
  grind
theorem k_X2_length {l : Launch} {D : va_G} {T : Nat → ClassId} {ad : Nat → Nat} (hO : xOk ad LX) : xMet l D T ad LX yX2_length cX2_length 2 (some .int) false 0 sp_X2_length :=
  xmet0 (rt := 1) (fld := fldX2) (cals := calX2_length) (cst := []) (I := iX2_length) (cut := cutX2_length) hO (by decide +kernel) ⟨by decide, by decide, by decide⟩ oX2_length foX2 (fun _ h => absurd h List.not_mem_nil) (fun _ h => absurd h List.not_mem_nil) b_X2_length
def f_X2_hopAt (r i : Int) (M : xM) (Post : xR) : Prop := (0 ≤ r ∧ r < 7) ∧ (0 ≤ i ∧ i < 6) ∧ Post (M 2 (r * 6 + i)) M
abbrev sp_X2_hopAt : xT := spV2 1 f_X2_hopAt
set_option maxRecDepth 100000 in
set_option maxHeartbeats 4000000 in
theorem b_X2_hopAt (as : List xV) (M : xM) (Post : xR) (h : sp_X2_hopAt as M Post) : as.length ≤ 4 ∧ xw LX fldX2 calX2_hopAt [] 1 Post iX2_hopAt cutX2_hopAt (fun _ _ _ _ => False) 400 0 (xlv as 4) [] M := by
  obtain ⟨v1, v2, rfl, h⟩ := h
  refine ⟨by simp, ?_⟩
  refine Eq.mpr (vcX2_hopAt_0 ..) ?_
  obtain ⟨hr, hi, hp⟩ := h
  simp only [rg]
  grind
theorem k_X2_hopAt {l : Launch} {D : va_G} {T : Nat → ClassId} {ad : Nat → Nat} (hO : xOk ad LX) : xMet l D T ad LX yX2_hopAt cX2_hopAt 4 (some .int) false 0 sp_X2_hopAt :=
  xmet0 (rt := 1) (fld := fldX2) (cals := calX2_hopAt) (cst := []) (I := iX2_hopAt) (cut := cutX2_hopAt) hO (by decide +kernel) ⟨by decide, by decide, by decide⟩ oX2_hopAt foX2 (fun _ h => absurd h List.not_mem_nil) (fun _ h => absurd h List.not_mem_nil) b_X2_hopAt
def f_X2_has (r x : Int) (M : xM) (Post : xR) : Prop := wR M ∧ (0 ≤ r ∧ r < 7) ∧ rg x ∧ ∀ q, (q = 1 ∧ (∃ i, 0 ≤ i ∧ i < M 3 r ∧ M 2 (r * 6 + i) = x) ∨ q = 0 ∧ ¬ (∃ i, 0 ≤ i ∧ i < M 3 r ∧ M 2 (r * 6 + i) = x)) → Post q M
abbrev sp_X2_has : xT := spV2 1 f_X2_has
set_option maxRecDepth 100000 in
set_option maxHeartbeats 4000000 in
theorem b_X2_has (as : List xV) (M : xM) (Post : xR) (h : sp_X2_has as M Post) : as.length ≤ 4 ∧ ∃ (Inv : xG) (μ : Nat → xL → List xV → xM → Nat) (f0 f1 : Nat), xw LX fldX2 (calX2_has sp_X2_length sp_X2_hopAt) [] 2 Post iX2_has cutX2_has Inv f0 0 (xlv as 4) [] M ∧ ∀ pc lv st M', Inv pc lv st M' → xw LX fldX2 (calX2_has sp_X2_length sp_X2_hopAt) [] 2 Post iX2_has cutX2_has (fun pc2 lv2 st2 M2 => Inv pc2 lv2 st2 M2 ∧ μ pc2 lv2 st2 M2 < μ pc lv st M') f1 pc lv st M' := by
  obtain ⟨v1, v2, rfl, h⟩ := h
  refine ⟨by simp, (fun pc lv st N => ∃ i : Int, pc = 2 ∧ lv = [some (.inr 1), some (.inl v1), some (.inl v2), some (.inl i)] ∧ st = [] ∧ M = N ∧ 0 ≤ i ∧ i ≤ M 3 v1 ∧ ∀ j, 0 ≤ j → j < i → M 2 (v1 * 6 + j) ≠ v2), (fun pc lv st N => match lv with | [_, _, _, some (.inl i)] => (10 - i).toNat | _ => 0), 400, 400, Eq.mpr (vcX2_has_0 ..) ?_, ?_⟩
  · obtain ⟨hw, hr, hx, hp⟩ := h
    exact ⟨0, rfl, rfl, rfl, rfl, by omega, (hw.2.1 v1 hr.1 hr.2).1, fun j h1 h2 => by omega⟩
  · obtain ⟨hw, hr, hx, hp⟩ := h
    rintro pc lv st N ⟨i, rfl, rfl, rfl, rfl, h0, h1, h2⟩
    refine Eq.mpr (vcX2_has_2 ..) ?_
    have hl := hw.2.1 v1 hr.1 hr.2
    refine ⟨_, rfl, hr, ⟨by omega, by omega⟩, ⟨by omega, by omega⟩, fun h3 => ⟨by omega, hp 0 (Or.inr ⟨rfl, ?_⟩)⟩, fun h3 => ⟨_, _, rfl, hr, ⟨by omega, by omega⟩, ?_, hx, fun h4 => ⟨⟨i + 1, rfl, rfl, rfl, rfl, by omega, by omega, ?_⟩, ?_⟩, fun h4 => ⟨by omega, hp 1 (Or.inl ⟨rfl, i, by omega, by omega, h4⟩)⟩⟩⟩
    · rintro ⟨j, q1, q2, q3⟩
      exact h2 j q1 (by omega) q3
    · have := hw.2.2 (v1 * 6 + i) (by omega) (by omega)
      exact ⟨by omega, by omega⟩
    · intro j q1 q2
      by_cases hj : j = i
      · subst hj; exact h4
      · exact h2 j q1 (by omega)
    · show (10 - (i + 1)).toNat < (10 - i).toNat
      omega
theorem k_X2_has {l : Launch} {D : va_G} {T : Nat → ClassId} {ad : Nat → Nat} (hO : xOk ad LX) : xMet l D T ad LX yX2_has cX2_has 4 (some .boolean) false 1 sp_X2_has :=
  xmet (rt := 2) (fld := fldX2) (cals := (calX2_has sp_X2_length sp_X2_hopAt)) (cst := []) (I := iX2_has) (cut := cutX2_has) hO (by decide +kernel) ⟨by decide, by decide, by decide⟩ oX2_has foX2 (fun _ h => absurd h List.not_mem_nil) (List.forall_mem_cons.mpr ⟨⟨yX2_length, cX2_length, 2, (some .int), 0, 1, by decide, yoX2_length, k_X2_length hO, loX2_22, Or.inr ⟨rfl, rfl, 1, 2, [some 2, some 3, none], TX2, 3, rfl, rfl, spV1_r⟩⟩, List.forall_mem_cons.mpr ⟨⟨yX2_hopAt, cX2_hopAt, 4, (some .int), 0, 2, by decide, yoX2_hopAt, k_X2_hopAt hO, loX2_26, Or.inr ⟨rfl, rfl, 1, 2, [some 2, some 3, none], TX2, 3, rfl, rfl, spV2_r⟩⟩, fun _ h => absurd h List.not_mem_nil⟩⟩) b_X2_has
def f_X2_silentsIn (r : Int) (M : xM) (Post : xR) : Prop := wR M ∧ (0 ≤ r ∧ r < 7) ∧ Post (cS (M 2) (r * 6) (M 3 r).toNat) M
abbrev sp_X2_silentsIn : xT := spV1 1 f_X2_silentsIn
set_option maxRecDepth 100000 in
set_option maxHeartbeats 4000000 in
theorem b_X2_silentsIn (as : List xV) (M : xM) (Post : xR) (h : sp_X2_silentsIn as M Post) : as.length ≤ 4 ∧ ∃ (Inv : xG) (μ : Nat → xL → List xV → xM → Nat) (f0 f1 : Nat), xw LX fldX2 (calX2_silentsIn sp_X2_length sp_X2_hopAt) [] 1 Post iX2_silentsIn cutX2_silentsIn Inv f0 0 (xlv as 4) [] M ∧ ∀ pc lv st M', Inv pc lv st M' → xw LX fldX2 (calX2_silentsIn sp_X2_length sp_X2_hopAt) [] 1 Post iX2_silentsIn cutX2_silentsIn (fun pc2 lv2 st2 M2 => Inv pc2 lv2 st2 M2 ∧ μ pc2 lv2 st2 M2 < μ pc lv st M') f1 pc lv st M' := by
  obtain ⟨v1, rfl, h⟩ := h
  refine ⟨by simp, (fun pc lv st N => ∃ (i : Nat), pc = 4 ∧ lv = [some (.inr 1), some (.inl v1), some (.inl (cS (M 2) (v1 * 6) i)), some (.inl (i : Int))] ∧ st = [] ∧ M = N ∧ (i : Int) ≤ M 3 v1), (fun pc lv st N => match lv with | [_, _, _, some (.inl i)] => (10 - i).toNat | _ => 0), 400, 400, Eq.mpr (vcX2_silentsIn_0 ..) ?_, ?_⟩
  · obtain ⟨hw, hr, hp⟩ := h
    exact ⟨0, rfl, rfl, rfl, rfl, (hw.2.1 v1 hr.1 hr.2).1⟩
  · obtain ⟨hw, hr, hp⟩ := h
    rintro pc lv st N ⟨i, rfl, rfl, rfl, rfl, h1⟩
    refine Eq.mpr (vcX2_silentsIn_4 ..) ?_
    have hl := hw.2.1 v1 hr.1 hr.2
    refine ⟨_, rfl, hr, ⟨by omega, by omega⟩, ⟨by omega, by omega⟩, fun h3 => ?_, fun h3 => ⟨_, _, rfl, hr, ⟨by omega, by omega⟩, ?_, ⟨by omega, by omega⟩, fun h4 => ⟨⟨i + 1, rfl, ?_, rfl, rfl, by omega⟩, ?_⟩, fun h4 => ⟨⟨i + 1, rfl, ?_, rfl, rfl, by omega⟩, ?_⟩⟩⟩
    · rw [show (M 3 v1).toNat = i by omega] at hp
      exact hp
    · have := hw.2.2 (v1 * 6 + i) (by omega) (by omega)
      exact ⟨by omega, by omega⟩
    · simp only [cS, if_neg h4, Int.add_zero]
      rfl
    · show (10 - ((i : Int) + 1)).toNat < (10 - (i : Int)).toNat
      omega
    · simp only [cS, if_pos h4]
      rfl
    · show (10 - ((i : Int) + 1)).toNat < (10 - (i : Int)).toNat
      omega
theorem k_X2_silentsIn {l : Launch} {D : va_G} {T : Nat → ClassId} {ad : Nat → Nat} (hO : xOk ad LX) : xMet l D T ad LX yX2_silentsIn cX2_silentsIn 4 (some .int) false 1 sp_X2_silentsIn :=
  xmet (rt := 1) (fld := fldX2) (cals := (calX2_silentsIn sp_X2_length sp_X2_hopAt)) (cst := []) (I := iX2_silentsIn) (cut := cutX2_silentsIn) hO (by decide +kernel) ⟨by decide, by decide, by decide⟩ oX2_silentsIn foX2 (fun _ h => absurd h List.not_mem_nil) (List.forall_mem_cons.mpr ⟨⟨yX2_length, cX2_length, 2, (some .int), 0, 1, by decide, yoX2_length, k_X2_length hO, loX2_22, Or.inr ⟨rfl, rfl, 1, 2, [some 2, some 3, none], TX2, 3, rfl, rfl, spV1_r⟩⟩, List.forall_mem_cons.mpr ⟨⟨yX2_hopAt, cX2_hopAt, 4, (some .int), 0, 2, by decide, yoX2_hopAt, k_X2_hopAt hO, loX2_26, Or.inr ⟨rfl, rfl, 1, 2, [some 2, some 3, none], TX2, 3, rfl, rfl, spV2_r⟩⟩, fun _ h => absurd h List.not_mem_nil⟩⟩) b_X2_silentsIn
def f_X2_silents (M : xM) (Post : xR) : Prop := wR M ∧ Post (sS (M 2) (M 3) (M 1 2).toNat) M
abbrev sp_X2_silents : xT := spV0 1 f_X2_silents
set_option maxRecDepth 100000 in
set_option maxHeartbeats 4000000 in
theorem b_X2_silents (as : List xV) (M : xM) (Post : xR) (h : sp_X2_silents as M Post) : as.length ≤ 3 ∧ ∃ (Inv : xG) (μ : Nat → xL → List xV → xM → Nat) (f0 f1 : Nat), xw LX fldX2 (calX2_silents sp_X2_silentsIn) [] 1 Post iX2_silents cutX2_silents Inv f0 0 (xlv as 3) [] M ∧ ∀ pc lv st M', Inv pc lv st M' → xw LX fldX2 (calX2_silents sp_X2_silentsIn) [] 1 Post iX2_silents cutX2_silents (fun pc2 lv2 st2 M2 => Inv pc2 lv2 st2 M2 ∧ μ pc2 lv2 st2 M2 < μ pc lv st M') f1 pc lv st M' := by
  obtain ⟨rfl, h⟩ := h
  refine ⟨by simp, (fun pc lv st N => ∃ (t : Nat), pc = 4 ∧ lv = [some (.inr 1), some (.inl (sS (M 2) (M 3) t)), some (.inl (t : Int))] ∧ st = [] ∧ M = N ∧ (t : Int) ≤ M 1 2), (fun pc lv st N => match lv with | [_, _, some (.inl i)] => (10 - i).toNat | _ => 0), 400, 400, Eq.mpr (vcX2_silents_0 ..) ?_, ?_⟩
  · obtain ⟨hw, hp⟩ := h
    exact ⟨0, rfl, rfl, rfl, rfl, hw.1.1⟩
  · obtain ⟨hw, hp⟩ := h
    rintro pc lv st N ⟨t, rfl, rfl, rfl, rfl, h1⟩
    refine Eq.mpr (vcX2_silents_4 ..) ?_
    have hn := hw.1
    refine ⟨⟨by omega, by omega⟩, ⟨by omega, by omega⟩, fun h3 => ?_, fun h3 => ⟨_, rfl, hw, ⟨by omega, by omega⟩, ⟨t + 1, rfl, rfl, rfl, rfl, by omega⟩, ?_⟩⟩
    · rw [show (M 1 2).toNat = t by omega] at hp
      exact hp
    · show (10 - ((t : Int) + 1)).toNat < (10 - (t : Int)).toNat
      omega
theorem k_X2_silents {l : Launch} {D : va_G} {T : Nat → ClassId} {ad : Nat → Nat} (hO : xOk ad LX) : xMet l D T ad LX yX2_silents cX2_silents 3 (some .int) false 2 sp_X2_silents :=
  xmet (rt := 1) (fld := fldX2) (cals := (calX2_silents sp_X2_silentsIn)) (cst := []) (I := iX2_silents) (cut := cutX2_silents) hO (by decide +kernel) ⟨by decide, by decide, by decide⟩ oX2_silents foX2 (fun _ h => absurd h List.not_mem_nil) (List.forall_mem_cons.mpr ⟨⟨yX2_silentsIn, cX2_silentsIn, 4, (some .int), 1, 1, by decide, yoX2_silentsIn, k_X2_silentsIn hO, loX2_30, Or.inr ⟨rfl, rfl, 1, 2, [some 2, some 3, none], TX2, 3, rfl, rfl, spV1_r⟩⟩, fun _ h => absurd h List.not_mem_nil⟩) b_X2_silents
end
section
/-! Rows: names, and what changes them -/
theorem h64 : ((2 ^ 6 : Nat) : Int) = 64 := rfl
theorem h1024 : ((2 ^ 10 : Nat) : Int) = 1024 := rfl
def f_X2_names (M : xM) (Post : xR) : Prop := wR M ∧ ∀ x, 0 ≤ x → x < 64 → (∀ n, 0 ≤ n → n < 6 → (tb x n ↔ nmIn M n)) → Post x M
abbrev sp_X2_names : xT := spV0 1 f_X2_names
set_option maxRecDepth 100000 in
set_option maxHeartbeats 4000000 in
theorem b_X2_names (as : List xV) (M : xM) (Post : xR) (h : sp_X2_names as M Post) : as.length ≤ 5 ∧ ∃ (Inv : xG) (μ : Nat → xL → List xV → xM → Nat) (f0 f1 : Nat), xw LX fldX2 (calX2_names sp_X2_length sp_X2_hopAt) [] 1 Post iX2_names cutX2_names Inv f0 0 (xlv as 5) [] M ∧ ∀ pc lv st M', Inv pc lv st M' → xw LX fldX2 (calX2_names sp_X2_length sp_X2_hopAt) [] 1 Post iX2_names cutX2_names (fun pc2 lv2 st2 M2 => Inv pc2 lv2 st2 M2 ∧ μ pc2 lv2 st2 M2 < μ pc lv st M') f1 pc lv st M' := by
  obtain ⟨rfl, h⟩ := h
  refine ⟨by simp, (fun pc lv st N => (∃ (x t : Int) (o3 o4 : Option xV), pc = 4 ∧ lv = [some (.inr 1), some (.inl x), some (.inl t), o3, o4] ∧ st = [] ∧ M = N ∧ 0 ≤ t ∧ t ≤ M 1 2 ∧ 0 ≤ x ∧ x < 64 ∧ ∀ n, 0 ≤ n → n < 6 → (tb x n ↔ ∃ s i, 0 ≤ s ∧ s < t ∧ 0 ≤ i ∧ i < M 3 s ∧ M 2 (s * 6 + i) = n)) ∨ (∃ (x t i : Int) (o4 : Option xV), pc = 14 ∧ lv = [some (.inr 1), some (.inl x), some (.inl t), some (.inl i), o4] ∧ st = [] ∧ M = N ∧ 0 ≤ t ∧ t < M 1 2 ∧ 0 ≤ i ∧ i ≤ M 3 t ∧ 0 ≤ x ∧ x < 64 ∧ ∀ n, 0 ≤ n → n < 6 → (tb x n ↔ (∃ s i, 0 ≤ s ∧ s < t ∧ 0 ≤ i ∧ i < M 3 s ∧ M 2 (s * 6 + i) = n) ∨ ∃ j, 0 ≤ j ∧ j < i ∧ M 2 (t * 6 + j) = n))), (fun pc lv st N => match pc, lv with | 4, [_, _, some (.inl t), _, _] => ((7 - t) * 100).toNat | 14, [_, _, some (.inl t), some (.inl i), _] => ((6 - t) * 100 + 50 - i).toNat | _, _ => 0), 400, 400, Eq.mpr (vcX2_names_0 ..) ?_, ?_⟩
  · obtain ⟨hw, hp⟩ := h
    refine Or.inl ⟨0, 0, none, none, rfl, rfl, rfl, rfl, by omega, hw.1.1, by omega, by omega, fun n h1 h2 => ⟨fun q => (tb_0 n q).elim, ?_⟩⟩
    rintro ⟨s, i, q1, q2, -⟩
    omega
  · obtain ⟨hw, hp⟩ := h
    rintro pc lv st N (⟨x, t, o3, o4, rfl, rfl, rfl, rfl, h1, h2, h3, h4, h5⟩ | ⟨x, t, i, o4, rfl, rfl, rfl, rfl, h1, h2, h3, h4, h5, h6, h7⟩)
    · refine Eq.mpr (vcX2_names_4 ..) ?_
      have hn := hw.1
      refine ⟨⟨by omega, by omega⟩, ⟨by omega, by omega⟩, fun q => ?_, fun q => ⟨Or.inr ⟨x, t, 0, o4, rfl, rfl, rfl, rfl, h1, q, by omega, (hw.2.1 t (by omega) (by omega)).1, h3, h4, fun n q1 q2 => ?_⟩, by (change Int.toNat _ < Int.toNat _); omega⟩⟩
      · refine hp x h3 h4 (fun n q1 q2 => ?_)
        rw [h5 n q1 q2, show t = M 1 2 by omega]
        rfl
      · rw [h5 n q1 q2]
        refine ⟨Or.inl, ?_⟩
        rintro (q3 | ⟨j, q3, q4, -⟩)
        · exact q3
        · omega
    · refine Eq.mpr (vcX2_names_14 ..) ?_
      have hn := hw.1
      have hl := hw.2.1 t (by omega) (by omega)
      refine ⟨_, rfl, ⟨by omega, by omega⟩, ⟨by omega, by omega⟩, ⟨by omega, by omega⟩, fun q => ⟨Or.inl ⟨x, t + 1, _, o4, rfl, rfl, rfl, rfl, by omega, by omega, h5, h6, fun n q1 q2 => ?_⟩, by (change Int.toNat _ < Int.toNat _); omega⟩, fun q => ⟨_, _, rfl, ⟨by omega, by omega⟩, ⟨by omega, by omega⟩, ?_, ⟨by omega, by omega⟩, fun q3 => ⟨Or.inr ⟨_, t, i + 1, _, rfl, rfl, rfl, rfl, h1, h2, by omega, by omega, ?_, ?_, fun n q1 q2 => ?_⟩, by (change Int.toNat _ < Int.toNat _); omega⟩, fun q3 => ⟨Or.inr ⟨_, t, i + 1, _, rfl, rfl, rfl, rfl, h1, h2, by omega, by omega, ?_, ?_, fun n q1 q2 => ?_⟩, by (change Int.toNat _ < Int.toNat _); omega⟩⟩⟩
      · rw [h7 n q1 q2]
        constructor
        · rintro (⟨s, j, a1, a2, a3⟩ | ⟨j, a1, a2, a3⟩)
          · exact ⟨s, j, a1, by omega, a3⟩
          · exact ⟨t, j, h1, by omega, a1, by omega, a3⟩
        · rintro ⟨s, j, a1, a2, a3, a4, a5⟩
          by_cases hs : s = t
          · subst hs
            exact Or.inr ⟨j, a3, by omega, a5⟩
          · exact Or.inl ⟨s, j, a1, by omega, a3, a4, a5⟩
      · have := hw.2.2 (t * 6 + i) (by omega) (by omega)
        exact ⟨by omega, by omega⟩
      all_goals have hh := hw.2.2 (t * 6 + i) (by omega) (by omega)
      · exact (or1 (x := x) (h := M 2 (t * 6 + i)) 6 (by omega) ⟨h5, by rw [h64]; omega⟩ ⟨by omega, by omega⟩).1.1
      · have := (or1 (x := x) (h := M 2 (t * 6 + i)) 6 (by omega) ⟨h5, by rw [h64]; omega⟩ ⟨by omega, by omega⟩).1.2
        rw [h64] at this
        exact this
      · rw [(or1 (x := x) (h := M 2 (t * 6 + i)) 6 (by omega) ⟨h5, by rw [h64]; omega⟩ ⟨by omega, by omega⟩).2 n q1, h7 n q1 q2]
        constructor
        · rintro ((a | ⟨j, a1, a2, a3⟩) | a)
          · exact Or.inl a
          · exact Or.inr ⟨j, a1, by omega, a3⟩
          · exact Or.inr ⟨i, h3, by omega, a.symm⟩
        · rintro (a | ⟨j, a1, a2, a3⟩)
          · exact Or.inl (Or.inl a)
          · by_cases hj : j = i
            · subst hj
              exact Or.inr a3.symm
            · exact Or.inl (Or.inr ⟨j, a1, by omega, a3⟩)
      · rw [or0 ⟨by omega, by omega⟩]; exact h5
      · rw [or0 ⟨by omega, by omega⟩]; exact h6
      · rw [or0 ⟨by omega, by omega⟩, h7 n q1 q2]
        constructor
        · rintro (a | ⟨j, a1, a2, a3⟩)
          · exact Or.inl a
          · exact Or.inr ⟨j, a1, by omega, a3⟩
        · rintro (a | ⟨j, a1, a2, a3⟩)
          · exact Or.inl a
          · by_cases hj : j = i
            · subst hj
              omega
            · exact Or.inr ⟨j, a1, by omega, a3⟩
theorem k_X2_names {l : Launch} {D : va_G} {T : Nat → ClassId} {ad : Nat → Nat} (hO : xOk ad LX) : xMet l D T ad LX yX2_names cX2_names 5 (some .int) false 1 sp_X2_names :=
  xmet (rt := 1) (fld := fldX2) (cals := (calX2_names sp_X2_length sp_X2_hopAt)) (cst := []) (I := iX2_names) (cut := cutX2_names) hO (by decide +kernel) ⟨by decide, by decide, by decide⟩ oX2_names foX2 (fun _ h => absurd h List.not_mem_nil) (List.forall_mem_cons.mpr ⟨⟨yX2_length, cX2_length, 2, (some .int), 0, 1, by decide, yoX2_length, k_X2_length hO, loX2_22, Or.inr ⟨rfl, rfl, 1, 2, [some 2, some 3, none], TX2, 3, rfl, rfl, spV1_r⟩⟩, List.forall_mem_cons.mpr ⟨⟨yX2_hopAt, cX2_hopAt, 4, (some .int), 0, 2, by decide, yoX2_hopAt, k_X2_hopAt hO, loX2_26, Or.inr ⟨rfl, rfl, 1, 2, [some 2, some 3, none], TX2, 3, rfl, rfl, spV2_r⟩⟩, fun _ h => absurd h List.not_mem_nil⟩⟩) b_X2_names
def f_X2_append (r x : Int) (M : xM) (Post : xR) : Prop := (0 ≤ r ∧ r < 7) ∧ (0 ≤ M 3 r ∧ M 3 r < 6) ∧ Post 0 (xup (xup M 2 (r * 6 + M 3 r) x) 3 r (M 3 r + 1))
abbrev sp_X2_append : xT := spV2 1 f_X2_append
set_option maxRecDepth 100000 in
set_option maxHeartbeats 4000000 in
theorem b_X2_append (as : List xV) (M : xM) (Post : xR) (h : sp_X2_append as M Post) : as.length ≤ 5 ∧ xw LX fldX2 (calX2_append sp_X2_length) [] 0 Post iX2_append cutX2_append (fun _ _ _ _ => False) 400 0 (xlv as 5) [] M := by
  obtain ⟨v1, v2, rfl, h⟩ := h
  refine ⟨by simp, ?_⟩
  refine Eq.mpr (vcX2_append_0 ..) ?_
  obtain ⟨h0, h1, hp⟩ := h
  refine ⟨_, rfl, h0, ?_⟩
  simp only [rg]
  grind
theorem k_X2_append {l : Launch} {D : va_G} {T : Nat → ClassId} {ad : Nat → Nat} (hO : xOk ad LX) : xMet l D T ad LX yX2_append cX2_append 5 none true 1 sp_X2_append :=
  xmet0 (rt := 0) (fld := fldX2) (cals := (calX2_append sp_X2_length)) (cst := []) (I := iX2_append) (cut := cutX2_append) hO (by decide +kernel) ⟨by decide, by decide, by decide⟩ oX2_append foX2 (fun _ h => absurd h List.not_mem_nil) (List.forall_mem_cons.mpr ⟨⟨yX2_length, cX2_length, 2, (some .int), 0, 1, by decide, yoX2_length, k_X2_length hO, loX2_22, Or.inr ⟨rfl, rfl, 1, 2, [some 2, some 3, none], TX2, 3, rfl, rfl, spV1_r⟩⟩, fun _ h => absurd h List.not_mem_nil⟩) b_X2_append
def f_X2_empty (r : Int) (M : xM) (Post : xR) : Prop := (0 ≤ r ∧ r < 7) ∧ Post 0 (xup M 3 r 0)
abbrev sp_X2_empty : xT := spV1 1 f_X2_empty
set_option maxRecDepth 100000 in
set_option maxHeartbeats 4000000 in
theorem b_X2_empty (as : List xV) (M : xM) (Post : xR) (h : sp_X2_empty as M Post) : as.length ≤ 2 ∧ xw LX fldX2 calX2_empty [] 0 Post iX2_empty cutX2_empty (fun _ _ _ _ => False) 400 0 (xlv as 2) [] M := by
  obtain ⟨v1, rfl, h⟩ := h
  refine ⟨by simp, ?_⟩
  refine Eq.mpr (vcX2_empty_0 ..) ?_
  obtain ⟨h0, hp⟩ := h
  simp only [rg]
  grind
theorem k_X2_empty {l : Launch} {D : va_G} {T : Nat → ClassId} {ad : Nat → Nat} (hO : xOk ad LX) : xMet l D T ad LX yX2_empty cX2_empty 2 none true 0 sp_X2_empty :=
  xmet0 (rt := 0) (fld := fldX2) (cals := calX2_empty) (cst := []) (I := iX2_empty) (cut := cutX2_empty) hO (by decide +kernel) ⟨by decide, by decide, by decide⟩ oX2_empty foX2 (fun _ h => absurd h List.not_mem_nil) (fun _ h => absurd h List.not_mem_nil) b_X2_empty
def f_X2_copy (a b : Int) (M : xM) (Post : xR) : Prop := wR M ∧ (0 ≤ a ∧ a < 7) ∧ (0 ≤ b ∧ b < 7) ∧ a ≠ b ∧ ∀ M' : xM, wR M' → (∀ c, c ≠ 2 → c ≠ 3 → M' c = M c) → rowEq M a M' b → (∀ t, 0 ≤ t → t < 7 → t ≠ b → rowEq M t M' t) → Post 0 M'
abbrev sp_X2_copy : xT := spV2 1 f_X2_copy
set_option maxRecDepth 100000 in
set_option maxHeartbeats 4000000 in
theorem b_X2_copy (as : List xV) (M : xM) (Post : xR) (h : sp_X2_copy as M Post) : as.length ≤ 5 ∧ ∃ (Inv : xG) (μ : Nat → xL → List xV → xM → Nat) (f0 f1 : Nat), xw LX fldX2 (calX2_copy sp_X2_length sp_X2_empty sp_X2_hopAt sp_X2_append) [] 0 Post iX2_copy cutX2_copy Inv f0 0 (xlv as 5) [] M ∧ ∀ pc lv st M', Inv pc lv st M' → xw LX fldX2 (calX2_copy sp_X2_length sp_X2_empty sp_X2_hopAt sp_X2_append) [] 0 Post iX2_copy cutX2_copy (fun pc2 lv2 st2 M2 => Inv pc2 lv2 st2 M2 ∧ μ pc2 lv2 st2 M2 < μ pc lv st M') f1 pc lv st M' := by
  obtain ⟨v1, v2, rfl, h⟩ := h
  refine ⟨by simp, (fun pc lv st N => ∃ (i : Int), pc = 14 ∧ lv = [some (.inr 1), some (.inl v1), some (.inl v2), some (.inl (M 3 v1)), some (.inl i)] ∧ st = [] ∧ 0 ≤ i ∧ i ≤ M 3 v1 ∧ (∀ c, c ≠ 2 → c ≠ 3 → N c = M c) ∧ N 3 v2 = i ∧ (∀ t, t ≠ v2 → N 3 t = M 3 t) ∧ (∀ q, ¬ (v2 * 6 ≤ q ∧ q < v2 * 6 + 6) → N 2 q = M 2 q) ∧ (∀ j, 0 ≤ j → j < i → N 2 (v2 * 6 + j) = M 2 (v1 * 6 + j)) ∧ ∀ q, 0 ≤ q → q < 42 → -1 ≤ N 2 q ∧ N 2 q ≤ 5), (fun pc lv st N => match lv with | [_, _, _, _, some (.inl i)] => (10 - i).toNat | _ => 0), 400, 400, Eq.mpr (vcX2_copy_0 ..) ?_, ?_⟩
  · obtain ⟨hw, ha, hb, hab, hp⟩ := h
    have hl := hw.2.1 v1 ha.1 ha.2
    refine ⟨_, rfl, ha, _, rfl, hb, 0, rfl, rfl, rfl, by omega, by omega, fun c h1 h2 => xup_ne h2, by simp [xup], fun t ht => by simp [xup, ht], fun q _ => by rw [xup_ne (by decide)], fun j _ _ => by omega, fun q h1 h2 => by rw [xup_ne (by decide)]; exact hw.2.2 q h1 h2⟩
  · obtain ⟨hw, ha, hb, hab, hp⟩ := h
    have hl := hw.2.1 v1 ha.1 ha.2
    rintro pc lv st N ⟨i, rfl, rfl, rfl, h1, h2, h3, h4, h5, h6, h7, h8⟩
    refine Eq.mpr (vcX2_copy_14 ..) ?_
    refine ⟨⟨by omega, by omega⟩, ⟨by omega, by omega⟩, fun q => ?_, fun q => ⟨_, _, rfl, ha, ⟨by omega, by omega⟩, _, _, rfl, hb, ⟨by omega, by omega⟩, ⟨i + 1, rfl, rfl, rfl, by omega, by omega, fun c q1 q2 => ?_, ?_, fun t ht => ?_, fun u hu => ?_, fun j q1 q2 => ?_, fun u q1 q2 => ?_⟩, by (change Int.toNat _ < Int.toNat _); omega⟩⟩
    · have hi : i = M 3 v1 := by omega
      refine hp N ⟨?_, fun r q1 q2 => ?_, h8⟩ h3 ⟨by rw [h4]; exact hi, fun j q1 q2 => h7 j q1 (by omega)⟩ (fun t q1 q2 q3 => ⟨h5 t q3, fun j q4 q5 => h6 _ ?_⟩)
      · rw [h3 1 (by decide) (by decide)]; exact hw.1
      · by_cases hr : r = v2
        · subst hr; omega
        · rw [h5 r hr]; exact hw.2.1 r q1 q2
      · have := hw.2.1 t q1 q2
        omega
    · rw [xup_ne q2, xup_ne q1]; exact h3 c q1 q2
    · rw [xup_at, if_pos rfl, h4]
    · rw [xup_at, if_neg ht, xup_ne (by decide)]; exact h5 t ht
    · rw [xup_ne (by decide), xup_at, if_neg (by rw [h4]; omega)]; exact h6 u hu
    · rw [xup_ne (by decide), xup_at]
      by_cases hj : j = i
      · subst hj
        rw [if_pos (by rw [h4]), h6 _ (by omega)]
      · rw [if_neg (by rw [h4]; omega)]; exact h7 j q1 (by omega)
    · rw [xup_ne (by decide), xup_at]
      split
      · exact h8 _ (by omega) (by omega)
      · exact h8 u q1 q2
theorem k_X2_copy {l : Launch} {D : va_G} {T : Nat → ClassId} {ad : Nat → Nat} (hO : xOk ad LX) : xMet l D T ad LX yX2_copy cX2_copy 5 none true 2 sp_X2_copy :=
  xmet (rt := 0) (fld := fldX2) (cals := (calX2_copy sp_X2_length sp_X2_empty sp_X2_hopAt sp_X2_append)) (cst := []) (I := iX2_copy) (cut := cutX2_copy) hO (by decide +kernel) ⟨by decide, by decide, by decide⟩ oX2_copy foX2 (fun _ h => absurd h List.not_mem_nil) (List.forall_mem_cons.mpr ⟨⟨yX2_length, cX2_length, 2, (some .int), 0, 1, by decide, yoX2_length, k_X2_length hO, loX2_22, Or.inr ⟨rfl, rfl, 1, 2, [some 2, some 3, none], TX2, 3, rfl, rfl, spV1_r⟩⟩, List.forall_mem_cons.mpr ⟨⟨yX2_empty, cX2_empty, 2, none, 0, 1, by decide, yoX2_empty, k_X2_empty hO, loX2_37, Or.inr ⟨rfl, rfl, 1, 2, [some 2, some 3, none], TX2, 3, rfl, rfl, spV1_r⟩⟩, List.forall_mem_cons.mpr ⟨⟨yX2_hopAt, cX2_hopAt, 4, (some .int), 0, 2, by decide, yoX2_hopAt, k_X2_hopAt hO, loX2_26, Or.inr ⟨rfl, rfl, 1, 2, [some 2, some 3, none], TX2, 3, rfl, rfl, spV2_r⟩⟩, List.forall_mem_cons.mpr ⟨⟨yX2_append, cX2_append, 5, none, 1, 2, by decide, yoX2_append, k_X2_append hO, loX2_41, Or.inr ⟨rfl, rfl, 1, 2, [some 2, some 3, none], TX2, 3, rfl, rfl, spV2_r⟩⟩, fun _ h => absurd h List.not_mem_nil⟩⟩⟩⟩) b_X2_copy
def f_X2_keepHand (M : xM) (Post : xR) : Prop := wR M ∧ M 1 2 < 6 ∧ ∀ M' : xM, wR M' → (∀ c, c ≠ 1 → c ≠ 2 → c ≠ 3 → M' c = M c) → M' 1 2 = M 1 2 + 1 → M' 3 6 = 0 → rowEq M 6 M' (M 1 2) → (∀ t, 0 ≤ t → t < M 1 2 → rowEq M t M' t) → Post 0 M'
abbrev sp_X2_keepHand : xT := spV0 1 f_X2_keepHand
set_option maxRecDepth 100000 in
set_option maxHeartbeats 4000000 in
theorem b_X2_keepHand (as : List xV) (M : xM) (Post : xR) (h : sp_X2_keepHand as M Post) : as.length ≤ 1 ∧ xw LX fldX2 (calX2_keepHand sp_X2_copy sp_X2_empty) [] 0 Post iX2_keepHand cutX2_keepHand (fun _ _ _ _ => False) 400 0 (xlv as 1) [] M := by
  obtain ⟨rfl, h⟩ := h
  refine ⟨by simp, ?_⟩
  refine Eq.mpr (vcX2_keepHand_0 ..) ?_
  obtain ⟨hw, hn, hp⟩ := h
  have h0 := hw.1
  refine ⟨⟨by omega, by omega⟩, ⟨by omega, by omega⟩, fun q => by omega, fun _ => ⟨_, _, rfl, hw, ⟨by omega, by omega⟩, ⟨by omega, by omega⟩, by omega, fun N hN h1 h2 h3 => ⟨_, rfl, ⟨by omega, by omega⟩, ?_⟩⟩⟩
  have e1 : N 1 = M 1 := h1 1 (by decide) (by decide)
  refine hp _ ⟨?_, fun r q1 q2 => ?_, fun u q1 q2 => ?_⟩ (fun c q1 q2 q3 => ?_) ?_ ?_ ⟨?_, fun i q1 q2 => ?_⟩ (fun t q1 q2 => ⟨?_, fun i q3 q4 => ?_⟩)
  · rw [xup_at, if_pos rfl, xup_ne (by decide), e1]; omega
  · rw [xup_ne (by decide), xup_at]
    split
    · omega
    · exact hN.2.1 r q1 q2
  · rw [xup_ne (by decide), xup_ne (by decide)]; exact hN.2.2 u q1 q2
  · rw [xup_ne q1, xup_ne q3]; exact h1 c q2 q3
  · rw [xup_at, if_pos rfl, xup_ne (by decide), e1]
  · rw [xup_ne (by decide), xup_at, if_pos rfl]
  · rw [xup_ne (by decide), xup_at, if_neg (by omega)]; exact h2.1
  · rw [xup_ne (by decide), xup_ne (by decide)]; exact h2.2 i q1 q2
  · rw [xup_ne (by decide), xup_at, if_neg (by omega)]; exact (h3 t (by omega) (by omega) (by omega)).1
  · rw [xup_ne (by decide), xup_ne (by decide)]; exact (h3 t (by omega) (by omega) (by omega)).2 i q3 q4
theorem k_X2_keepHand {l : Launch} {D : va_G} {T : Nat → ClassId} {ad : Nat → Nat} (hO : xOk ad LX) : xMet l D T ad LX yX2_keepHand cX2_keepHand 1 none true 3 sp_X2_keepHand :=
  xmet0 (rt := 0) (fld := fldX2) (cals := (calX2_keepHand sp_X2_copy sp_X2_empty)) (cst := []) (I := iX2_keepHand) (cut := cutX2_keepHand) hO (by decide +kernel) ⟨by decide, by decide, by decide⟩ oX2_keepHand foX2 (fun _ h => absurd h List.not_mem_nil) (List.forall_mem_cons.mpr ⟨⟨yX2_copy, cX2_copy, 5, none, 2, 2, by decide, yoX2_copy, k_X2_copy hO, loX2_33, Or.inr ⟨rfl, rfl, 1, 2, [some 2, some 3, none], TX2, 3, rfl, rfl, spV2_r⟩⟩, List.forall_mem_cons.mpr ⟨⟨yX2_empty, cX2_empty, 2, none, 0, 1, by decide, yoX2_empty, k_X2_empty hO, loX2_37, Or.inr ⟨rfl, rfl, 1, 2, [some 2, some 3, none], TX2, 3, rfl, rfl, spV1_r⟩⟩, fun _ h => absurd h List.not_mem_nil⟩⟩) b_X2_keepHand
theorem rowEq.trans {A B C : xM} {a b c : Int} (h1 : rowEq A a B b) (h2 : rowEq B b C c) : rowEq A a C c := ⟨h2.1.trans h1.1, fun i q1 q2 => by rw [h2.2 i q1 (by rw [h1.1]; exact q2), h1.2 i q1 q2]⟩
theorem rowEq.refl (A : xM) (a : Int) : rowEq A a A a := ⟨rfl, fun _ _ _ => rfl⟩
def f_X2_remove (t0 : Int) (M : xM) (Post : xR) : Prop := wR M ∧ (0 ≤ t0 ∧ t0 < M 1 2) ∧ ∀ M' : xM, wR M' → (∀ c, c ≠ 1 → c ≠ 2 → c ≠ 3 → M' c = M c) → M' 1 2 = M 1 2 - 1 → rowEq M 6 M' 6 → (∀ t, 0 ≤ t → t < t0 → rowEq M t M' t) → (∀ t, t0 ≤ t → t < M 1 2 - 1 → rowEq M (t + 1) M' t) → Post 0 M'
abbrev sp_X2_remove : xT := spV1 1 f_X2_remove
set_option maxRecDepth 100000 in
set_option maxHeartbeats 4000000 in
theorem b_X2_remove (as : List xV) (M : xM) (Post : xR) (h : sp_X2_remove as M Post) : as.length ≤ 3 ∧ ∃ (Inv : xG) (μ : Nat → xL → List xV → xM → Nat) (f0 f1 : Nat), xw LX fldX2 (calX2_remove sp_X2_copy) [] 0 Post iX2_remove cutX2_remove Inv f0 0 (xlv as 3) [] M ∧ ∀ pc lv st M', Inv pc lv st M' → xw LX fldX2 (calX2_remove sp_X2_copy) [] 0 Post iX2_remove cutX2_remove (fun pc2 lv2 st2 M2 => Inv pc2 lv2 st2 M2 ∧ μ pc2 lv2 st2 M2 < μ pc lv st M') f1 pc lv st M' := by
  obtain ⟨v1, rfl, h⟩ := h
  refine ⟨by simp, (fun pc lv st N => ∃ (t : Int), pc = 14 ∧ lv = [some (.inr 1), some (.inl v1), some (.inl t)] ∧ st = [] ∧ v1 ≤ t ∧ t < M 1 2 ∧ wR N ∧ (∀ c, c ≠ 2 → c ≠ 3 → N c = M c) ∧ (∀ s, 0 ≤ s → s < v1 → rowEq M s N s) ∧ (∀ s, v1 ≤ s → s < t → rowEq M (s + 1) N s) ∧ (∀ s, t ≤ s → s < 7 → rowEq M s N s)), (fun pc lv st N => match lv with | [_, _, some (.inl i)] => (10 - i).toNat | _ => 0), 400, 400, Eq.mpr (vcX2_remove_0 ..) ?_, ?_⟩
  · obtain ⟨hw, ha, hp⟩ := h
    have h0 := hw.1
    exact ⟨⟨by omega, by omega⟩, fun q => by omega, fun _ => ⟨⟨by omega, by omega⟩, ⟨by omega, by omega⟩, fun q => by omega, fun _ => ⟨v1, rfl, rfl, rfl, by omega, by omega, hw, fun _ _ _ => rfl, fun s _ _ => rowEq.refl _ _, fun s _ _ => by omega, fun s _ _ => rowEq.refl _ _⟩⟩⟩
  · obtain ⟨hw, ha, hp⟩ := h
    have h0 := hw.1
    rintro pc lv st N ⟨t, rfl, rfl, rfl, h1, h2, h3, h4, h5, h6, h7⟩
    refine Eq.mpr (vcX2_remove_14 ..) ?_
    have e1 : N 1 = M 1 := h4 1 (by decide) (by decide)
    rw [e1]
    refine ⟨⟨by omega, by omega⟩, ⟨by omega, by omega⟩, fun q => ?_, fun q => ⟨_, _, rfl, h3, ⟨by omega, by omega⟩, ⟨by omega, by omega⟩, by omega, fun N2 hN2 g1 g2 g3 => ⟨⟨t + 1, rfl, rfl, rfl, by omega, by omega, hN2, fun c q1 q2 => ?_, fun s q1 q2 => ?_, fun s q1 q2 => ?_, fun s q1 q2 => ?_⟩, by (change Int.toNat _ < Int.toNat _); omega⟩⟩⟩
    · refine hp _ ⟨?_, fun r q1 q2 => ?_, fun u q1 q2 => ?_⟩ (fun c q1 q2 q3 => ?_) ?_ ?_ (fun s q1 q2 => ?_) (fun s q1 q2 => ?_)
      · rw [xup_at, if_pos rfl]; omega
      · rw [xup_ne (by decide)]; exact h3.2.1 r q1 q2
      · rw [xup_ne (by decide)]; exact h3.2.2 u q1 q2
      · rw [xup_ne q1]; exact h4 c q2 q3
      · rw [xup_at, if_pos rfl]
      · have := h7 6 (by omega) (by omega)
        exact ⟨by rw [xup_ne (by decide)]; exact this.1, fun i a b => by rw [xup_ne (by decide)]; exact this.2 i a b⟩
      · have := h5 s q1 q2
        exact ⟨by rw [xup_ne (by decide)]; exact this.1, fun i a b => by rw [xup_ne (by decide)]; exact this.2 i a b⟩
      · have := h6 s q1 (by omega)
        exact ⟨by rw [xup_ne (by decide)]; exact this.1, fun i a b => by rw [xup_ne (by decide)]; exact this.2 i a b⟩
    · rw [g1 c q1 q2]; exact h4 c q1 q2
    · exact (h5 s q1 q2).trans (g3 s q1 (by omega) (by omega))
    · by_cases hs : s = t
      · subst hs
        exact (h7 (s + 1) (by omega) (by omega)).trans g2
      · exact (h6 s q1 (by omega)).trans (g3 s (by omega) (by omega) hs)
    · exact (h7 s (by omega) q2).trans (g3 s (by omega) q2 (by omega))
theorem k_X2_remove {l : Launch} {D : va_G} {T : Nat → ClassId} {ad : Nat → Nat} (hO : xOk ad LX) : xMet l D T ad LX yX2_remove cX2_remove 3 none true 3 sp_X2_remove :=
  xmet (rt := 0) (fld := fldX2) (cals := (calX2_remove sp_X2_copy)) (cst := []) (I := iX2_remove) (cut := cutX2_remove) hO (by decide +kernel) ⟨by decide, by decide, by decide⟩ oX2_remove foX2 (fun _ h => absurd h List.not_mem_nil) (List.forall_mem_cons.mpr ⟨⟨yX2_copy, cX2_copy, 5, none, 2, 2, by decide, yoX2_copy, k_X2_copy hO, loX2_33, Or.inr ⟨rfl, rfl, 1, 2, [some 2, some 3, none], TX2, 3, rfl, rfl, spV2_r⟩⟩, fun _ h => absurd h List.not_mem_nil⟩) b_X2_remove
end
section
/-! Told: cell 5 the least NAME of each NAME's box, cell 6 APART by bits, place 2 of cell 4 how many times it was told -/
def wT (M : xM) : Prop := (∀ n, 0 ≤ n → n < 6 → 0 ≤ M 5 n ∧ M 5 n ≤ n) ∧ (∀ n, 0 ≤ n → n < 6 → M 5 (M 5 n) = M 5 n) ∧ (∀ n, 0 ≤ n → n < 6 → 0 ≤ M 6 n ∧ M 6 n < 64)
def f_X4_times (M : xM) (Post : xR) : Prop := Post (M 4 2) M
abbrev sp_X4_times : xT := spV0 4 f_X4_times
set_option maxRecDepth 100000 in
set_option maxHeartbeats 4000000 in
theorem b_X4_times (as : List xV) (M : xM) (Post : xR) (h : sp_X4_times as M Post) : as.length ≤ 1 ∧ xw LX fldX4 calX4_times [] 1 Post iX4_times cutX4_times (fun _ _ _ _ => False) 400 0 (xlv as 1) [] M := by
  obtain ⟨rfl, h⟩ := h
  refine ⟨by simp, ?_⟩
  refine Eq.mpr (vcX4_times_0 ..) ?_
  exact h
theorem k_X4_times {l : Launch} {D : va_G} {T : Nat → ClassId} {ad : Nat → Nat} (hO : xOk ad LX) : xMet l D T ad LX yX4_times cX4_times 1 (some .int) false 0 sp_X4_times :=
  xmet0 (rt := 1) (fld := fldX4) (cals := calX4_times) (cst := []) (I := iX4_times) (cut := cutX4_times) hO (by decide +kernel) ⟨by decide, by decide, by decide⟩ oX4_times foX4 (fun _ h => absurd h List.not_mem_nil) (fun _ h => absurd h List.not_mem_nil) b_X4_times
def f_X4_box (n : Int) (M : xM) (Post : xR) : Prop := (0 ≤ n ∧ n < 6) ∧ Post (M 5 n) M
abbrev sp_X4_box : xT := spV1 4 f_X4_box
set_option maxRecDepth 100000 in
set_option maxHeartbeats 4000000 in
theorem b_X4_box (as : List xV) (M : xM) (Post : xR) (h : sp_X4_box as M Post) : as.length ≤ 2 ∧ xw LX fldX4 calX4_box [] 1 Post iX4_box cutX4_box (fun _ _ _ _ => False) 400 0 (xlv as 2) [] M := by
  obtain ⟨v1, rfl, h⟩ := h
  refine ⟨by simp, ?_⟩
  refine Eq.mpr (vcX4_box_0 ..) ?_
  obtain ⟨h0, hp⟩ := h
  simp only [rg]
  grind
theorem k_X4_box {l : Launch} {D : va_G} {T : Nat → ClassId} {ad : Nat → Nat} (hO : xOk ad LX) : xMet l D T ad LX yX4_box cX4_box 2 (some .int) false 0 sp_X4_box :=
  xmet0 (rt := 1) (fld := fldX4) (cals := calX4_box) (cst := []) (I := iX4_box) (cut := cutX4_box) hO (by decide +kernel) ⟨by decide, by decide, by decide⟩ oX4_box foX4 (fun _ h => absurd h List.not_mem_nil) (fun _ h => absurd h List.not_mem_nil) b_X4_box
def f_X4_clear (M : xM) (Post : xR) : Prop := ∀ M' : xM, (∀ c, c ≠ 4 → c ≠ 5 → c ≠ 6 → M' c = M c) → (∀ n, 0 ≤ n → n < 6 → M' 5 n = n) → (∀ n, 0 ≤ n → n < 6 → M' 6 n = 0) → M' 4 2 = 0 → Post 0 M'
abbrev sp_X4_clear : xT := spV0 4 f_X4_clear
set_option maxRecDepth 100000 in
set_option maxHeartbeats 4000000 in
theorem b_X4_clear (as : List xV) (M : xM) (Post : xR) (h : sp_X4_clear as M Post) : as.length ≤ 2 ∧ ∃ (Inv : xG) (μ : Nat → xL → List xV → xM → Nat) (f0 f1 : Nat), xw LX fldX4 (calX4_clear sp_J7_fill_53178) [] 0 Post iX4_clear cutX4_clear Inv f0 0 (xlv as 2) [] M ∧ ∀ pc lv st M', Inv pc lv st M' → xw LX fldX4 (calX4_clear sp_J7_fill_53178) [] 0 Post iX4_clear cutX4_clear (fun pc2 lv2 st2 M2 => Inv pc2 lv2 st2 M2 ∧ μ pc2 lv2 st2 M2 < μ pc lv st M') f1 pc lv st M' := by
  obtain ⟨rfl, h⟩ := h
  refine ⟨by simp, (fun pc lv st N => ∃ (i : Int), pc = 2 ∧ lv = [some (.inr 4), some (.inl i)] ∧ st = [] ∧ 0 ≤ i ∧ i ≤ 6 ∧ (∀ c, c ≠ 5 → N c = M c) ∧ ∀ n, 0 ≤ n → n < i → N 5 n = n), (fun pc lv st N => match lv with | [_, some (.inl i)] => (10 - i).toNat | _ => 0), 400, 400, Eq.mpr (vcX4_clear_0 ..) ?_, ?_⟩
  · exact ⟨0, rfl, rfl, rfl, by omega, by omega, fun _ _ => rfl, fun n _ _ => by omega⟩
  · rintro pc lv st N ⟨i, rfl, rfl, rfl, h1, h2, h3, h4⟩
    refine Eq.mpr (vcX4_clear_2 ..) ?_
    refine ⟨⟨by omega, by omega⟩, ⟨by omega, by omega⟩, fun q => ⟨0, Or.inl ⟨rfl, fun N2 g1 g2 => ?_⟩⟩, fun q => ⟨⟨by omega, by omega⟩, ⟨i + 1, rfl, rfl, rfl, by omega, by omega, fun c hc => by rw [xup_ne hc]; exact h3 c hc, fun n q1 q2 => ?_⟩, by (change Int.toNat _ < Int.toNat _); omega⟩⟩
    · refine h _ (fun c q1 q2 q3 => ?_) (fun n q1 q2 => ?_) (fun n q1 q2 => ?_) ?_
      · rw [xup_ne q1, g1 c q3]; exact h3 c q2
      · rw [xup_ne (by decide), g1 5 (by decide)]; exact h4 n q1 (by omega)
      · rw [xup_ne (by decide)]; exact g2 n q1 (by omega)
      · rw [xup_at, if_pos rfl]
    · rw [xup_at]
      split
      · omega
      · exact h4 n q1 (by omega)
theorem k_X4_clear {l : Launch} {D : va_G} {T : Nat → ClassId} {ad : Nat → Nat} (hO : xOk ad LX) : xMet l D T ad LX yX4_clear cX4_clear 2 none true 1 sp_X4_clear :=
  xmet (rt := 0) (fld := fldX4) (cals := (calX4_clear sp_J7_fill_53178)) (cst := []) (I := iX4_clear) (cut := cutX4_clear) hO (by decide +kernel) ⟨by decide, by decide, by decide⟩ oX4_clear foX4 (fun _ h => absurd h List.not_mem_nil) (List.forall_mem_cons.mpr ⟨⟨yJ7_fill_53178, cJ7_fill_53178, 4, none, 0, 2, by decide, yoJ7_fill_53178, k_J7_fill_53178 hO, loX4_22, Or.inl ⟨rfl, rfl⟩⟩, fun _ h => absurd h List.not_mem_nil⟩) b_X4_clear
def f_X4_boxes (x : Int) (M : xM) (Post : xR) : Prop := wT M ∧ (0 ≤ x ∧ x < 64) ∧ ∀ y, 0 ≤ y → y < 64 → (∀ b, 0 ≤ b → b < 6 → (tb y b ↔ ∃ n, 0 ≤ n ∧ n < 6 ∧ tb x n ∧ M 5 n = b)) → Post y M
abbrev sp_X4_boxes : xT := spV1 4 f_X4_boxes
set_option maxRecDepth 100000 in
set_option maxHeartbeats 4000000 in
theorem b_X4_boxes (as : List xV) (M : xM) (Post : xR) (h : sp_X4_boxes as M Post) : as.length ≤ 4 ∧ ∃ (Inv : xG) (μ : Nat → xL → List xV → xM → Nat) (f0 f1 : Nat), xw LX fldX4 (calX4_boxes sp_X5_hasBit sp_X4_box) [] 1 Post iX4_boxes cutX4_boxes Inv f0 0 (xlv as 4) [] M ∧ ∀ pc lv st M', Inv pc lv st M' → xw LX fldX4 (calX4_boxes sp_X5_hasBit sp_X4_box) [] 1 Post iX4_boxes cutX4_boxes (fun pc2 lv2 st2 M2 => Inv pc2 lv2 st2 M2 ∧ μ pc2 lv2 st2 M2 < μ pc lv st M') f1 pc lv st M' := by
  obtain ⟨v1, rfl, h⟩ := h
  refine ⟨by simp, (fun pc lv st N => ∃ (y i : Int), pc = 4 ∧ lv = [some (.inr 4), some (.inl v1), some (.inl y), some (.inl i)] ∧ st = [] ∧ M = N ∧ 0 ≤ i ∧ i ≤ 6 ∧ 0 ≤ y ∧ y < 64 ∧ ∀ b, 0 ≤ b → b < 6 → (tb y b ↔ ∃ n, 0 ≤ n ∧ n < i ∧ tb v1 n ∧ M 5 n = b)), (fun pc lv st N => match lv with | [_, _, _, some (.inl i)] => (10 - i).toNat | _ => 0), 400, 400, Eq.mpr (vcX4_boxes_0 ..) ?_, ?_⟩
  · obtain ⟨hw, hx, hp⟩ := h
    refine ⟨0, 0, rfl, rfl, rfl, rfl, by omega, by omega, by omega, by omega, fun b _ _ => ⟨fun q => (tb_0 b q).elim, ?_⟩⟩
    rintro ⟨n, q1, q2, -⟩
    omega
  · obtain ⟨hw, hx, hp⟩ := h
    rintro pc lv st N ⟨y, i, rfl, rfl, rfl, rfl, h1, h2, h3, h4, h5⟩
    refine Eq.mpr (vcX4_boxes_4 ..) ?_
    refine ⟨⟨by omega, by omega⟩, ⟨by omega, by omega⟩, fun q => ?_, fun q => ⟨_, _, rfl, ⟨by omega, by omega⟩, ⟨by omega, by omega⟩, fun r hr => ⟨⟨by omega, by omega⟩, fun q3 => ⟨⟨_, i + 1, rfl, rfl, rfl, rfl, by omega, by omega, ?_, ?_, fun b q1 q2 => ?_⟩, by (change Int.toNat _ < Int.toNat _); omega⟩, fun q3 => ⟨_, rfl, ⟨by omega, by omega⟩, ⟨_, i + 1, rfl, rfl, rfl, rfl, by omega, by omega, ?_, ?_, fun b q1 q2 => ?_⟩, by (change Int.toNat _ < Int.toNat _); omega⟩⟩⟩⟩
    · refine hp y h3 h4 (fun b q1 q2 => ?_)
      rw [h5 b q1 q2, show i = 6 by omega]
    · rw [or0 ⟨by omega, by omega⟩]; exact h3
    · rw [or0 ⟨by omega, by omega⟩]; exact h4
    · rw [or0 ⟨by omega, by omega⟩, h5 b q1 q2]
      have hnt : ¬ tb v1 i := by
        rcases hr with ⟨a, _⟩ | ⟨_, a⟩
        · omega
        · exact a
      constructor
      · rintro ⟨n, a1, a2, a3⟩
        exact ⟨n, a1, by omega, a3⟩
      · rintro ⟨n, a1, a2, a3, a4⟩
        by_cases hn : n = i
        · subst hn; exact (hnt a3).elim
        · exact ⟨n, a1, by omega, a3, a4⟩
    all_goals
      have hb := hw.1 i h1 (by omega)
      have ho := or1 (x := y) (h := M 5 i) 6 (by omega) ⟨h3, by rw [h64]; omega⟩ ⟨by omega, by omega⟩
      rw [h64] at ho
    · exact ho.1.1
    · exact ho.1.2
    · rw [ho.2 b q1, h5 b q1 q2]
      have hnt : tb v1 i := by
        rcases hr with ⟨_, a⟩ | ⟨a, _⟩
        · exact a
        · omega
      constructor
      · rintro (⟨n, a1, a2, a3⟩ | a)
        · exact ⟨n, a1, by omega, a3⟩
        · exact ⟨i, h1, by omega, hnt, a.symm⟩
      · rintro ⟨n, a1, a2, a3, a4⟩
        by_cases hn : n = i
        · subst hn; exact Or.inr a4.symm
        · exact Or.inl ⟨n, a1, by omega, a3, a4⟩
theorem k_X4_boxes {l : Launch} {D : va_G} {T : Nat → ClassId} {ad : Nat → Nat} (hO : xOk ad LX) : xMet l D T ad LX yX4_boxes cX4_boxes 4 (some .int) false 1 sp_X4_boxes :=
  xmet (rt := 1) (fld := fldX4) (cals := (calX4_boxes sp_X5_hasBit sp_X4_box)) (cst := []) (I := iX4_boxes) (cut := cutX4_boxes) hO (by decide +kernel) ⟨by decide, by decide, by decide⟩ oX4_boxes foX4 (fun _ h => absurd h List.not_mem_nil) (List.forall_mem_cons.mpr ⟨⟨yX5_hasBit, cX5_hasBit, 2, (some .boolean), 0, 2, by decide, yoX5_hasBit, k_X5_hasBit hO, loX4_28, Or.inl ⟨rfl, rfl⟩⟩, List.forall_mem_cons.mpr ⟨⟨yX4_box, cX4_box, 2, (some .int), 0, 1, by decide, yoX4_box, k_X4_box hO, loX4_32, Or.inr ⟨rfl, rfl, 4, 4, [some 5, some 6, none], TX4, 3, rfl, rfl, spV1_r⟩⟩, fun _ h => absurd h List.not_mem_nil⟩⟩) b_X4_boxes
def f_X4_areOneBox (a b : Int) (M : xM) (Post : xR) : Prop := wT M ∧ (0 ≤ a ∧ a < 6) ∧ (0 ≤ b ∧ b < 6) ∧ ∀ r, (r = 1 ∧ M 5 a = M 5 b ∨ r = 0 ∧ M 5 a ≠ M 5 b) → Post r M
abbrev sp_X4_areOneBox : xT := spV2 4 f_X4_areOneBox
set_option maxRecDepth 100000 in
set_option maxHeartbeats 4000000 in
theorem b_X4_areOneBox (as : List xV) (M : xM) (Post : xR) (h : sp_X4_areOneBox as M Post) : as.length ≤ 3 ∧ xw LX fldX4 (calX4_areOneBox sp_X4_box) [] 2 Post iX4_areOneBox cutX4_areOneBox (fun _ _ _ _ => False) 400 0 (xlv as 3) [] M := by
  obtain ⟨v1, v2, rfl, h⟩ := h
  refine ⟨by simp, ?_⟩
  refine Eq.mpr (vcX4_areOneBox_0 ..) ?_
  obtain ⟨hw, ha, hb, hp⟩ := h
  have h1 := hw.1 v1 ha.1 ha.2
  have h2 := hw.1 v2 hb.1 hb.2
  exact ⟨_, rfl, ha, _, rfl, hb, ⟨by omega, by omega⟩, ⟨by omega, by omega⟩, fun q => ⟨by omega, hp 0 (Or.inr ⟨rfl, q⟩)⟩, fun q => ⟨by omega, hp 1 (Or.inl ⟨rfl, q⟩)⟩⟩
theorem k_X4_areOneBox {l : Launch} {D : va_G} {T : Nat → ClassId} {ad : Nat → Nat} (hO : xOk ad LX) : xMet l D T ad LX yX4_areOneBox cX4_areOneBox 3 (some .boolean) false 1 sp_X4_areOneBox :=
  xmet0 (rt := 2) (fld := fldX4) (cals := (calX4_areOneBox sp_X4_box)) (cst := []) (I := iX4_areOneBox) (cut := cutX4_areOneBox) hO (by decide +kernel) ⟨by decide, by decide, by decide⟩ oX4_areOneBox foX4 (fun _ h => absurd h List.not_mem_nil) (List.forall_mem_cons.mpr ⟨⟨yX4_box, cX4_box, 2, (some .int), 0, 1, by decide, yoX4_box, k_X4_box hO, loX4_32, Or.inr ⟨rfl, rfl, 4, 4, [some 5, some 6, none], TX4, 3, rfl, rfl, spV1_r⟩⟩, fun _ h => absurd h List.not_mem_nil⟩) b_X4_areOneBox
def f_X4_areToldApart (a b : Int) (M : xM) (Post : xR) : Prop := wT M ∧ (0 ≤ a ∧ a < 6) ∧ (0 ≤ b ∧ b < 6) ∧ ∀ r, (r = 1 ∧ tb (M 6 a) b ∨ r = 0 ∧ ¬ tb (M 6 a) b) → Post r M
abbrev sp_X4_areToldApart : xT := spV2 4 f_X4_areToldApart
set_option maxRecDepth 100000 in
set_option maxHeartbeats 4000000 in
theorem b_X4_areToldApart (as : List xV) (M : xM) (Post : xR) (h : sp_X4_areToldApart as M Post) : as.length ≤ 3 ∧ xw LX fldX4 (calX4_areToldApart sp_X5_hasBit) [] 2 Post iX4_areToldApart cutX4_areToldApart (fun _ _ _ _ => False) 400 0 (xlv as 3) [] M := by
  obtain ⟨v1, v2, rfl, h⟩ := h
  refine ⟨by simp, ?_⟩
  refine Eq.mpr (vcX4_areToldApart_0 ..) ?_
  obtain ⟨hw, ha, hb, hp⟩ := h
  have h1 := hw.2.2 v1 ha.1 ha.2
  refine ⟨⟨by omega, by omega⟩, fun q => by omega, fun _ => ⟨⟨by omega, by omega⟩, ⟨by omega, by omega⟩, fun q => by omega, fun _ => ⟨ha, _, _, rfl, ⟨by omega, by omega⟩, ⟨by omega, by omega⟩, fun r hr => ⟨⟨by omega, by omega⟩, fun q => ⟨by omega, hp 0 (Or.inr ⟨rfl, ?_⟩)⟩, fun q => ⟨by omega, hp 1 (Or.inl ⟨rfl, ?_⟩)⟩⟩⟩⟩⟩
  · rcases hr with ⟨a, _⟩ | ⟨_, a⟩
    · omega
    · exact a
  · rcases hr with ⟨_, a⟩ | ⟨a, _⟩
    · exact a
    · omega
theorem k_X4_areToldApart {l : Launch} {D : va_G} {T : Nat → ClassId} {ad : Nat → Nat} (hO : xOk ad LX) : xMet l D T ad LX yX4_areToldApart cX4_areToldApart 3 (some .boolean) false 1 sp_X4_areToldApart :=
  xmet0 (rt := 2) (fld := fldX4) (cals := (calX4_areToldApart sp_X5_hasBit)) (cst := []) (I := iX4_areToldApart) (cut := cutX4_areToldApart) hO (by decide +kernel) ⟨by decide, by decide, by decide⟩ oX4_areToldApart foX4 (fun _ h => absurd h List.not_mem_nil) (List.forall_mem_cons.mpr ⟨⟨yX5_hasBit, cX5_hasBit, 2, (some .boolean), 0, 2, by decide, yoX5_hasBit, k_X5_hasBit hO, loX4_28, Or.inl ⟨rfl, rfl⟩⟩, fun _ h => absurd h List.not_mem_nil⟩) b_X4_areToldApart
def apB (M : xM) (a b : Int) : Prop := ∃ c d : Int, 0 ≤ c ∧ c < 6 ∧ 0 ≤ d ∧ d < 6 ∧ M 5 a = M 5 c ∧ M 5 b = M 5 d ∧ tb (M 6 c) d
def f_X4_haveBoxesApart (a b : Int) (M : xM) (Post : xR) : Prop := wT M ∧ (0 ≤ a ∧ a < 6) ∧ (0 ≤ b ∧ b < 6) ∧ ∀ r, (r = 1 ∧ apB M a b ∨ r = 0 ∧ ¬ apB M a b) → Post r M
abbrev sp_X4_haveBoxesApart : xT := spV2 4 f_X4_haveBoxesApart
set_option maxRecDepth 100000 in
set_option maxHeartbeats 4000000 in
theorem b_X4_haveBoxesApart (as : List xV) (M : xM) (Post : xR) (h : sp_X4_haveBoxesApart as M Post) : as.length ≤ 5 ∧ ∃ (Inv : xG) (μ : Nat → xL → List xV → xM → Nat) (f0 f1 : Nat), xw LX fldX4 (calX4_haveBoxesApart sp_X4_areOneBox sp_X4_areToldApart) [] 2 Post iX4_haveBoxesApart cutX4_haveBoxesApart Inv f0 0 (xlv as 5) [] M ∧ ∀ pc lv st M', Inv pc lv st M' → xw LX fldX4 (calX4_haveBoxesApart sp_X4_areOneBox sp_X4_areToldApart) [] 2 Post iX4_haveBoxesApart cutX4_haveBoxesApart (fun pc2 lv2 st2 M2 => Inv pc2 lv2 st2 M2 ∧ μ pc2 lv2 st2 M2 < μ pc lv st M') f1 pc lv st M' := by
  obtain ⟨v1, v2, rfl, h⟩ := h
  refine ⟨by simp, (fun pc lv st N => (∃ (x : Int) (o4 : Option xV), pc = 2 ∧ lv = [some (.inr 4), some (.inl v1), some (.inl v2), some (.inl x), o4] ∧ st = [] ∧ M = N ∧ 0 ≤ x ∧ x ≤ 6 ∧ ∀ c d : Int, 0 ≤ c → c < x → 0 ≤ d → d < 6 → M 5 v1 = M 5 c → M 5 v2 = M 5 d → ¬ tb (M 6 c) d) ∨ (∃ (x y : Int), pc = 11 ∧ lv = [some (.inr 4), some (.inl v1), some (.inl v2), some (.inl x), some (.inl y)] ∧ st = [] ∧ M = N ∧ 0 ≤ x ∧ x < 6 ∧ 0 ≤ y ∧ y ≤ 6 ∧ (∀ c d : Int, 0 ≤ c → c < x → 0 ≤ d → d < 6 → M 5 v1 = M 5 c → M 5 v2 = M 5 d → ¬ tb (M 6 c) d) ∧ ∀ d : Int, 0 ≤ d → d < y → M 5 v1 = M 5 x → M 5 v2 = M 5 d → ¬ tb (M 6 x) d)), (fun pc lv st N => match pc, lv with | 2, [_, _, _, some (.inl t), _] => ((7 - t) * 100).toNat | 11, [_, _, _, some (.inl t), some (.inl i)] => ((6 - t) * 100 + 50 - i).toNat | _, _ => 0), 400, 400, Eq.mpr (vcX4_haveBoxesApart_0 ..) ?_, ?_⟩
  · obtain ⟨hw, ha, hb, hp⟩ := h
    exact Or.inl ⟨0, none, rfl, rfl, rfl, rfl, by omega, by omega, fun c d _ _ => by omega⟩
  · obtain ⟨hw, ha, hb, hp⟩ := h
    rintro pc lv st N (⟨x, o4, rfl, rfl, rfl, rfl, h1, h2, h3⟩ | ⟨x, y, rfl, rfl, rfl, rfl, h1, h2, h3, h4, h5, h6⟩)
    · refine Eq.mpr (vcX4_haveBoxesApart_2 ..) ?_
      refine ⟨⟨by omega, by omega⟩, ⟨by omega, by omega⟩, fun q => ⟨by omega, hp 0 (Or.inr ⟨rfl, ?_⟩)⟩, fun q => ⟨Or.inr ⟨x, 0, rfl, rfl, rfl, rfl, by omega, by omega, by omega, by omega, h3, fun d _ _ => by omega⟩, by (change Int.toNat _ < Int.toNat _); omega⟩⟩
      rintro ⟨c, d, a1, a2, a3, a4, a5, a6, a7⟩
      exact h3 c d a1 (by omega) a3 a4 a5 a6 a7
    · refine Eq.mpr (vcX4_haveBoxesApart_11 ..) ?_
      refine ⟨⟨by omega, by omega⟩, ⟨by omega, by omega⟩, fun q => ⟨Or.inl ⟨x + 1, _, rfl, rfl, rfl, rfl, by omega, by omega, fun c d a1 a2 a3 a4 a5 a6 => ?_⟩, by (change Int.toNat _ < Int.toNat _); omega⟩, fun q => ⟨_, _, rfl, hw, ha, ⟨by omega, by omega⟩, fun r1 hr1 => ⟨⟨by omega, by omega⟩, fun q1 => ⟨Or.inr ⟨x, y + 1, rfl, rfl, rfl, rfl, by omega, by omega, by omega, by omega, h5, fun d a1 a2 a3 a4 => ?_⟩, by (change Int.toNat _ < Int.toNat _); omega⟩, fun q1 => ⟨_, _, rfl, hw, hb, ⟨by omega, by omega⟩, fun r2 hr2 => ⟨⟨by omega, by omega⟩, fun q2 => ⟨Or.inr ⟨x, y + 1, rfl, rfl, rfl, rfl, by omega, by omega, by omega, by omega, h5, fun d a1 a2 a3 a4 => ?_⟩, by (change Int.toNat _ < Int.toNat _); omega⟩, fun q2 => ⟨_, _, rfl, hw, ⟨by omega, by omega⟩, ⟨by omega, by omega⟩, fun r3 hr3 => ⟨⟨by omega, by omega⟩, fun q3 => ⟨Or.inr ⟨x, y + 1, rfl, rfl, rfl, rfl, by omega, by omega, by omega, by omega, h5, fun d a1 a2 a3 a4 => ?_⟩, by (change Int.toNat _ < Int.toNat _); omega⟩, fun q3 => ⟨by omega, hp 1 (Or.inl ⟨rfl, x, y, by omega, by omega, by omega, by omega, ?_, ?_, ?_⟩)⟩⟩⟩⟩⟩⟩⟩⟩
      · by_cases hc : c = x
        · subst hc; exact h6 d a3 (by omega) a5 a6
        · exact h5 c d a1 (by omega) a3 a4 a5 a6
      · omega
      · by_cases hd : d = y
        · subst hd; omega
        · exact h6 d a1 (by omega) a3 a4
      · by_cases hd : d = y
        · subst hd
          rcases hr3 with ⟨a, _⟩ | ⟨_, a⟩
          · omega
          · exact a
        · exact h6 d a1 (by omega) a3 a4
      · omega
      · omega
      · rcases hr3 with ⟨_, a⟩ | ⟨a, _⟩
        · exact a
        · omega
theorem k_X4_haveBoxesApart {l : Launch} {D : va_G} {T : Nat → ClassId} {ad : Nat → Nat} (hO : xOk ad LX) : xMet l D T ad LX yX4_haveBoxesApart cX4_haveBoxesApart 5 (some .boolean) false 2 sp_X4_haveBoxesApart :=
  xmet (rt := 2) (fld := fldX4) (cals := (calX4_haveBoxesApart sp_X4_areOneBox sp_X4_areToldApart)) (cst := []) (I := iX4_haveBoxesApart) (cut := cutX4_haveBoxesApart) hO (by decide +kernel) ⟨by decide, by decide, by decide⟩ oX4_haveBoxesApart foX4 (fun _ h => absurd h List.not_mem_nil) (List.forall_mem_cons.mpr ⟨⟨yX4_areOneBox, cX4_areOneBox, 3, (some .boolean), 1, 2, by decide, yoX4_areOneBox, k_X4_areOneBox hO, loX4_36, Or.inr ⟨rfl, rfl, 4, 4, [some 5, some 6, none], TX4, 3, rfl, rfl, spV2_r⟩⟩, List.forall_mem_cons.mpr ⟨⟨yX4_areToldApart, cX4_areToldApart, 3, (some .boolean), 1, 2, by decide, yoX4_areToldApart, k_X4_areToldApart hO, loX4_39, Or.inr ⟨rfl, rfl, 4, 4, [some 5, some 6, none], TX4, 3, rfl, rfl, spV2_r⟩⟩, fun _ h => absurd h List.not_mem_nil⟩⟩) b_X4_haveBoxesApart
def f_X4_makeOne (x y : Int) (M : xM) (Post : xR) : Prop := wT M ∧ (0 ≤ x ∧ x < 6) ∧ (0 ≤ y ∧ y < 6) ∧ ∀ M' : xM, (∀ c, c ≠ 5 → M' c = M c) → (∀ n, 0 ≤ n → n < 6 → M' 5 n = if M 5 n = x ∨ M 5 n = y then min x y else M 5 n) → Post 0 M'
abbrev sp_X4_makeOne : xT := spV2 4 f_X4_makeOne
set_option maxRecDepth 100000 in
set_option maxHeartbeats 4000000 in
theorem b_X4_makeOne (as : List xV) (M : xM) (Post : xR) (h : sp_X4_makeOne as M Post) : as.length ≤ 4 ∧ ∃ (Inv : xG) (μ : Nat → xL → List xV → xM → Nat) (f0 f1 : Nat), xw LX fldX4 (calX4_makeOne sp_J9_min_7cf53) [] 0 Post iX4_makeOne cutX4_makeOne Inv f0 0 (xlv as 4) [] M ∧ ∀ pc lv st M', Inv pc lv st M' → xw LX fldX4 (calX4_makeOne sp_J9_min_7cf53) [] 0 Post iX4_makeOne cutX4_makeOne (fun pc2 lv2 st2 M2 => Inv pc2 lv2 st2 M2 ∧ μ pc2 lv2 st2 M2 < μ pc lv st M') f1 pc lv st M' := by
  obtain ⟨v1, v2, rfl, h⟩ := h
  refine ⟨by simp, (fun pc lv st N => ∃ (i : Int), pc = 2 ∧ lv = [some (.inr 4), some (.inl v1), some (.inl v2), some (.inl i)] ∧ st = [] ∧ 0 ≤ i ∧ i ≤ 6 ∧ (∀ c, c ≠ 5 → N c = M c) ∧ (∀ n, 0 ≤ n → n < i → N 5 n = if M 5 n = v1 ∨ M 5 n = v2 then min v1 v2 else M 5 n) ∧ ∀ n, i ≤ n → n < 6 → N 5 n = M 5 n), (fun pc lv st N => match lv with | [_, _, _, some (.inl i)] => (10 - i).toNat | _ => 0), 400, 400, Eq.mpr (vcX4_makeOne_0 ..) ?_, ?_⟩
  · exact ⟨0, rfl, rfl, rfl, by omega, by omega, fun _ _ => rfl, fun n _ _ => by omega, fun _ _ _ => rfl⟩
  · obtain ⟨hw, hx, hy, hp⟩ := h
    rintro pc lv st N ⟨i, rfl, rfl, rfl, h1, h2, h3, h4, h5⟩
    refine Eq.mpr (vcX4_makeOne_2 ..) ?_
    refine ⟨⟨by omega, by omega⟩, ⟨by omega, by omega⟩, fun q => hp N h3 (fun n q1 q2 => h4 n q1 (by omega)), fun q => ?_⟩
    have e := h5 i (by omega) q
    have hb := hw.1 i h1 q
    rw [e]
    have stp : ∀ v, v = (if M 5 i = v1 ∨ M 5 i = v2 then min v1 v2 else M 5 i) → (∀ c, c ≠ 5 → xup N 5 i v c = M c) ∧ (∀ n, 0 ≤ n → n < i + 1 → xup N 5 i v 5 n = if M 5 n = v1 ∨ M 5 n = v2 then min v1 v2 else M 5 n) ∧ ∀ n, i + 1 ≤ n → n < 6 → xup N 5 i v 5 n = M 5 n := by
      intro v hv
      refine ⟨fun c hc => by rw [xup_ne hc]; exact h3 c hc, fun n q1 q2 => ?_, fun n q1 q2 => ?_⟩
      · rw [xup_at]
        by_cases hn : n = i
        · subst hn; rw [if_pos rfl]; exact hv
        · rw [if_neg hn]; exact h4 n q1 (by omega)
      · rw [xup_at, if_neg (by omega)]; exact h5 n (by omega) q2
    refine ⟨⟨by omega, by omega⟩, ⟨by omega, by omega⟩, ⟨by omega, by omega⟩, fun q1 => ⟨_, _, rfl, ⟨by omega, by omega⟩, ⟨by omega, by omega⟩, ⟨by omega, by omega⟩, ⟨i + 1, rfl, rfl, rfl, by omega, by omega, stp _ (by rw [if_pos (Or.inl q1)])⟩, by (change Int.toNat _ < Int.toNat _); omega⟩, fun q1 => ⟨⟨by omega, by omega⟩, ⟨by omega, by omega⟩, ⟨by omega, by omega⟩, fun q2 => ⟨⟨i + 1, rfl, rfl, rfl, by omega, by omega, h3, fun n a1 a2 => ?_, fun n a1 a2 => h5 n (by omega) a2⟩, by (change Int.toNat _ < Int.toNat _); omega⟩, fun q2 => ⟨_, _, rfl, ⟨by omega, by omega⟩, ⟨by omega, by omega⟩, ⟨by omega, by omega⟩, ⟨i + 1, rfl, rfl, rfl, by omega, by omega, stp _ (by rw [if_pos (Or.inr q2)])⟩, by (change Int.toNat _ < Int.toNat _); omega⟩⟩⟩
    by_cases hn : n = i
    · subst hn; rw [if_neg (by omega)]; exact e
    · exact h4 n a1 (by omega)
theorem k_X4_makeOne {l : Launch} {D : va_G} {T : Nat → ClassId} {ad : Nat → Nat} (hO : xOk ad LX) : xMet l D T ad LX yX4_makeOne cX4_makeOne 4 none true 1 sp_X4_makeOne :=
  xmet2 (rt := 0) (fld := fldX4) (cals := (calX4_makeOne sp_J9_min_7cf53)) (cst := []) (I := iX4_makeOne) (cut := cutX4_makeOne) hO (by decide +kernel) ⟨by decide, by decide, by decide⟩ oX4_makeOne foX4 (fun _ h => absurd h List.not_mem_nil) (List.forall_mem_cons.mpr ⟨Or.inr ⟨by decide, xm 48 (by decide +kernel) rfl, Or.inr ⟨rfl, xm 315 (by decide +kernel) rfl, xm 316 (by decide +kernel) rfl, xm 317 (by decide +kernel) rfl⟩⟩, fun _ h => absurd h List.not_mem_nil⟩) b_X4_makeOne
def f_X4_setApart (a b : Int) (M : xM) (Post : xR) : Prop := wT M ∧ (0 ≤ a ∧ a < 6) ∧ (0 ≤ b ∧ b < 6) ∧ ∀ M' : xM, (∀ c, c ≠ 6 → M' c = M c) → (∀ n, 0 ≤ n → n < 6 → (0 ≤ M' 6 n ∧ M' 6 n < 64) ∧ ∀ d, 0 ≤ d → d < 6 → (tb (M' 6 n) d ↔ tb (M 6 n) d ∨ n = a ∧ d = b)) → Post 0 M'
abbrev sp_X4_setApart : xT := spV2 4 f_X4_setApart
set_option maxRecDepth 100000 in
set_option maxHeartbeats 4000000 in
theorem b_X4_setApart (as : List xV) (M : xM) (Post : xR) (h : sp_X4_setApart as M Post) : as.length ≤ 3 ∧ xw LX fldX4 calX4_setApart [] 0 Post iX4_setApart cutX4_setApart (fun _ _ _ _ => False) 400 0 (xlv as 3) [] M := by
  obtain ⟨v1, v2, rfl, h⟩ := h
  refine ⟨by simp, ?_⟩
  refine Eq.mpr (vcX4_setApart_0 ..) ?_
  obtain ⟨hw, ha, hb, hp⟩ := h
  have h1 := hw.2.2 v1 ha.1 ha.2
  have ho := or1 (x := M 6 v1) (h := v2) 6 (by omega) ⟨h1.1, by rw [h64]; omega⟩ ⟨by omega, by omega⟩
  rw [h64] at ho
  refine ⟨⟨by omega, by omega⟩, fun q => by omega, fun _ => ⟨⟨by omega, by omega⟩, ⟨by omega, by omega⟩, fun q => by omega, fun _ => ⟨ha, ha, hp _ (fun c hc => xup_ne hc) (fun n q1 q2 => ?_)⟩⟩⟩
  by_cases hn : n = v1
  · subst hn
    rw [xup_at, if_pos rfl]
    refine ⟨ho.1, fun d a1 a2 => ?_⟩
    rw [ho.2 d a1]
    constructor
    · rintro (a | a)
      · exact Or.inl a
      · exact Or.inr ⟨rfl, a⟩
    · rintro (a | ⟨-, a⟩)
      · exact Or.inl a
      · exact Or.inr a
  · rw [xup_at, if_neg hn]
    refine ⟨hw.2.2 n q1 q2, fun d a1 a2 => ⟨Or.inl, ?_⟩⟩
    rintro (a | ⟨a, -⟩)
    · exact a
    · exact (hn a).elim
theorem k_X4_setApart {l : Launch} {D : va_G} {T : Nat → ClassId} {ad : Nat → Nat} (hO : xOk ad LX) : xMet l D T ad LX yX4_setApart cX4_setApart 3 none true 0 sp_X4_setApart :=
  xmet0 (rt := 0) (fld := fldX4) (cals := calX4_setApart) (cst := []) (I := iX4_setApart) (cut := cutX4_setApart) hO (by decide +kernel) ⟨by decide, by decide, by decide⟩ oX4_setApart foX4 (fun _ h => absurd h List.not_mem_nil) (fun _ h => absurd h List.not_mem_nil) b_X4_setApart
def f_X4_add (a b one : Int) (M : xM) (Post : xR) : Prop := wT M ∧ (0 ≤ a ∧ a < 6) ∧ (0 ≤ b ∧ b < 6) ∧ rg one ∧ (one ≠ 0 → ∀ M' : xM, (∀ c, c ≠ 4 → c ≠ 5 → M' c = M c) → M' 4 2 = M 4 2 + 1 → (∀ n, 0 ≤ n → n < 6 → M' 5 n = if M 5 n = M 5 a ∨ M 5 n = M 5 b then min (M 5 a) (M 5 b) else M 5 n) → Post 0 M') ∧ (one = 0 → ∀ M' : xM, (∀ c, c ≠ 4 → c ≠ 6 → M' c = M c) → M' 4 2 = M 4 2 + 1 → (∀ n, 0 ≤ n → n < 6 → (0 ≤ M' 6 n ∧ M' 6 n < 64) ∧ ∀ d, 0 ≤ d → d < 6 → (tb (M' 6 n) d ↔ tb (M 6 n) d ∨ n = a ∧ d = b ∨ n = b ∧ d = a)) → Post 0 M')
abbrev sp_X4_add : xT := spV3 4 f_X4_add
set_option maxRecDepth 100000 in
set_option maxHeartbeats 4000000 in
theorem b_X4_add (as : List xV) (M : xM) (Post : xR) (h : sp_X4_add as M Post) : as.length ≤ 4 ∧ xw LX fldX4 (calX4_add sp_X4_box sp_X4_makeOne sp_X4_setApart) [] 0 Post iX4_add cutX4_add (fun _ _ _ _ => False) 400 0 (xlv as 4) [] M := by
  obtain ⟨v1, v2, v3, rfl, h⟩ := h
  refine ⟨by simp, ?_⟩
  refine Eq.mpr (vcX4_add_0 ..) ?_
  obtain ⟨hw, ha, hb, ho, hp1, hp0⟩ := h
  have h1 := hw.1 v1 ha.1 ha.2
  have h2 := hw.1 v2 hb.1 hb.2
  refine ⟨ho, fun q => ⟨_, _, rfl, hw, ha, hb, fun N g1 g2 => ⟨_, _, rfl, ⟨?_, ?_, fun n q1 q2 => (g2 n q1 q2).1⟩, hb, ha, fun N2 k1 k2 => ?_⟩⟩, fun q => ⟨_, rfl, ha, _, rfl, hb, _, _, rfl, hw, ⟨by omega, by omega⟩, ⟨by omega, by omega⟩, fun N g1 g2 => ?_⟩⟩
  · rw [g1 5 (by decide)]; exact hw.1
  · rw [g1 5 (by decide)]; exact hw.2.1
  · refine hp0 q _ (fun c q1 q2 => ?_) ?_ (fun n q1 q2 => ⟨?_, fun d a1 a2 => ?_⟩)
    · rw [xup_ne q1, k1 c q2]; exact g1 c q2
    · rw [xup_at, if_pos rfl, k1 4 (by decide), g1 4 (by decide)]
    · rw [xup_ne (by decide)]; exact (k2 n q1 q2).1
    · rw [xup_ne (by decide), (k2 n q1 q2).2 d a1 a2, (g2 n q1 q2).2 d a1 a2]
      constructor
      · rintro ((a | a) | a)
        · exact Or.inl a
        · exact Or.inr (Or.inl a)
        · exact Or.inr (Or.inr a)
      · rintro (a | a | a)
        · exact Or.inl (Or.inl a)
        · exact Or.inl (Or.inr a)
        · exact Or.inr a
  · refine hp1 q _ (fun c q1 q2 => ?_) ?_ (fun n q1 q2 => ?_)
    · rw [xup_ne q1]; exact g1 c q2
    · rw [xup_at, if_pos rfl, g1 4 (by decide)]
    · rw [xup_ne (by decide)]; exact g2 n q1 q2
theorem k_X4_add {l : Launch} {D : va_G} {T : Nat → ClassId} {ad : Nat → Nat} (hO : xOk ad LX) : xMet l D T ad LX yX4_add cX4_add 4 none true 2 sp_X4_add :=
  xmet0 (rt := 0) (fld := fldX4) (cals := (calX4_add sp_X4_box sp_X4_makeOne sp_X4_setApart)) (cst := []) (I := iX4_add) (cut := cutX4_add) hO (by decide +kernel) ⟨by decide, by decide, by decide⟩ oX4_add foX4 (fun _ h => absurd h List.not_mem_nil) (List.forall_mem_cons.mpr ⟨⟨yX4_box, cX4_box, 2, (some .int), 0, 1, by decide, yoX4_box, k_X4_box hO, loX4_32, Or.inr ⟨rfl, rfl, 4, 4, [some 5, some 6, none], TX4, 3, rfl, rfl, spV1_r⟩⟩, List.forall_mem_cons.mpr ⟨⟨yX4_makeOne, cX4_makeOne, 4, none, 1, 2, by decide, yoX4_makeOne, k_X4_makeOne hO, loX4_42, Or.inr ⟨rfl, rfl, 4, 4, [some 5, some 6, none], TX4, 3, rfl, rfl, spV2_r⟩⟩, List.forall_mem_cons.mpr ⟨⟨yX4_setApart, cX4_setApart, 3, none, 0, 2, by decide, yoX4_setApart, k_X4_setApart hO, loX4_46, Or.inr ⟨rfl, rfl, 4, 4, [some 5, some 6, none], TX4, 3, rfl, rfl, spV2_r⟩⟩, fun _ h => absurd h List.not_mem_nil⟩⟩⟩) b_X4_add
end
section
/-! graphs on the boxes 0 to 9: walks, distances, counting lines -/
def wk (R : Int → Int → Prop) : Nat → Int → Int → Prop
  | 0, a, b => a = b
  | k + 1, a, b => ∃ c, wk R k a c ∧ R c b
def isD (R : Int → Int → Prop) (a b d : Int) : Prop := (∃ k : Nat, d = k ∧ k ≤ 9 ∧ wk R k a b ∧ ∀ j, j < k → ¬ wk R j a b) ∨ (d = -1 ∧ ∀ k, ¬ wk R k a b)
theorem isD_uniq {R : Int → Int → Prop} {a b d e : Int} (h1 : isD R a b d) (h2 : isD R a b e) : d = e := by
  rcases h1 with ⟨k, rfl, -, hk, hk2⟩ | ⟨rfl, h1⟩ <;> rcases h2 with ⟨j, rfl, -, hj, hj2⟩ | ⟨rfl, h2⟩
  · have : ¬ k < j := fun q => hj2 k q hk
    have : ¬ j < k := fun q => hk2 j q hj
    omega
  · exact (h2 k hk).elim
  · exact (h1 j hj).elim
  · rfl
theorem wk_congr {R R' : Int → Int → Prop} (h : ∀ x y, R x y ↔ R' x y) : ∀ (k : Nat) (a b : Int), wk R k a b ↔ wk R' k a b := by
  intro k
  induction k with
  | zero => intro a b; exact Iff.rfl
  | succ k ih =>
    intro a b
    simp only [wk]
    constructor
    · rintro ⟨c, h1, h2⟩
      exact ⟨c, (ih a c).mp h1, (h c b).mp h2⟩
    · rintro ⟨c, h1, h2⟩
      exact ⟨c, (ih a c).mpr h1, (h c b).mpr h2⟩
theorem wk_map {R R' : Int → Int → Prop} {f : Int → Int} (h : ∀ x y, R x y → R' (f x) (f y)) : ∀ (k : Nat) (a b : Int), wk R k a b → wk R' k (f a) (f b) := by
  intro k
  induction k with
  | zero => intro a b e; exact congrArg f e
  | succ k ih =>
    rintro a b ⟨c, h1, h2⟩
    exact ⟨f c, ih a c h1, h c b h2⟩
/-- the graph stays within the boxes -/
def in10 (R : Int → Int → Prop) : Prop := ∀ x y, R x y → (0 ≤ x ∧ x < 10) ∧ (0 ≤ y ∧ y < 10)
theorem wk_in {R : Int → Int → Prop} (h : in10 R) {k : Nat} {a b : Int} (ha : 0 ≤ a ∧ a < 10) (hw : wk R k a b) : 0 ≤ b ∧ b < 10 := by
  cases k with
  | zero => rw [← (show a = b from hw)]; exact ha
  | succ k => obtain ⟨c, -, h2⟩ := hw; exact (h c b h2).2
noncomputable def bb (p : Prop) : Nat := @ite _ p (Classical.propDecidable p) 1 0
theorem bb1 {p : Prop} (h : p) : bb p = 1 := by unfold bb; exact if_pos h
theorem bb0 {p : Prop} (h : ¬ p) : bb p = 0 := by unfold bb; exact if_neg h
theorem bb_le (p : Prop) : bb p ≤ 1 := by
  by_cases h : p
  · rw [bb1 h]; omega
  · rw [bb0 h]; omega
theorem bb_congr {p q : Prop} (h : p ↔ q) : bb p = bb q := by
  by_cases hp : p
  · rw [bb1 hp, bb1 (h.mp hp)]
  · rw [bb0 hp, bb0 (fun z => hp (h.mpr z))]
def sm (f : Nat → Nat) : Nat → Nat
  | 0 => 0
  | k + 1 => sm f k + f k
theorem sm_congr {f g : Nat → Nat} : ∀ {n : Nat}, (∀ i, i < n → f i = g i) → sm f n = sm g n := by
  intro n
  induction n with
  | zero => intro _; rfl
  | succ n ih => intro h; simp only [sm]; rw [ih (fun i hi => h i (by omega)), h n (by omega)]
theorem sm_add (f g : Nat → Nat) (n : Nat) : sm (fun i => f i + g i) n = sm f n + sm g n := by
  induction n with
  | zero => rfl
  | succ n ih => simp only [sm, ih]; omega
theorem sm_le {f g : Nat → Nat} : ∀ {n : Nat}, (∀ i, i < n → f i ≤ g i) → sm f n ≤ sm g n := by
  intro n
  induction n with
  | zero => intro _; exact Nat.le_refl _
  | succ n ih =>
    intro h
    have h1 := ih (fun i hi => h i (by omega))
    have h2 := h n (by omega)
    simp only [sm]; omega
theorem sm_lt {f g : Nat → Nat} {n : Nat} (h : ∀ i, i < n → f i ≤ g i) {j : Nat} (hj : j < n) (hjl : f j < g j) : sm f n < sm g n := by
  induction n with
  | zero => omega
  | succ n ih =>
    simp only [sm]
    by_cases he : j = n
    · subst he
      have := sm_le (f := f) (g := g) (n := j) (fun i hi => h i (by omega))
      omega
    · have h1 := ih (fun i hi => h i (by omega)) (by omega)
      have h2 := h n (by omega)
      omega
theorem sm_one {n : Nat} {f : Nat → Nat} (h : ∀ i, i < n → f i ≤ 1) : sm f n ≤ n := by
  induction n with
  | zero => exact Nat.le_refl _
  | succ n ih =>
    have h1 := ih (fun i hi => h i (by omega))
    have h2 := h n (by omega)
    simp only [sm]; omega
theorem pop_sm (x : Int) : pop x = ((sm (fun i => bb (tb x (i : Int))) 10 : Nat) : Int) := by
  have e : ∀ n, (List.range n).countP (fun i => x.toNat.testBit i) = sm (fun i => bb (tb x (i : Int))) n := by
    intro n
    induction n with
    | zero => rfl
    | succ n ih =>
      rw [List.range_succ, List.countP_append, ih]
      simp only [sm, List.countP_cons, List.countP_nil]
      by_cases h : x.toNat.testBit n = true
      · rw [bb1 (show tb x (n : Int) from by unfold tb; rw [Int.toNat_natCast]; exact h), if_pos h]
      · rw [bb0 (show ¬ tb x (n : Int) from by unfold tb; rw [Int.toNat_natCast]; exact h), if_neg h]
  unfold pop
  rw [e]
theorem pop_b (x : Int) : 0 ≤ pop x ∧ pop x ≤ 10 := by
  rw [pop_sm]
  have := sm_one (n := 10) (f := fun i => bb (tb x (i : Int))) (fun i _ => bb_le _)
  omega
theorem tb_big {x : Int} {i : Nat} (hx : 0 ≤ x ∧ x < 1024) (hi : 10 ≤ i) : ¬ tb x (i : Int) := by
  unfold tb
  rw [Int.toNat_natCast, Nat.testBit_lt_two_pow (Nat.lt_of_lt_of_le (m := 2 ^ 10) (by omega) (Nat.pow_le_pow_right (by omega) hi))]
  decide
/-- two sets of boxes with the same bits are one -/
theorem tb_ext {x y : Int} (hx : 0 ≤ x ∧ x < 1024) (hy : 0 ≤ y ∧ y < 1024) (h : ∀ i : Int, 0 ≤ i → i < 10 → (tb x i ↔ tb y i)) : x = y := by
  have : x.toNat = y.toNat := by
    apply Nat.eq_of_testBit_eq
    intro i
    by_cases hi : i < 10
    · have := h i (by omega) (by omega)
      unfold tb at this
      rw [Int.toNat_natCast] at this
      cases h1 : x.toNat.testBit i <;> cases h2 : y.toNat.testBit i <;> simp [h1, h2] at this ⊢
    · have h1 := tb_big hx (i := i) (by omega)
      have h2 := tb_big hy (i := i) (by omega)
      unfold tb at h1 h2
      rw [Int.toNat_natCast] at h1 h2
      simp only [Bool.not_eq_true] at h1 h2
      rw [h1, h2]
  omega
theorem pop_lt {x y : Int} (hx : 0 ≤ x ∧ x < 1024) (hy : 0 ≤ y ∧ y < 1024) (h : ∀ i : Int, 0 ≤ i → i < 10 → tb x i → tb y i) (hne : x ≠ y) : pop x < pop y := by
  have : ∃ j : Nat, j < 10 ∧ tb y (j : Int) ∧ ¬ tb x (j : Int) := by
    apply Classical.byContradiction
    intro hno
    apply hne
    apply tb_ext hx hy
    intro i h0 h1
    refine ⟨h i h0 h1, fun q => ?_⟩
    apply Classical.byContradiction
    intro hn
    exact hno ⟨i.toNat, by omega, by rw [Int.toNat_of_nonneg h0]; exact q, by rw [Int.toNat_of_nonneg h0]; exact hn⟩
  obtain ⟨j, hj, q1, q2⟩ := this
  rw [pop_sm, pop_sm]
  have := sm_lt (n := 10) (f := fun i => bb (tb x (i : Int))) (g := fun i => bb (tb y (i : Int))) (fun i hi => by
    by_cases hp : tb x (i : Int)
    · rw [bb1 hp, bb1 (h i (by omega) (by omega) hp)]; omega
    · rw [bb0 hp]; omega) hj (by rw [bb0 q2, bb1 q1]; omega)
  omega
/-- the number of LINES -/
noncomputable def nLn (R : Int → Int → Prop) (n : Nat) : Nat := sm (fun a => sm (fun b => bb (R (a : Int) (b : Int))) a) n
theorem nLn_two {R : Int → Int → Prop} (hs : ∀ x y, R x y → R y x) (hi : ∀ x, ¬ R x x) (n : Nat) : sm (fun a => sm (fun b => bb (R (a : Int) (b : Int))) n) n = 2 * nLn R n := by
  induction n with
  | zero => rfl
  | succ n ih =>
    have e1 : sm (fun a => sm (fun b => bb (R (a : Int) (b : Int))) (n + 1)) n = sm (fun a => sm (fun b => bb (R (a : Int) (b : Int))) n) n + sm (fun a => bb (R (a : Int) (n : Int))) n := by
      rw [← sm_add]; rfl
    have e2 : sm (fun a => bb (R (a : Int) (n : Int))) n = sm (fun b => bb (R (n : Int) (b : Int))) n := sm_congr (fun i _ => bb_congr ⟨hs _ _, hs _ _⟩)
    have e3 : bb (R (n : Int) (n : Int)) = 0 := bb0 (hi _)
    have e4 : nLn R (n + 1) = nLn R n + sm (fun b => bb (R (n : Int) (b : Int))) n := rfl
    show sm (fun a => sm (fun b => bb (R (a : Int) (b : Int))) (n + 1)) n + (sm (fun b => bb (R (n : Int) (b : Int))) n + bb (R (n : Int) (n : Int))) = _
    rw [e1, ih, e2, e3, e4]
    omega
theorem nLn_le (R : Int → Int → Prop) : nLn R 10 ≤ 45 := by
  have : nLn R 10 ≤ sm (fun a => a) 10 := sm_le (fun a _ => sm_one (fun _ _ => bb_le _))
  exact this
theorem nLn_congr {R R' : Int → Int → Prop} (h : ∀ x y, R x y ↔ R' x y) (n : Nat) : nLn R n = nLn R' n := sm_congr (fun a _ => sm_congr (fun b _ => bb_congr (h _ _)))
end
section
/-! Net, its small methods; what places and LINES are -/
abbrev dS : Type := Int × (Int → Int) × (Int → Int) × (Int → Int)
def SX (M : xM) : dS := (M 1 2, M 3, M 2, M 5)
/-- the box of HOP i of TRACE t: SILENT HOPS by A, their numbers from off t on -/
def Pl (S : dS) (A off : Int → Int) (t i : Int) : Int := if S.2.2.1 (t * 6 + i) = -1 then A (off t + cS S.2.2.1 (t * 6) i.toNat) else S.2.2.2 (S.2.2.1 (t * 6 + i))
def LnT (S : dS) (pl : Int → Int → Int) (t a b : Int) : Prop := ∃ i, 0 ≤ i ∧ i + 1 < S.2.1 t ∧ (pl t i = a ∧ pl t (i + 1) = b ∨ pl t i = b ∧ pl t (i + 1) = a)
def Adj (S : dS) (q : Int → Prop) (pl : Int → Int → Int) (a b : Int) : Prop := ∃ t, (0 ≤ t ∧ t < S.1) ∧ q t ∧ LnT S pl t a b
def Dst (S : dS) (pl : Int → Int → Int) (t : Int) : Prop := ∀ i j, 0 ≤ i → i < j → j < S.2.1 t → pl t i ≠ pl t j
def Sht (S : dS) (q : Int → Prop) (pl : Int → Int → Int) (t : Int) : Prop := ∀ k : Nat, (k : Int) < S.2.1 t - 1 → ¬ wk (Adj S q pl) k (pl t 0) (pl t (S.2.1 t - 1))
def FT (S : dS) (q : Int → Prop) (pl : Int → Int → Int) : Prop := (∀ t, 0 ≤ t → t < S.1 → q t → Dst S pl t) ∧ ∀ t, 0 ≤ t → t < S.1 → q t → Sht S q pl t
def ofX (M : xM) (t : Int) : Int := sS (M 2) (M 3) t.toNat
def plX (M : xM) : Int → Int → Int := Pl (SX M) (M 8) (ofX M)
def wS (M : xM) : Prop := wR M ∧ wT M ∧ sS (M 2) (M 3) (M 1 2).toNat ≤ 4 ∧ ∀ t, 0 ≤ t → t < M 1 2 → 2 ≤ M 3 t ∧ M 2 (t * 6) ≠ -1 ∧ M 2 (t * 6 + (M 3 t - 1)) ≠ -1
def wA (M : xM) : Prop := ∀ s, 0 ≤ s → s < 4 → 0 ≤ M 8 s ∧ M 8 s < 10
def wJ (M : xM) : Prop := ∀ x, 0 ≤ x → x < 10 → 0 ≤ M 9 x ∧ M 9 x < 1024
def JN (M : xM) (R : Int → Int → Prop) : Prop := wJ M ∧ ∀ x y, 0 ≤ x → x < 10 → 0 ≤ y → y < 10 → (tb (M 9 x) y ↔ R x y)
theorem cS_mono (f : Int → Int) (b : Int) {j k : Nat} (h : j ≤ k) : cS f b j ≤ cS f b k := by
  induction k with
  | zero => rw [show j = 0 by omega]; omega
  | succ k ih =>
    by_cases hj : j = k + 1
    · subst hj; omega
    · have := ih (by omega)
      simp only [cS]; split <;> omega
theorem sS_mono (f g : Int → Int) {j k : Nat} (h : j ≤ k) : sS f g j ≤ sS f g k := by
  induction k with
  | zero => rw [show j = 0 by omega]; omega
  | succ k ih =>
    by_cases hj : j = k + 1
    · subst hj; omega
    · have := ih (by omega)
      have := cS_b f ((k : Int) * 6) (g k).toNat
      simp only [sS]; omega
theorem sS_0 (f g : Int → Int) (k : Nat) : 0 ≤ sS f g k := by
  induction k with
  | zero => simp [sS]
  | succ k ih =>
    have := cS_b f ((k : Int) * 6) (g k).toNat
    simp only [sS]; omega
/-- a SILENT HOP's number -/
theorem sil_lt {f g : Int → Int} {n t i : Int} (ht : 0 ≤ t ∧ t < n) (hi : 0 ≤ i ∧ i < g t) (hs : f (t * 6 + i) = -1) : 0 ≤ sS f g t.toNat + cS f (t * 6) i.toNat ∧ sS f g t.toNat + cS f (t * 6) i.toNat < sS f g n.toNat := by
  obtain ⟨a, rfl⟩ : ∃ a : Nat, t = a := ⟨t.toNat, by omega⟩
  obtain ⟨j, rfl⟩ : ∃ j : Nat, i = j := ⟨i.toNat, by omega⟩
  simp only [Int.toNat_natCast]
  have h0 := sS_0 f g a
  have h1 := cS_b f ((a : Int) * 6) j
  have h2 : sS f g (a + 1) ≤ sS f g n.toNat := sS_mono f g (by omega)
  have h3 : cS f ((a : Int) * 6) (j + 1) ≤ cS f ((a : Int) * 6) (g a).toNat := cS_mono f _ (by omega)
  have h4 : cS f ((a : Int) * 6) (j + 1) = cS f ((a : Int) * 6) j + 1 := by simp only [cS, if_pos hs]
  simp only [sS] at h2
  omega
theorem plX_b {M : xM} (hw : wS M) (hA : wA M) {t i : Int} (ht : 0 ≤ t ∧ t < M 1 2) (hi : 0 ≤ i ∧ i < M 3 t) : 0 ≤ plX M t i ∧ plX M t i < 10 := by
  have hn := hw.1.1
  have hl := hw.1.2.1 t ht.1 (by omega)
  have hh := hw.1.2.2 (t * 6 + i) (by omega) (by omega)
  show 0 ≤ (if M 2 (t * 6 + i) = -1 then M 8 (ofX M t + cS (M 2) (t * 6) i.toNat) else M 5 (M 2 (t * 6 + i))) ∧ (if M 2 (t * 6 + i) = -1 then M 8 (ofX M t + cS (M 2) (t * 6) i.toNat) else M 5 (M 2 (t * 6 + i))) < 10
  split
  · rename_i hs
    have := sil_lt (f := M 2) (g := M 3) (n := M 1 2) ht hi hs
    have h4 := hw.2.2.1
    exact hA _ this.1 (by unfold ofX; omega)
  · have := hw.2.1.1 (M 2 (t * 6 + i)) (by omega) (by omega)
    omega
def f_X1_silentBox (s : Int) (M : xM) (Post : xR) : Prop := (0 ≤ s ∧ s < 4) ∧ Post (M 8 s) M
abbrev sp_X1_silentBox : xT := spV1 7 f_X1_silentBox
set_option maxRecDepth 100000 in
set_option maxHeartbeats 4000000 in
theorem b_X1_silentBox (as : List xV) (M : xM) (Post : xR) (h : sp_X1_silentBox as M Post) : as.length ≤ 2 ∧ xw LX fldX1 calX1_silentBox [] 1 Post iX1_silentBox cutX1_silentBox (fun _ _ _ _ => False) 400 0 (xlv as 2) [] M := by
  obtain ⟨v1, rfl, h⟩ := h
  refine ⟨by simp, ?_⟩
  refine Eq.mpr (vcX1_silentBox_0 ..) ?_
  obtain ⟨h0, hp⟩ := h
  simp only [rg]
  grind
theorem k_X1_silentBox {l : Launch} {D : va_G} {T : Nat → ClassId} {ad : Nat → Nat} (hO : xOk ad LX) : xMet l D T ad LX yX1_silentBox cX1_silentBox 2 (some .int) false 0 sp_X1_silentBox :=
  xmet0 (rt := 1) (fld := fldX1) (cals := calX1_silentBox) (cst := []) (I := iX1_silentBox) (cut := cutX1_silentBox) hO (by decide +kernel) ⟨by decide, by decide, by decide⟩ oX1_silentBox foX1 (fun _ h => absurd h List.not_mem_nil) (fun _ h => absurd h List.not_mem_nil) b_X1_silentBox
def f_X1_joinedWith (b : Int) (M : xM) (Post : xR) : Prop := (0 ≤ b ∧ b < 10) ∧ Post (M 9 b) M
abbrev sp_X1_joinedWith : xT := spV1 7 f_X1_joinedWith
set_option maxRecDepth 100000 in
set_option maxHeartbeats 4000000 in
theorem b_X1_joinedWith (as : List xV) (M : xM) (Post : xR) (h : sp_X1_joinedWith as M Post) : as.length ≤ 2 ∧ xw LX fldX1 (calX1_joinedWith sp_X5_isBox) [] 1 Post iX1_joinedWith cutX1_joinedWith (fun _ _ _ _ => False) 400 0 (xlv as 2) [] M := by
  obtain ⟨v1, rfl, h⟩ := h
  refine ⟨by simp, ?_⟩
  refine Eq.mpr (vcX1_joinedWith_0 ..) ?_
  obtain ⟨h0, hp⟩ := h
  exact ⟨_, rfl, ⟨by omega, by omega⟩, fun r hr => ⟨⟨by omega, by omega⟩, fun q => by omega, fun q => ⟨h0, hp⟩⟩⟩
theorem k_X1_joinedWith {l : Launch} {D : va_G} {T : Nat → ClassId} {ad : Nat → Nat} (hO : xOk ad LX) : xMet l D T ad LX yX1_joinedWith cX1_joinedWith 2 (some .int) false 1 sp_X1_joinedWith :=
  xmet0 (rt := 1) (fld := fldX1) (cals := (calX1_joinedWith sp_X5_isBox)) (cst := []) (I := iX1_joinedWith) (cut := cutX1_joinedWith) hO (by decide +kernel) ⟨by decide, by decide, by decide⟩ oX1_joinedWith foX1 (fun _ h => absurd h List.not_mem_nil) (List.forall_mem_cons.mpr ⟨⟨yX5_isBox, cX5_isBox, 1, (some .boolean), 0, 1, by decide, yoX5_isBox, k_X5_isBox hO, loX1_92, Or.inl ⟨rfl, rfl⟩⟩, fun _ h => absurd h List.not_mem_nil⟩) b_X1_joinedWith
def f_X1_loosen (s k : Int) (M : xM) (Post : xR) : Prop := (0 ≤ s ∧ s ≤ 4) ∧ ∀ M' : xM, (∀ c, c ≠ 8 → M' c = M c) → (∀ j, j < s → M' 8 j = M 8 j) → (∀ j, s ≤ j → j < 4 → M' 8 j = 6 + k + j - s) → Post 0 M'
abbrev sp_X1_loosen : xT := spV2 7 f_X1_loosen
set_option maxRecDepth 100000 in
set_option maxHeartbeats 4000000 in
theorem b_X1_loosen (as : List xV) (M : xM) (Post : xR) (h : sp_X1_loosen as M Post) : as.length ≤ 4 ∧ ∃ (Inv : xG) (μ : Nat → xL → List xV → xM → Nat) (f0 f1 : Nat), xw LX fldX1 (calX1_loosen sp_J9_max_7cf53) [] 0 Post iX1_loosen cutX1_loosen Inv f0 0 (xlv as 4) [] M ∧ ∀ pc lv st M', Inv pc lv st M' → xw LX fldX1 (calX1_loosen sp_J9_max_7cf53) [] 0 Post iX1_loosen cutX1_loosen (fun pc2 lv2 st2 M2 => Inv pc2 lv2 st2 M2 ∧ μ pc2 lv2 st2 M2 < μ pc lv st M') f1 pc lv st M' := by
  obtain ⟨v1, v2, rfl, h⟩ := h
  refine ⟨by simp, (fun pc lv st N => ∃ (i : Int), pc = 6 ∧ lv = [some (.inr 7), some (.inl v1), some (.inl v2), some (.inl i)] ∧ st = [] ∧ v1 ≤ i ∧ i ≤ 4 ∧ (∀ c, c ≠ 8 → N c = M c) ∧ (∀ j, j < v1 → N 8 j = M 8 j) ∧ ∀ j, v1 ≤ j → j < i → N 8 j = 6 + v2 + j - v1), (fun pc lv st N => match lv with | [_, _, _, some (.inl i)] => (10 - i).toNat | _ => 0), 400, 400, Eq.mpr (vcX1_loosen_0 ..) ?_, ?_⟩
  · obtain ⟨hs, hp⟩ := h
    refine ⟨_, _, rfl, ⟨by omega, by omega⟩, ⟨by omega, by omega⟩, v1, rfl, ?_, rfl, by omega, by omega, fun _ _ => rfl, fun _ _ => rfl, fun j _ _ => by omega⟩
    rw [Int.max_eq_left hs.1]
  · obtain ⟨hs, hp⟩ := h
    rintro pc lv st N ⟨i, rfl, rfl, rfl, h1, h2, h3, h4, h5⟩
    refine Eq.mpr (vcX1_loosen_6 ..) ?_
    refine ⟨⟨by omega, by omega⟩, ⟨by omega, by omega⟩, fun q => hp N h3 h4 (fun j q1 q2 => h5 j q1 (by omega)), fun q => ⟨⟨by omega, by omega⟩, ⟨i + 1, rfl, rfl, rfl, by omega, by omega, fun c hc => by rw [xup_ne hc]; exact h3 c hc, fun j hj => ?_, fun j q1 q2 => ?_⟩, by (change Int.toNat _ < Int.toNat _); omega⟩⟩
    · rw [xup_at, if_neg (by omega)]; exact h4 j hj
    · rw [xup_at]
      by_cases hj : j = i
      · rw [if_pos hj, hj]
      · rw [if_neg hj]; exact h5 j q1 (by omega)
theorem k_X1_loosen {l : Launch} {D : va_G} {T : Nat → ClassId} {ad : Nat → Nat} (hO : xOk ad LX) : xMet l D T ad LX yX1_loosen cX1_loosen 4 none true 1 sp_X1_loosen :=
  xmet2 (rt := 0) (fld := fldX1) (cals := (calX1_loosen sp_J9_max_7cf53)) (cst := []) (I := iX1_loosen) (cut := cutX1_loosen) hO (by decide +kernel) ⟨by decide, by decide, by decide⟩ oX1_loosen foX1 (fun _ h => absurd h List.not_mem_nil) (List.forall_mem_cons.mpr ⟨Or.inr ⟨by decide, xm 48 (by decide +kernel) rfl, Or.inl ⟨rfl, xm 370 (by decide +kernel) rfl, xm 371 (by decide +kernel) rfl, xm 372 (by decide +kernel) rfl⟩⟩, fun _ h => absurd h List.not_mem_nil⟩) b_X1_loosen
def f_X1_place (s b k : Int) (M : xM) (Post : xR) : Prop := (0 ≤ s ∧ s < 4) ∧ ∀ M' : xM, (∀ c, c ≠ 8 → M' c = M c) → (∀ j, j < s → M' 8 j = M 8 j) → M' 8 s = b → (∀ j, s < j → j < 4 → M' 8 j = 6 + k + j - (s + 1)) → Post 0 M'
abbrev sp_X1_place : xT := spV3 7 f_X1_place
set_option maxRecDepth 100000 in
set_option maxHeartbeats 4000000 in
theorem b_X1_place (as : List xV) (M : xM) (Post : xR) (h : sp_X1_place as M Post) : as.length ≤ 4 ∧ xw LX fldX1 (calX1_place sp_X1_loosen) [] 0 Post iX1_place cutX1_place (fun _ _ _ _ => False) 400 0 (xlv as 4) [] M := by
  obtain ⟨v1, v2, v3, rfl, h⟩ := h
  refine ⟨by simp, ?_⟩
  refine Eq.mpr (vcX1_place_0 ..) ?_
  obtain ⟨hs, hp⟩ := h
  refine ⟨⟨by omega, by omega⟩, fun q => by omega, fun _ => ⟨⟨by omega, by omega⟩, ⟨by omega, by omega⟩, fun q => by omega, fun _ => ⟨hs, _, _, rfl, ⟨by omega, by omega⟩, fun N g1 g2 g3 => hp N (fun c hc => ?_) (fun j hj => ?_) ?_ (fun j q1 q2 => g3 j (by omega) q2)⟩⟩⟩
  · rw [g1 c hc, xup_ne hc]
  · rw [g2 j (by omega), xup_at, if_neg (by omega)]
  · rw [g2 v1 (by omega), xup_at, if_pos rfl]
theorem k_X1_place {l : Launch} {D : va_G} {T : Nat → ClassId} {ad : Nat → Nat} (hO : xOk ad LX) : xMet l D T ad LX yX1_place cX1_place 4 none true 2 sp_X1_place :=
  xmet0 (rt := 0) (fld := fldX1) (cals := (calX1_place sp_X1_loosen)) (cst := []) (I := iX1_place) (cut := cutX1_place) hO (by decide +kernel) ⟨by decide, by decide, by decide⟩ oX1_place foX1 (fun _ h => absurd h List.not_mem_nil) (List.forall_mem_cons.mpr ⟨⟨yX1_loosen, cX1_loosen, 4, none, 1, 2, by decide, yoX1_loosen, k_X1_loosen hO, loX1_26, Or.inr ⟨rfl, rfl, 7, 1, [some 1, some 4, some 8, some 9], TX1, 4, rfl, rfl, spV2_r⟩⟩, fun _ h => absurd h List.not_mem_nil⟩) b_X1_place
theorem pack {x b : Int} {i : Nat} (hi : i < 4) (hx : 0 ≤ x ∧ x < (16 ^ i : Nat)) (hb : 0 ≤ b ∧ b < 16) : (xi x ||| xi (xi b <<< (xi ((i : Int) * 4) &&& 31)).toInt).toInt = x + b * ((16 ^ i : Nat) : Int) := by
  obtain ⟨a, rfl⟩ : ∃ a : Nat, x = a := ⟨x.toNat, by omega⟩
  obtain ⟨d, rfl⟩ : ∃ d : Nat, b = d := ⟨b.toNat, by omega⟩
  have hp : (16 : Nat) ^ i = 2 ^ (4 * i) := by rw [Nat.pow_mul]
  have h16 : (16 : Nat) ^ i ≤ 16 ^ 3 := Nat.pow_le_pow_right (by omega) (by omega)
  have hd : d * 2 ^ (i * 4) < 65536 := by
    rw [Nat.mul_comm i 4, ← hp]
    have : d * 16 ^ i ≤ 15 * 16 ^ 3 := Nat.mul_le_mul (by omega) h16
    omega
  rw [show (i : Int) * 4 = ((i * 4 : Nat) : Int) by omega, bs_shl (by omega) (by omega), bs_or (by omega) (by omega)]
  have e := Nat.two_pow_add_eq_or_of_lt (i := 4 * i) (b := a) (by rw [← hp]; omega) d
  rw [Nat.or_comm, Nat.mul_comm i 4, Nat.mul_comm d, ← e, hp]
  rw [Int.natCast_add, Int.natCast_mul, Int.mul_comm, Int.add_comm]
def f_X1_code (M : xM) (Post : xR) : Prop := (∀ s, 0 ≤ s → s < 4 → 0 ≤ M 8 s ∧ M 8 s < 16) ∧ ∀ x, 0 ≤ x → x < 65536 → (∀ s, 0 ≤ s → s < 4 → bxc x s = M 8 s) → Post x M
theorem bxc_step {x b s : Int} {i : Nat} (hi : i < 4) (hx : 0 ≤ x ∧ x < (16 ^ i : Nat)) (hb : 0 ≤ b ∧ b < 16) (hs : 0 ≤ s ∧ s ≤ i) : bxc (x + b * ((16 ^ i : Nat) : Int)) s = if s = i then b else bxc x s := by
  unfold bxc
  obtain ⟨u, rfl⟩ : ∃ u : Nat, s = u := ⟨s.toNat, by omega⟩
  rcases (show i = 0 ∨ i = 1 ∨ i = 2 ∨ i = 3 by omega) with rfl | rfl | rfl | rfl <;> rcases (show u = 0 ∨ u = 1 ∨ u = 2 ∨ u = 3 by omega) with rfl | rfl | rfl | rfl <;> simp at hx hs ⊢ <;> omega
abbrev sp_X1_code : xT := spV0 7 f_X1_code
set_option maxRecDepth 100000 in
set_option maxHeartbeats 4000000 in
theorem b_X1_code (as : List xV) (M : xM) (Post : xR) (h : sp_X1_code as M Post) : as.length ≤ 3 ∧ ∃ (Inv : xG) (μ : Nat → xL → List xV → xM → Nat) (f0 f1 : Nat), xw LX fldX1 calX1_code [] 1 Post iX1_code cutX1_code Inv f0 0 (xlv as 3) [] M ∧ ∀ pc lv st M', Inv pc lv st M' → xw LX fldX1 calX1_code [] 1 Post iX1_code cutX1_code (fun pc2 lv2 st2 M2 => Inv pc2 lv2 st2 M2 ∧ μ pc2 lv2 st2 M2 < μ pc lv st M') f1 pc lv st M' := by
  obtain ⟨rfl, h⟩ := h
  refine ⟨by simp, (fun pc lv st N => ∃ (x : Int) (i : Nat), pc = 4 ∧ lv = [some (.inr 7), some (.inl x), some (.inl (i : Int))] ∧ st = [] ∧ M = N ∧ i ≤ 4 ∧ 0 ≤ x ∧ x < ((16 ^ i : Nat) : Int) ∧ ∀ s, 0 ≤ s → s < (i : Int) → bxc x s = M 8 s), (fun pc lv st N => match lv with | [_, _, some (.inl i)] => (10 - i).toNat | _ => 0), 400, 400, Eq.mpr (vcX1_code_0 ..) ?_, ?_⟩
  · exact ⟨0, 0, rfl, rfl, rfl, rfl, by omega, by omega, by decide, fun s _ _ => by omega⟩
  · obtain ⟨hb, hp⟩ := h
    rintro pc lv st N ⟨x, i, rfl, rfl, rfl, rfl, h1, h2, h3, h4⟩
    refine Eq.mpr (vcX1_code_4 ..) ?_
    refine ⟨⟨by omega, by omega⟩, ⟨by omega, by omega⟩, fun q => ?_, fun q => ⟨⟨by omega, by omega⟩, ⟨_, i + 1, rfl, rfl, rfl, rfl, by omega, ?_, ?_, fun s q1 q2 => ?_⟩, by (change Int.toNat _ < Int.toNat _); omega⟩⟩
    · have hi : i = 4 := by omega
      subst hi
      exact hp x h2 h3 h4
    all_goals
      have hbi := hb i (by omega) q
      rw [pack (by omega) ⟨h2, h3⟩ hbi]
    · have : 0 ≤ M 8 i * ((16 ^ i : Nat) : Int) := Int.mul_nonneg hbi.1 (by omega)
      omega
    · rw [Nat.pow_succ, Int.natCast_mul, Int.mul_comm ((16 ^ i : Nat) : Int)]
      have : M 8 i * ((16 ^ i : Nat) : Int) ≤ 15 * ((16 ^ i : Nat) : Int) := Int.mul_le_mul_of_nonneg_right (by omega) (by omega)
      show x + M 8 i * ((16 ^ i : Nat) : Int) < 16 * ((16 ^ i : Nat) : Int)
      omega
    · rw [bxc_step (by omega) ⟨h2, h3⟩ hbi ⟨q1, by omega⟩]
      by_cases hs : s = i
      · rw [if_pos hs, hs]
      · rw [if_neg hs]; exact h4 s q1 (by omega)
theorem k_X1_code {l : Launch} {D : va_G} {T : Nat → ClassId} {ad : Nat → Nat} (hO : xOk ad LX) : xMet l D T ad LX yX1_code cX1_code 3 (some .int) false 0 sp_X1_code :=
  xmet (rt := 1) (fld := fldX1) (cals := calX1_code) (cst := []) (I := iX1_code) (cut := cutX1_code) hO (by decide +kernel) ⟨by decide, by decide, by decide⟩ oX1_code foX1 (fun _ h => absurd h List.not_mem_nil) (fun _ h => absurd h List.not_mem_nil) b_X1_code
def f_X1_join (a b : Int) (M : xM) (Post : xR) : Prop := (-1 ≤ a ∧ a < 10) ∧ (0 ≤ b ∧ b < 10) ∧ wJ M ∧ ∀ M' : xM, (∀ c, c ≠ 9 → M' c = M c) → wJ M' → (∀ x y, 0 ≤ x → x < 10 → 0 ≤ y → y < 10 → (tb (M' 9 x) y ↔ tb (M 9 x) y ∨ 0 ≤ a ∧ (x = a ∧ y = b ∨ x = b ∧ y = a))) → Post 0 M'
abbrev sp_X1_join : xT := spV2 7 f_X1_join
set_option maxRecDepth 100000 in
set_option maxHeartbeats 4000000 in
theorem b_X1_join (as : List xV) (M : xM) (Post : xR) (h : sp_X1_join as M Post) : as.length ≤ 3 ∧ xw LX fldX1 (calX1_join sp_X5_isBox) [] 0 Post iX1_join cutX1_join (fun _ _ _ _ => False) 400 0 (xlv as 3) [] M := by
  obtain ⟨v1, v2, rfl, h⟩ := h
  refine ⟨by simp, ?_⟩
  refine Eq.mpr (vcX1_join_0 ..) ?_
  obtain ⟨ha, hb, hJ, hp⟩ := h
  refine ⟨_, rfl, ⟨by omega, by omega⟩, fun r hr => ⟨⟨by omega, by omega⟩, fun q => hp M (fun _ _ => rfl) hJ (fun x y _ _ _ _ => ⟨Or.inl, ?_⟩), fun q => ⟨_, rfl, ⟨by omega, by omega⟩, fun r2 hr2 => ⟨⟨by omega, by omega⟩, fun q2 => by omega, fun q2 => ⟨⟨by omega, by omega⟩, ⟨by omega, by omega⟩, hb, hb, ?_⟩⟩⟩⟩⟩
  · rintro (a | ⟨a, -⟩)
    · exact a
    · omega
  · have h1 := hJ v1 (by omega) (by omega)
    have o1 := or1 (x := M 9 v1) (h := v2) 10 (by omega) ⟨h1.1, by rw [h1024]; omega⟩ ⟨by omega, by omega⟩
    rw [h1024] at o1
    generalize (xi (M 9 v1) ||| xi (xi 1 <<< (xi v2 &&& 31)).toInt).toInt = z at o1 ⊢
    have h2 : 0 ≤ xup M 9 v1 z 9 v2 ∧ xup M 9 v1 z 9 v2 < 1024 := by
      rw [xup_at]
      split
      · exact o1.1
      · exact hJ v2 hb.1 hb.2
    have o2 := or1 (x := xup M 9 v1 z 9 v2) (h := v1) 10 (by omega) ⟨h2.1, by rw [h1024]; omega⟩ ⟨by omega, by omega⟩
    rw [h1024] at o2
    generalize (xi (xup M 9 v1 z 9 v2) ||| xi (xi 1 <<< (xi v1 &&& 31)).toInt).toInt = w at o2 ⊢
    refine hp _ (fun c hc => by rw [xup_ne hc, xup_ne hc]) (fun x q1 q2 => ?_) (fun x y q1 q2 q3 q4 => ?_)
    · rw [xup_at]
      split
      · exact o2.1
      · rw [xup_at]
        split
        · exact o1.1
        · exact hJ x q1 q2
    · rw [xup_at]
      by_cases hx2 : x = v2
      · rw [if_pos hx2, o2.2 y q3, xup_at]
        by_cases h12 : v2 = v1
        · rw [if_pos h12, o1.2 y q3]
          subst hx2; subst h12
          constructor
          · rintro ((a | a) | a)
            · exact Or.inl a
            · exact Or.inr ⟨by omega, Or.inl ⟨rfl, a⟩⟩
            · exact Or.inr ⟨by omega, Or.inl ⟨rfl, a⟩⟩
          · rintro (a | ⟨-, ⟨-, a⟩ | ⟨-, a⟩⟩)
            · exact Or.inl (Or.inl a)
            · exact Or.inr a
            · exact Or.inr a
        · rw [if_neg h12, hx2]
          constructor
          · rintro (a | a)
            · exact Or.inl a
            · exact Or.inr ⟨by omega, Or.inr ⟨rfl, a⟩⟩
          · rintro (a | ⟨-, ⟨a, -⟩ | ⟨-, a⟩⟩)
            · exact Or.inl a
            · omega
            · exact Or.inr a
      · rw [if_neg hx2, xup_at]
        by_cases hx1 : x = v1
        · rw [if_pos hx1, o1.2 y q3, hx1]
          constructor
          · rintro (a | a)
            · exact Or.inl a
            · exact Or.inr ⟨by omega, Or.inl ⟨rfl, a⟩⟩
          · rintro (a | ⟨-, ⟨-, a⟩ | ⟨a, -⟩⟩)
            · exact Or.inl a
            · exact Or.inr a
            · omega
        · rw [if_neg hx1]
          refine ⟨Or.inl, ?_⟩
          rintro (a | ⟨-, ⟨a, -⟩ | ⟨a, -⟩⟩)
          · exact a
          · omega
          · omega
theorem k_X1_join {l : Launch} {D : va_G} {T : Nat → ClassId} {ad : Nat → Nat} (hO : xOk ad LX) : xMet l D T ad LX yX1_join cX1_join 3 none true 1 sp_X1_join :=
  xmet0 (rt := 0) (fld := fldX1) (cals := (calX1_join sp_X5_isBox)) (cst := []) (I := iX1_join) (cut := cutX1_join) hO (by decide +kernel) ⟨by decide, by decide, by decide⟩ oX1_join foX1 (fun _ h => absurd h List.not_mem_nil) (List.forall_mem_cons.mpr ⟨⟨yX5_isBox, cX5_isBox, 1, (some .boolean), 0, 1, by decide, yoX5_isBox, k_X5_isBox hO, loX1_92, Or.inl ⟨rfl, rfl⟩⟩, fun _ h => absurd h List.not_mem_nil⟩) b_X1_join
def f_X1_lines (M : xM) (Post : xR) : Prop := ∃ R, JN M R ∧ (∀ x y, R x y → R y x) ∧ (∀ x, ¬ R x x) ∧ Post (nLn R 10 : Nat) M
abbrev sp_X1_lines : xT := spV0 7 f_X1_lines
set_option maxRecDepth 100000 in
set_option maxHeartbeats 4000000 in
theorem b_X1_lines (as : List xV) (M : xM) (Post : xR) (h : sp_X1_lines as M Post) : as.length ≤ 3 ∧ ∃ (Inv : xG) (μ : Nat → xL → List xV → xM → Nat) (f0 f1 : Nat), xw LX fldX1 (calX1_lines sp_J6_bitCount_0f7a4) [] 1 Post iX1_lines cutX1_lines Inv f0 0 (xlv as 3) [] M ∧ ∀ pc lv st M', Inv pc lv st M' → xw LX fldX1 (calX1_lines sp_J6_bitCount_0f7a4) [] 1 Post iX1_lines cutX1_lines (fun pc2 lv2 st2 M2 => Inv pc2 lv2 st2 M2 ∧ μ pc2 lv2 st2 M2 < μ pc lv st M') f1 pc lv st M' := by
  obtain ⟨rfl, h⟩ := h
  refine ⟨by simp, (fun pc lv st N => ∃ (i : Nat), pc = 4 ∧ lv = [some (.inr 7), some (.inl ((sm (fun a => (pop (M 9 (a : Int))).toNat) i : Nat) : Int)), some (.inl (i : Int))] ∧ st = [] ∧ M = N ∧ i ≤ 10), (fun pc lv st N => match lv with | [_, _, some (.inl i)] => (20 - i).toNat | _ => 0), 400, 400, Eq.mpr (vcX1_lines_0 ..) ?_, ?_⟩
  · exact ⟨0, rfl, rfl, rfl, rfl, by omega⟩
  · obtain ⟨R, hJ, hs, hi, hp⟩ := h
    rintro pc lv st N ⟨i, rfl, rfl, rfl, rfl, h1⟩
    refine Eq.mpr (vcX1_lines_4 ..) ?_
    refine ⟨⟨by omega, by omega⟩, ⟨by omega, by omega⟩, fun q => ?_, fun q => ⟨⟨by omega, by omega⟩, _, rfl, hJ.1 i (by omega) q, ⟨i + 1, rfl, ?_, rfl, rfl, by omega⟩, by (change Int.toNat _ < Int.toNat _); omega⟩⟩
    · have hi10 : i = 10 := by omega
      subst hi10
      have e : sm (fun a => (pop (M 9 (a : Int))).toNat) 10 = 2 * nLn R 10 := by
        rw [← nLn_two hs hi]
        refine sm_congr (fun a ha => ?_)
        rw [pop_sm, Int.toNat_natCast]
        exact sm_congr (fun b hb => bb_congr (hJ.2 a b (by omega) (by omega) (by omega) (by omega)))
      have := nLn_le R
      rw [e]
      refine ⟨⟨by omega, by omega, by omega, by omega⟩, ?_⟩
      rw [show ((2 * nLn R 10 : Nat) : Int) / 2 = (nLn R 10 : Nat) by omega]
      exact hp
    · have := pop_b (M 9 i)
      have e : ((sm (fun a => (pop (M 9 (a : Int))).toNat) i : Nat) : Int) + pop (M 9 i) = ((sm (fun a => (pop (M 9 (a : Int))).toNat) (i + 1) : Nat) : Int) := by
        simp only [sm]; omega
      rw [e]
      rfl
theorem k_X1_lines {l : Launch} {D : va_G} {T : Nat → ClassId} {ad : Nat → Nat} (hO : xOk ad LX) : xMet l D T ad LX yX1_lines cX1_lines 3 (some .int) false 1 sp_X1_lines :=
  xmet (rt := 1) (fld := fldX1) (cals := (calX1_lines sp_J6_bitCount_0f7a4)) (cst := []) (I := iX1_lines) (cut := cutX1_lines) hO (by decide +kernel) ⟨by decide, by decide, by decide⟩ oX1_lines foX1 (fun _ h => absurd h List.not_mem_nil) (List.forall_mem_cons.mpr ⟨⟨yJ6_bitCount_0f7a4, cJ6_bitCount_0f7a4, 1, (some .int), 0, 1, by decide, yoJ6_bitCount_0f7a4, k_J6_bitCount_0f7a4 hO, loX1_95, Or.inl ⟨rfl, rfl⟩⟩, fun _ h => absurd h List.not_mem_nil⟩) b_X1_lines
end
section
/-! Net: way, draw, isShortest, fits, takeUp -/
theorem or2 {x y : Int} (hx : 0 ≤ x ∧ x < 1024) (hy : 0 ≤ y ∧ y < 1024) : (0 ≤ (xi x ||| xi y).toInt ∧ (xi x ||| xi y).toInt < 1024) ∧ ∀ n, tb (xi x ||| xi y).toInt n ↔ tb x n ∨ tb y n := by
  obtain ⟨a, rfl⟩ : ∃ a : Nat, x = a := ⟨x.toNat, by omega⟩
  obtain ⟨b, rfl⟩ : ∃ b : Nat, y = b := ⟨y.toNat, by omega⟩
  rw [bs_or (by omega) (by omega)]
  have := Nat.or_lt_two_pow (x := a) (y := b) (n := 10) (by omega) (by omega)
  exact ⟨⟨by omega, by omega⟩, fun n => tb_or⟩
theorem wS_eq {M N : xM} (h1 : N 1 = M 1) (h2 : N 2 = M 2) (h3 : N 3 = M 3) (h5 : N 5 = M 5) (h6 : N 6 = M 6) : wS N = wS M := by
  simp only [wS, wR, wT, h1, h2, h3, h5, h6]
theorem SX_eq {M N : xM} (h1 : N 1 = M 1) (h2 : N 2 = M 2) (h3 : N 3 = M 3) (h5 : N 5 = M 5) : SX N = SX M := by
  simp only [SX, h1, h2, h3, h5]
theorem plX_eq {M N : xM} (h1 : N 1 = M 1) (h2 : N 2 = M 2) (h3 : N 3 = M 3) (h5 : N 5 = M 5) (h8 : N 8 = M 8) : plX N = plX M := by
  have e : ofX N = ofX M := by
    funext u
    simp only [ofX, h2, h3]
  simp only [plX, SX, h1, h2, h3, h5, h8, e]
theorem Adj_imp {S S' : dS} {q q' : Int → Prop} {pl pl' : Int → Int → Int} (hn : S.1 = S'.1) (hl : ∀ t, 0 ≤ t → t < S.1 → S.2.1 t = S'.2.1 t) (hq : ∀ t, 0 ≤ t → t < S.1 → (q t → q' t)) (hp : ∀ t i, 0 ≤ t → t < S.1 → 0 ≤ i → i < S.2.1 t → pl t i = pl' t i) {a b : Int} (h : Adj S q pl a b) : Adj S' q' pl' a b := by
  obtain ⟨t, ht, h1, i, h2, h3, h4⟩ := h
  refine ⟨t, by rw [← hn]; exact ht, hq t ht.1 ht.2 h1, i, h2, by rw [← hl t ht.1 ht.2]; exact h3, ?_⟩
  rw [← hp t i ht.1 ht.2 h2 (by omega), ← hp t (i + 1) ht.1 ht.2 (by omega) h3]
  exact h4
theorem Adj_iff {S S' : dS} {q q' : Int → Prop} {pl pl' : Int → Int → Int} (hn : S.1 = S'.1) (hl : ∀ t, 0 ≤ t → t < S.1 → S.2.1 t = S'.2.1 t) (hq : ∀ t, 0 ≤ t → t < S.1 → (q t ↔ q' t)) (hp : ∀ t i, 0 ≤ t → t < S.1 → 0 ≤ i → i < S.2.1 t → pl t i = pl' t i) (a b : Int) : Adj S q pl a b ↔ Adj S' q' pl' a b :=
  ⟨Adj_imp hn hl (fun t h1 h2 => (hq t h1 h2).mp) hp, Adj_imp hn.symm (fun t h1 h2 => (hl t h1 (by rw [hn]; exact h2)).symm) (fun t h1 h2 => (hq t h1 (by rw [hn]; exact h2)).mpr) (fun t i h1 h2 h3 h4 => (hp t i h1 (by rw [hn]; exact h2) h3 (by rw [hl t h1 (by rw [hn]; exact h2)]; exact h4)).symm)⟩
theorem FT_imp {S S' : dS} {q q' : Int → Prop} {pl pl' : Int → Int → Int} (hn : S.1 = S'.1) (hl : ∀ t, 0 ≤ t → t < S.1 → S.2.1 t = S'.2.1 t) (hq : ∀ t, 0 ≤ t → t < S.1 → (q t ↔ q' t)) (hp : ∀ t i, 0 ≤ t → t < S.1 → 0 ≤ i → i < S.2.1 t → pl t i = pl' t i) (h : FT S q pl) : FT S' q' pl' := by
  refine ⟨fun t h1 h2 h3 => ?_, fun t h1 h2 h3 => ?_⟩
  · rw [← hn] at h2
    intro i j a b d
    rw [← hl t h1 h2] at d
    rw [← hp t i h1 h2 a (by omega), ← hp t j h1 h2 (by omega) d]
    exact h.1 t h1 h2 ((hq t h1 h2).mpr h3) i j a b d
  · rw [← hn] at h2
    intro k hk
    rw [← hl t h1 h2] at hk ⊢
    rw [← hp t 0 h1 h2 (by omega) (by omega), ← hp t _ h1 h2 (by omega) (by omega), ← wk_congr (Adj_iff hn hl hq hp)]
    exact h.2 t h1 h2 ((hq t h1 h2).mpr h3) k hk
theorem FT_iff {S S' : dS} {q q' : Int → Prop} {pl pl' : Int → Int → Int} (hn : S.1 = S'.1) (hl : ∀ t, 0 ≤ t → t < S.1 → S.2.1 t = S'.2.1 t) (hq : ∀ t, 0 ≤ t → t < S.1 → (q t ↔ q' t)) (hp : ∀ t i, 0 ≤ t → t < S.1 → 0 ≤ i → i < S.2.1 t → pl t i = pl' t i) : FT S q pl ↔ FT S' q' pl' :=
  ⟨FT_imp hn hl hq hp, FT_imp hn.symm (fun t h1 h2 => (hl t h1 (by rw [hn]; exact h2)).symm) (fun t h1 h2 => (hq t h1 (by rw [hn]; exact h2)).symm) (fun t i h1 h2 h3 h4 => (hp t i h1 (by rw [hn]; exact h2) h3 (by rw [hl t h1 (by rw [hn]; exact h2)]; exact h4)).symm)⟩
theorem trWk {S : dS} {q : Int → Prop} {pl : Int → Int → Int} {t : Int} (ht : 0 ≤ t ∧ t < S.1) (hq : q t) : ∀ i : Nat, (i : Int) < S.2.1 t → wk (Adj S q pl) i (pl t 0) (pl t i) := by
  intro i
  induction i with
  | zero => intro _; rfl
  | succ i ih =>
    intro hi
    exact ⟨pl t i, ih (by omega), t, ht, hq, i, by omega, by omega, Or.inl ⟨rfl, rfl⟩⟩
def f_X1_way (a b : Int) (M : xM) (Post : xR) : Prop := ∃ R, JN M R ∧ in10 R ∧ (0 ≤ a ∧ a < 10) ∧ (0 ≤ b ∧ b < 10) ∧ ∀ d, isD R a b d → Post d M
theorem pop_1 {x : Int} (hx : 0 ≤ x ∧ x < 1024) (hne : x ≠ 0) : 1 ≤ pop x := by
  have := pop_lt (x := 0) (y := x) ⟨by omega, by omega⟩ hx (fun i _ _ h => (tb_0 i h).elim) (fun e => hne e.symm)
  have := pop_b 0
  omega
abbrev sp_X1_way : xT := spV2 7 f_X1_way
set_option maxRecDepth 100000 in
set_option maxHeartbeats 4000000 in
theorem b_X1_way (as : List xV) (M : xM) (Post : xR) (h : sp_X1_way as M Post) : as.length ≤ 7 ∧ ∃ (Inv : xG) (μ : Nat → xL → List xV → xM → Nat) (f0 f1 : Nat), xw LX fldX1 (calX1_way sp_X5_hasBit) [] 1 Post iX1_way cutX1_way Inv f0 0 (xlv as 7) [] M ∧ ∀ pc lv st M', Inv pc lv st M' → xw LX fldX1 (calX1_way sp_X5_hasBit) [] 1 Post iX1_way cutX1_way (fun pc2 lv2 st2 M2 => Inv pc2 lv2 st2 M2 ∧ μ pc2 lv2 st2 M2 < μ pc lv st M') f1 pc lv st M' := by
  obtain ⟨v1, v2, rfl, h⟩ := h
  refine ⟨by simp, (fun pc lv st N => (∃ (R : Int → Int → Prop) (x : Int) (k : Nat) (o5 o6 : Option xV), pc = 7 ∧ lv = [some (.inr 7), some (.inl v1), some (.inl v2), some (.inl x), some (.inl (k : Int)), o5, o6] ∧ st = [] ∧ M = N ∧ JN M R ∧ in10 R ∧ (∀ d, isD R v1 v2 d → Post d M) ∧ (0 ≤ x ∧ x < 1024) ∧ (∀ y, 0 ≤ y → y < 10 → (tb x y ↔ ∃ j, j ≤ k ∧ wk R j v1 y)) ∧ (∀ j, j < k → ¬ wk R j v1 v2) ∧ (k : Int) + 1 ≤ pop x) ∨ (∃ (R : Int → Int → Prop) (x : Int) (k : Nat) (z i : Int), pc = 31 ∧ lv = [some (.inr 7), some (.inl v1), some (.inl v2), some (.inl x), some (.inl (k : Int)), some (.inl z), some (.inl i)] ∧ st = [] ∧ M = N ∧ JN M R ∧ in10 R ∧ (∀ d, isD R v1 v2 d → Post d M) ∧ (0 ≤ x ∧ x < 1024) ∧ (∀ y, 0 ≤ y → y < 10 → (tb x y ↔ ∃ j, j ≤ k ∧ wk R j v1 y)) ∧ k < 10 ∧ (k : Int) + 1 ≤ pop x ∧ ¬ tb x v2 ∧ (0 ≤ z ∧ z < 1024) ∧ (0 ≤ i ∧ i ≤ 10) ∧ ∀ y, 0 ≤ y → y < 10 → (tb z y ↔ tb x y ∨ ∃ b, 0 ≤ b ∧ b < i ∧ tb x b ∧ R b y))), (fun pc lv st N => match pc, lv with | 7, [_, _, _, _, some (.inl k), _, _] => ((11 - k) * 100).toNat | 31, [_, _, _, _, some (.inl k), _, some (.inl i)] => ((10 - k) * 100 + 50 - i).toNat | _, _ => 0), 400, 400, Eq.mpr (vcX1_way_0 ..) ?_, ?_⟩
  · obtain ⟨R, hJ, hR, ha, hb, hp⟩ := h
    obtain ⟨a, rfl⟩ : ∃ a : Nat, v1 = a := ⟨v1.toNat, by omega⟩
    have h2 : 2 ^ a < 2 ^ 10 := Nat.pow_lt_pow_right (by omega) (by omega)
    have h3 : 0 < 2 ^ a := Nat.two_pow_pos a
    refine Or.inl ⟨R, _, 0, none, none, rfl, rfl, rfl, rfl, hJ, hR, hp, ?_, fun y q1 q2 => ?_, fun j hj => by omega, ?_⟩
    all_goals rw [bs_one (by omega)]
    · omega
    · rw [tb_pow q1]
      constructor
      · intro e; exact ⟨0, by omega, e.symm⟩
      · rintro ⟨j, hj, hw⟩
        rw [show j = 0 by omega] at hw
        exact hw.symm
    · have := pop_1 (x := ((2 ^ a : Nat) : Int)) (by omega) (by omega)
      simpa using this
  · obtain ⟨-, -, -, ha, hb, -⟩ := h
    rintro pc lv st N (⟨R, x, k, o5, o6, rfl, rfl, rfl, rfl, hJ, hR, hp, h1, h2, h3, h4⟩ | ⟨R, x, k, z, i, rfl, rfl, rfl, rfl, hJ, hR, hp, h1, h2, h3, h4, h5, h6, h7, h8⟩)
    · refine Eq.mpr (vcX1_way_7 ..) ?_
      have hpb := pop_b x
      refine ⟨⟨by omega, by omega⟩, ⟨by omega, by omega⟩, fun q => by omega, fun q => ⟨_, _, rfl, ⟨by omega, by omega⟩, ⟨by omega, by omega⟩, fun r hr => ⟨⟨by omega, by omega⟩, fun q1 => ⟨Or.inr ⟨R, x, k, x, 0, rfl, rfl, rfl, rfl, hJ, hR, hp, h1, h2, by omega, h4, ?_, h1, by omega, fun y _ _ => ⟨Or.inl, ?_⟩⟩, by (change Int.toNat _ < Int.toNat _); omega⟩, fun q1 => hp k (Or.inl ⟨k, rfl, by omega, ?_, h3⟩)⟩⟩⟩
      · rcases hr with ⟨a, _⟩ | ⟨_, a⟩
        · omega
        · exact a
      · rintro (a | ⟨b, a1, a2, -⟩)
        · exact a
        · omega
      · have ht : tb x v2 := by
          rcases hr with ⟨_, a⟩ | ⟨a, _⟩
          · exact a
          · omega
        obtain ⟨j, hj, hw⟩ := (h2 v2 hb.1 hb.2).mp ht
        by_cases hjk : j = k
        · rw [← hjk]; exact hw
        · exact (h3 j (by omega) hw).elim
    · refine Eq.mpr (vcX1_way_31 ..) ?_
      refine ⟨⟨by omega, by omega⟩, ⟨by omega, by omega⟩, fun q => ⟨⟨by omega, by omega⟩, ⟨by omega, by omega⟩, fun q1 => ⟨Or.inl ⟨R, z, k + 1, _, _, rfl, rfl, rfl, rfl, hJ, hR, hp, h6, fun y a1 a2 => ?_, fun j hj hw => h5 ((h2 v2 hb.1 hb.2).mpr ⟨j, by omega, hw⟩), ?_⟩, by (change Int.toNat _ < Int.toNat _); omega⟩, fun q1 => hp (-1) (Or.inr ⟨rfl, fun j hw => ?_⟩)⟩, fun q => ⟨_, _, rfl, ⟨by omega, by omega⟩, ⟨by omega, by omega⟩, fun r hr => ⟨⟨by omega, by omega⟩, fun q1 => ⟨Or.inr ⟨R, x, k, _, i + 1, rfl, rfl, rfl, rfl, hJ, hR, hp, h1, h2, h3, h4, h5, ?_, by omega, fun y a1 a2 => ?_⟩, by (change Int.toNat _ < Int.toNat _); omega⟩, fun q1 => ⟨⟨by omega, by omega⟩, Or.inr ⟨R, x, k, _, i + 1, rfl, rfl, rfl, rfl, hJ, hR, hp, h1, h2, h3, h4, h5, ?_, by omega, fun y a1 a2 => ?_⟩, by (change Int.toNat _ < Int.toNat _); omega⟩⟩⟩⟩
      · rw [h8 y a1 a2]
        constructor
        · rintro (a | ⟨b, b1, b2, b3, b4⟩)
          · obtain ⟨j, hj, hw⟩ := (h2 y a1 a2).mp a
            exact ⟨j, by omega, hw⟩
          · obtain ⟨j, hj, hw⟩ := (h2 b b1 (by omega)).mp b3
            exact ⟨j + 1, by omega, b, hw, b4⟩
        · rintro ⟨j, hj, hw⟩
          by_cases hjk : j ≤ k
          · exact Or.inl ((h2 y a1 a2).mpr ⟨j, hjk, hw⟩)
          · have hj1 : j = k + 1 := by omega
            subst hj1
            obtain ⟨b, hw1, hr1⟩ := hw
            have hb1 := (hR b y hr1).1
            exact Or.inr ⟨b, hb1.1, by omega, (h2 b hb1.1 hb1.2).mpr ⟨k, by omega, hw1⟩, hr1⟩
      · have := pop_lt h1 h6 (fun y a1 a2 a3 => (h8 y a1 a2).mpr (Or.inl a3)) (fun e => q1 e.symm)
        omega
      · have all : ∀ (j : Nat) (y : Int), wk R j v1 y → tb x y := by
          intro j
          induction j with
          | zero =>
            intro y hw
            rw [← (show v1 = y from hw)]
            exact (h2 v1 ha.1 ha.2).mpr ⟨0, by omega, rfl⟩
          | succ j ih =>
            rintro y ⟨b, hw1, hr1⟩
            have hb1 := hR b y hr1
            rw [← q1]
            exact (h8 y hb1.2.1 hb1.2.2).mpr (Or.inr ⟨b, hb1.1.1, by omega, ih b hw1, hr1⟩)
        exact h5 (all j v2 hw)
      · rw [or0 ⟨by omega, by omega⟩]; exact h6
      · rw [or0 ⟨by omega, by omega⟩, h8 y a1 a2]
        have hnt : ¬ tb x i := by
          rcases hr with ⟨a, _⟩ | ⟨_, a⟩
          · omega
          · exact a
        constructor
        · rintro (a | ⟨b, b1, b2, b3⟩)
          · exact Or.inl a
          · exact Or.inr ⟨b, b1, by omega, b3⟩
        · rintro (a | ⟨b, b1, b2, b3, b4⟩)
          · exact Or.inl a
          · by_cases hbi : b = i
            · subst hbi; exact (hnt b3).elim
            · exact Or.inr ⟨b, b1, by omega, b3, b4⟩
      · exact (or2 h6 (hJ.1 i (by omega) q)).1
      · rw [(or2 h6 (hJ.1 i (by omega) q)).2 y, h8 y a1 a2, hJ.2 i y (by omega) q a1 a2]
        have hnt : tb x i := by
          rcases hr with ⟨_, a⟩ | ⟨a, _⟩
          · exact a
          · omega
        constructor
        · rintro ((a | ⟨b, b1, b2, b3⟩) | a)
          · exact Or.inl a
          · exact Or.inr ⟨b, b1, by omega, b3⟩
          · exact Or.inr ⟨i, by omega, by omega, hnt, a⟩
        · rintro (a | ⟨b, b1, b2, b3, b4⟩)
          · exact Or.inl (Or.inl a)
          · by_cases hbi : b = i
            · subst hbi; exact Or.inr b4
            · exact Or.inl (Or.inr ⟨b, b1, by omega, b3, b4⟩)
theorem k_X1_way {l : Launch} {D : va_G} {T : Nat → ClassId} {ad : Nat → Nat} (hO : xOk ad LX) : xMet l D T ad LX yX1_way cX1_way 7 (some .int) false 1 sp_X1_way :=
  xmet (rt := 1) (fld := fldX1) (cals := (calX1_way sp_X5_hasBit)) (cst := []) (I := iX1_way) (cut := cutX1_way) hO (by decide +kernel) ⟨by decide, by decide, by decide⟩ oX1_way foX1 (fun _ h => absurd h List.not_mem_nil) (List.forall_mem_cons.mpr ⟨⟨yX5_hasBit, cX5_hasBit, 2, (some .boolean), 0, 2, by decide, yoX5_hasBit, k_X5_hasBit hO, loX1_58, Or.inl ⟨rfl, rfl⟩⟩, fun _ h => absurd h List.not_mem_nil⟩) b_X1_way
def f_X1_isShortest (t : Int) (M : xM) (Post : xR) : Prop := wS M ∧ (0 ≤ t ∧ t < M 1 2) ∧ ∃ R, JN M R ∧ in10 R ∧ wk R (M 3 t - 1).toNat (M 5 (M 2 (t * 6))) (M 5 (M 2 (t * 6 + (M 3 t - 1)))) ∧ ∀ r, (r = 1 ∧ (∀ k : Nat, (k : Int) < M 3 t - 1 → ¬ wk R k (M 5 (M 2 (t * 6))) (M 5 (M 2 (t * 6 + (M 3 t - 1))))) ∨ r = 0 ∧ ¬ (∀ k : Nat, (k : Int) < M 3 t - 1 → ¬ wk R k (M 5 (M 2 (t * 6))) (M 5 (M 2 (t * 6 + (M 3 t - 1)))))) → Post r M
abbrev sp_X1_isShortest : xT := spV1 7 f_X1_isShortest
set_option maxRecDepth 100000 in
set_option maxHeartbeats 4000000 in
theorem b_X1_isShortest (as : List xV) (M : xM) (Post : xR) (h : sp_X1_isShortest as M Post) : as.length ≤ 5 ∧ xw LX fldX1 (calX1_isShortest sp_X2_length sp_X2_hopAt sp_X4_box sp_X1_way) [] 2 Post iX1_isShortest cutX1_isShortest (fun _ _ _ _ => False) 400 0 (xlv as 5) [] M := by
  obtain ⟨v1, rfl, h⟩ := h
  refine ⟨by simp, ?_⟩
  refine Eq.mpr (vcX1_isShortest_0 ..) ?_
  obtain ⟨hw, ht, R, hJ, hR, hk, hp⟩ := h
  have hn := hw.1.1
  have hl := hw.1.2.1 v1 ht.1 (by omega)
  obtain ⟨h1, h2, h3⟩ := hw.2.2.2 v1 ht.1 ht.2
  have h4 := hw.1.2.2 (v1 * 6) (by omega) (by omega)
  have h5 := hw.1.2.2 (v1 * 6 + (M 3 v1 - 1)) (by omega) (by omega)
  have h6 := hw.2.1.1 (M 2 (v1 * 6)) (by omega) (by omega)
  have h7 := hw.2.1.1 (M 2 (v1 * 6 + (M 3 v1 - 1))) (by omega) (by omega)
  refine ⟨_, rfl, ⟨by omega, by omega⟩, _, _, rfl, ⟨by omega, by omega⟩, ⟨by omega, by omega⟩, ?_⟩
  rw [Int.add_zero]
  refine ⟨_, rfl, ⟨by omega, by omega⟩, _, _, rfl, ⟨by omega, by omega⟩, ⟨by omega, by omega⟩, _, rfl, ⟨by omega, by omega⟩, _, _, rfl, R, hJ, hR, ⟨by omega, by omega⟩, ⟨by omega, by omega⟩, fun d hd => ?_⟩
  rcases hd with ⟨k, rfl, hk9, hk1, hk2⟩ | ⟨rfl, hk1⟩
  · refine ⟨⟨by omega, by omega⟩, ⟨by omega, by omega⟩, fun q => ⟨by omega, hp 0 (Or.inr ⟨rfl, fun z => z k q hk1⟩)⟩, fun q => ⟨by omega, hp 1 (Or.inl ⟨rfl, fun j hj => hk2 j (by omega)⟩)⟩⟩
  · exact (hk1 _ hk).elim
theorem k_X1_isShortest {l : Launch} {D : va_G} {T : Nat → ClassId} {ad : Nat → Nat} (hO : xOk ad LX) : xMet l D T ad LX yX1_isShortest cX1_isShortest 5 (some .boolean) false 2 sp_X1_isShortest :=
  xmet0 (rt := 2) (fld := fldX1) (cals := (calX1_isShortest sp_X2_length sp_X2_hopAt sp_X4_box sp_X1_way)) (cst := []) (I := iX1_isShortest) (cut := cutX1_isShortest) hO (by decide +kernel) ⟨by decide, by decide, by decide⟩ oX1_isShortest foX1 (fun _ h => absurd h List.not_mem_nil) (List.forall_mem_cons.mpr ⟨⟨yX2_length, cX2_length, 2, (some .int), 0, 1, by decide, yoX2_length, k_X2_length hO, loX1_72, Or.inr ⟨rfl, rfl, 1, 2, [some 2, some 3, none], TX2, 3, rfl, rfl, spV1_r⟩⟩, List.forall_mem_cons.mpr ⟨⟨yX2_hopAt, cX2_hopAt, 4, (some .int), 0, 2, by decide, yoX2_hopAt, k_X2_hopAt hO, loX1_75, Or.inr ⟨rfl, rfl, 1, 2, [some 2, some 3, none], TX2, 3, rfl, rfl, spV2_r⟩⟩, List.forall_mem_cons.mpr ⟨⟨yX4_box, cX4_box, 2, (some .int), 0, 1, by decide, yoX4_box, k_X4_box hO, loX1_78, Or.inr ⟨rfl, rfl, 4, 4, [some 5, some 6, none], TX4, 3, rfl, rfl, spV1_r⟩⟩, List.forall_mem_cons.mpr ⟨⟨yX1_way, cX1_way, 7, (some .int), 1, 2, by decide, yoX1_way, k_X1_way hO, loX1_83, Or.inr ⟨rfl, rfl, 7, 1, [some 1, some 4, some 8, some 9], TX1, 4, rfl, rfl, spV2_r⟩⟩, fun _ h => absurd h List.not_mem_nil⟩⟩⟩⟩) b_X1_isShortest
end
section
/-! Net: draw, fits, takeUp -/
def f_X1_draw (t fs : Int) (M : xM) (Post : xR) : Prop := wS M ∧ wA M ∧ (0 ≤ t ∧ t < M 1 2) ∧ fs = ofX M t ∧ wJ M ∧ ∀ (r : Int) (M' : xM), (∀ c, c ≠ 9 → M' c = M c) → wJ M' → (r = 1 ∧ Dst (SX M) (plX M) t ∧ (∀ x y, 0 ≤ x → x < 10 → 0 ≤ y → y < 10 → (tb (M' 9 x) y ↔ tb (M 9 x) y ∨ LnT (SX M) (plX M) t x y)) ∨ r = 0 ∧ ¬ Dst (SX M) (plX M) t) → Post r M'
abbrev sp_X1_draw : xT := spV2 7 f_X1_draw
set_option maxRecDepth 100000 in
set_option maxHeartbeats 4000000 in
theorem b_X1_draw (as : List xV) (M : xM) (Post : xR) (h : sp_X1_draw as M Post) : as.length ≤ 9 ∧ ∃ (Inv : xG) (μ : Nat → xL → List xV → xM → Nat) (f0 f1 : Nat), xw LX fldX1 (calX1_draw sp_X2_length sp_X2_hopAt sp_X1_silentBox sp_X4_box sp_X5_hasBit sp_X1_join) [] 2 Post iX1_draw cutX1_draw Inv f0 0 (xlv as 9) [] M ∧ ∀ pc lv st M', Inv pc lv st M' → xw LX fldX1 (calX1_draw sp_X2_length sp_X2_hopAt sp_X1_silentBox sp_X4_box sp_X5_hasBit sp_X1_join) [] 2 Post iX1_draw cutX1_draw (fun pc2 lv2 st2 M2 => Inv pc2 lv2 st2 M2 ∧ μ pc2 lv2 st2 M2 < μ pc lv st M') f1 pc lv st M' := by
  obtain ⟨v1, v2, rfl, h⟩ := h
  refine ⟨by simp, (fun pc lv st N => ∃ (i b x : Int) (o7 o8 : Option xV), pc = 11 ∧ lv = [some (.inr 7), some (.inl v1), some (.inl v2), some (.inl (v2 + cS (M 2) (v1 * 6) i.toNat)), some (.inl b), some (.inl x), some (.inl i), o7, o8] ∧ st = [] ∧ (0 ≤ i ∧ i ≤ M 3 v1) ∧ (i = 0 → b = -1) ∧ (0 < i → b = plX M v1 (i - 1)) ∧ (0 ≤ x ∧ x < 1024) ∧ (∀ y, 0 ≤ y → y < 10 → (tb x y ↔ ∃ j, 0 ≤ j ∧ j < i ∧ plX M v1 j = y)) ∧ (∀ j k, 0 ≤ j → j < k → k < i → plX M v1 j ≠ plX M v1 k) ∧ (∀ c, c ≠ 9 → N c = M c) ∧ wJ N ∧ ∀ u w, 0 ≤ u → u < 10 → 0 ≤ w → w < 10 → (tb (N 9 u) w ↔ tb (M 9 u) w ∨ ∃ j, 0 ≤ j ∧ j + 1 < i ∧ (plX M v1 j = u ∧ plX M v1 (j + 1) = w ∨ plX M v1 j = w ∧ plX M v1 (j + 1) = u))), (fun pc lv st N => match lv with | [_, _, _, _, _, _, some (.inl i), _, _] => (10 - i).toNat | _ => 0), 400, 400, Eq.mpr (vcX1_draw_0 ..) ?_, ?_⟩
  · obtain ⟨hw, hA, ht, hf, hJ, hp⟩ := h
    have hl := hw.1.2.1 v1 ht.1 (by have := hw.1.1; omega)
    refine ⟨0, -1, 0, none, none, rfl, ?_, rfl, by omega, fun _ => rfl, fun q => by omega, by omega, fun y _ _ => ⟨fun q => (tb_0 y q).elim, ?_⟩, fun j k _ _ _ => by omega, fun _ _ => rfl, hJ, fun u w _ _ _ _ => ⟨Or.inl, ?_⟩⟩
    · show [some (.inr 7), some (.inl v1), some (.inl v2), some (.inl v2), some (.inl (-1)), some (.inl 0), some (.inl 0), none, none] = ([some (.inr 7), some (.inl v1), some (.inl v2), some (.inl (v2 + 0)), some (.inl (-1)), some (.inl 0), some (.inl 0), none, none] : xL)
      rw [Int.add_zero]
    · rintro ⟨j, q1, q2, -⟩
      omega
    · rintro (a | ⟨j, q1, q2, -⟩)
      · exact a
      · omega
  · obtain ⟨hw, hA, ht, hf, hJ, hp⟩ := h
    rintro pc lv st N ⟨i, b, x, o7, o8, rfl, rfl, rfl, h1, h2, h3, h4, h5, h6, h7, h8, h9⟩
    have hn := hw.1.1
    have hl := hw.1.2.1 v1 ht.1 (by omega)
    have e2 : N 2 = M 2 := h7 2 (by decide)
    have e3 : N 3 = M 3 := h7 3 (by decide)
    have e5 : N 5 = M 5 := h7 5 (by decide)
    have e8 : N 8 = M 8 := h7 8 (by decide)
    have main : ∀ K : xG, (∀ (x' : Int) (o7 o8 : Option xV) (N2 : xM), i < M 3 v1 → plX M v1 i = plX M v1 i → (0 ≤ x' ∧ x' < 1024) → (∀ y, 0 ≤ y → (tb x' y ↔ tb x y ∨ y = plX M v1 i)) → ¬ tb x (plX M v1 i) → (∀ c, c ≠ 9 → N2 c = N c) → wJ N2 → (∀ u w, 0 ≤ u → u < 10 → 0 ≤ w → w < 10 → (tb (N2 9 u) w ↔ tb (N 9 u) w ∨ 0 ≤ b ∧ (u = b ∧ w = plX M v1 i ∨ u = plX M v1 i ∧ w = b))) → K 11 [some (.inr 7), some (.inl v1), some (.inl v2), some (.inl (v2 + cS (M 2) (v1 * 6) (i + 1).toNat)), some (.inl (plX M v1 i)), some (.inl x'), some (.inl (i + 1)), o7, o8] [] N2) → xw LX fldX1 (calX1_draw sp_X2_length sp_X2_hopAt sp_X1_silentBox sp_X4_box sp_X5_hasBit sp_X1_join) [] 2 Post iX1_draw cutX1_draw K 400 11 [some (.inr 7), some (.inl v1), some (.inl v2), some (.inl (v2 + cS (M 2) (v1 * 6) i.toNat)), some (.inl b), some (.inl x), some (.inl i), o7, o8] [] N := by
      intro K hK
      refine Eq.mpr (vcX1_draw_11 ..) ?_
      have hb : -1 ≤ b ∧ b < 10 := by
        by_cases hi : i = 0
        · rw [h2 hi]; omega
        · rw [h3 (by omega)]
          have := plX_b hw hA ht (i := i - 1) (by omega)
          omega
      have key : ∀ (z v3 : Int) (o7 o8 : Option xV), i < M 3 v1 → z = plX M v1 i → v3 = v2 + cS (M 2) (v1 * 6) (i + 1).toNat → sp_X5_hasBit [.inl x, .inl z] N (fun r4 M4 => rg r4 ∧ (r4 = 0 → sp_X1_join [.inr 7, .inl b, .inl z] M4 (fun _ M5 => K 11 [some (.inr 7), some (.inl v1), some (.inl v2), some (.inl v3), some (.inl z), some (.inl (xi x ||| xi (xi 1 <<< (xi z &&& 31)).toInt).toInt), some (.inl (i + 1)), o7, o8] [] M5)) ∧ (r4 ≠ 0 → ((0 : Int) = 0 ∨ (0 : Int) = 1) ∧ Post 0 M4)) := by
        intro z v3 o7 o8 hi hz hv
        have hzb := plX_b hw hA ht (i := i) (by omega)
        rw [← hz] at hzb
        have ho := or1 (x := x) (h := z) 10 (by omega) ⟨h4.1, by rw [h1024]; omega⟩ ⟨by omega, by omega⟩
        rw [h1024] at ho
        refine ⟨_, _, rfl, ⟨by omega, by omega⟩, ⟨by omega, by omega⟩, fun r hr => ⟨⟨by omega, by omega⟩, fun q => ⟨_, _, rfl, hb, hzb, h8, fun N2 g1 g2 g3 => ?_⟩, fun q => ⟨by omega, hp 0 N h7 h8 (Or.inr ⟨rfl, fun hd => ?_⟩)⟩⟩⟩
        · subst hz
          subst hv
          refine hK _ _ _ N2 hi rfl ho.1 (fun y hy => ho.2 y hy) ?_ g1 g2 g3
          rcases hr with ⟨a, _⟩ | ⟨_, a⟩
          · omega
          · exact a
        · have htb : tb x z := by
            rcases hr with ⟨_, a⟩ | ⟨a, _⟩
            · exact a
            · omega
          obtain ⟨j, q1, q2, q3⟩ := (h5 z hzb.1 hzb.2).mp htb
          exact hd j i q1 q2 hi (q3.trans hz)
      have hh : i < M 3 v1 → -1 ≤ M 2 (v1 * 6 + i) ∧ M 2 (v1 * 6 + i) ≤ 5 := fun hi => hw.1.2.2 (v1 * 6 + i) (by omega) (by omega)
      have cs1 : (i + 1).toNat = i.toNat + 1 := by omega
      refine ⟨_, rfl, ⟨by omega, by omega⟩, ?_⟩
      rw [e3]
      refine ⟨⟨by omega, by omega⟩, ⟨by omega, by omega⟩, fun q => ⟨by omega, hp 1 N h7 h8 (Or.inl ⟨rfl, ?_, ?_⟩)⟩, fun q => ⟨_, _, rfl, ⟨by omega, by omega⟩, ⟨by omega, by omega⟩, ?_⟩⟩
      · have hi : i = M 3 v1 := by omega
        intro j k a1 a2 a3
        exact h6 j k a1 a2 (by rw [hi]; exact a3)
      · have hi : i = M 3 v1 := by omega
        subst hi
        exact h9
      · have hh := hh q
        rw [e2]
        refine ⟨⟨by omega, by omega⟩, ⟨by omega, by omega⟩, fun q1 => ⟨_, rfl, ⟨by omega, by omega⟩, ⟨by omega, by omega⟩, ⟨by omega, by omega⟩, fun _ => ?_, fun q2 => (q1 q2).elim⟩, fun q1 => ⟨_, rfl, ?_, ⟨by omega, by omega⟩, ⟨by omega, by omega⟩, fun q2 => (q2 q1).elim, fun _ => ?_⟩⟩
        · rw [e5]
          refine key _ _ _ _ q ?_ ?_
          · show M 5 (M 2 (v1 * 6 + i)) = if M 2 (v1 * 6 + i) = -1 then _ else M 5 (M 2 (v1 * 6 + i))
            rw [if_neg q1]
          · rw [cs1]
            simp only [cS]
            rw [if_neg (by rw [Int.toNat_of_nonneg h1.1]; exact q1)]
            omega
        · have := sil_lt (f := M 2) (g := M 3) (n := M 1 2) ht ⟨h1.1, q⟩ q1
          have h44 := hw.2.2.1
          rw [hf]
          unfold ofX
          omega
        · rw [e8]
          refine key _ _ _ _ q ?_ ?_
          · show M 8 (v2 + cS (M 2) (v1 * 6) i.toNat) = if M 2 (v1 * 6 + i) = -1 then M 8 (ofX M v1 + cS (M 2) (v1 * 6) i.toNat) else _
            rw [if_pos q1, hf]
          · rw [cs1]
            simp only [cS]
            rw [if_pos (by rw [Int.toNat_of_nonneg h1.1]; exact q1)]
            omega
    refine main _ (fun x' o7 o8 N2 hi _ k1 k2 k3 k4 k5 k6 => ⟨⟨i + 1, plX M v1 i, x', o7, o8, rfl, rfl, rfl, by omega, fun q => by omega, fun _ => by rw [Int.add_sub_cancel], k1, fun y a1 a2 => ?_, fun j k a1 a2 a3 => ?_, fun c hc => by rw [k4 c hc]; exact h7 c hc, k5, fun u w a1 a2 a3 a4 => ?_⟩, by (change Int.toNat _ < Int.toNat _); omega⟩)
    · rw [k2 y a1, h5 y a1 a2]
      constructor
      · rintro (⟨j, b1, b2, b3⟩ | a)
        · exact ⟨j, b1, by omega, b3⟩
        · exact ⟨i, by omega, by omega, a.symm⟩
      · rintro ⟨j, b1, b2, b3⟩
        by_cases hj : j = i
        · subst hj; exact Or.inr b3.symm
        · exact Or.inl ⟨j, b1, by omega, b3⟩
    · by_cases hk : k = i
      · subst hk
        intro e
        have := plX_b hw hA ht (i := k) (by omega)
        exact k3 ((h5 _ this.1 this.2).mpr ⟨j, a1, a2, e⟩)
      · exact h6 j k a1 a2 (by omega)
    · rw [k6 u w a1 a2 a3 a4, h9 u w a1 a2 a3 a4]
      constructor
      · rintro ((a | ⟨j, b1, b2, b3⟩) | ⟨b0, a⟩)
        · exact Or.inl a
        · exact Or.inr ⟨j, b1, by omega, b3⟩
        · have hi0 : 0 < i := by
            apply Classical.byContradiction
            intro hz
            rw [h2 (by omega)] at b0
            omega
          have hb' := h3 hi0
          refine Or.inr ⟨i - 1, by omega, by omega, ?_⟩
          rw [Int.sub_add_cancel, ← hb']
          rcases a with ⟨rfl, rfl⟩ | ⟨rfl, rfl⟩
          · exact Or.inl ⟨rfl, rfl⟩
          · exact Or.inr ⟨rfl, rfl⟩
      · rintro (a | ⟨j, b1, b2, b3⟩)
        · exact Or.inl (Or.inl a)
        · by_cases hj : j + 1 < i
          · exact Or.inl (Or.inr ⟨j, b1, hj, b3⟩)
          · have hji : j = i - 1 := by omega
            have hb' := h3 (by omega)
            rw [hji, Int.sub_add_cancel, ← hb'] at b3
            have hpb := plX_b hw hA ht (i := i - 1) (by omega)
            refine Or.inr ⟨by omega, ?_⟩
            rcases b3 with ⟨c1, c2⟩ | ⟨c1, c2⟩
            · exact Or.inl ⟨c1.symm, c2.symm⟩
            · exact Or.inr ⟨c2.symm, c1.symm⟩
theorem k_X1_draw {l : Launch} {D : va_G} {T : Nat → ClassId} {ad : Nat → Nat} (hO : xOk ad LX) : xMet l D T ad LX yX1_draw cX1_draw 9 (some .boolean) false 2 sp_X1_draw :=
  xmet (rt := 2) (fld := fldX1) (cals := (calX1_draw sp_X2_length sp_X2_hopAt sp_X1_silentBox sp_X4_box sp_X5_hasBit sp_X1_join)) (cst := []) (I := iX1_draw) (cut := cutX1_draw) hO (by decide +kernel) ⟨by decide, by decide, by decide⟩ oX1_draw foX1 (fun _ h => absurd h List.not_mem_nil) (List.forall_mem_cons.mpr ⟨⟨yX2_length, cX2_length, 2, (some .int), 0, 1, by decide, yoX2_length, k_X2_length hO, loX1_72, Or.inr ⟨rfl, rfl, 1, 2, [some 2, some 3, none], TX2, 3, rfl, rfl, spV1_r⟩⟩, List.forall_mem_cons.mpr ⟨⟨yX2_hopAt, cX2_hopAt, 4, (some .int), 0, 2, by decide, yoX2_hopAt, k_X2_hopAt hO, loX1_75, Or.inr ⟨rfl, rfl, 1, 2, [some 2, some 3, none], TX2, 3, rfl, rfl, spV2_r⟩⟩, List.forall_mem_cons.mpr ⟨⟨yX1_silentBox, cX1_silentBox, 2, (some .int), 0, 1, by decide, yoX1_silentBox, k_X1_silentBox hO, loX1_86, Or.inr ⟨rfl, rfl, 7, 1, [some 1, some 4, some 8, some 9], TX1, 4, rfl, rfl, spV1_r⟩⟩, List.forall_mem_cons.mpr ⟨⟨yX4_box, cX4_box, 2, (some .int), 0, 1, by decide, yoX4_box, k_X4_box hO, loX1_78, Or.inr ⟨rfl, rfl, 4, 4, [some 5, some 6, none], TX4, 3, rfl, rfl, spV1_r⟩⟩, List.forall_mem_cons.mpr ⟨⟨yX5_hasBit, cX5_hasBit, 2, (some .boolean), 0, 2, by decide, yoX5_hasBit, k_X5_hasBit hO, loX1_58, Or.inl ⟨rfl, rfl⟩⟩, List.forall_mem_cons.mpr ⟨⟨yX1_join, cX1_join, 3, none, 1, 2, by decide, yoX1_join, k_X1_join hO, loX1_89, Or.inr ⟨rfl, rfl, 7, 1, [some 1, some 4, some 8, some 9], TX1, 4, rfl, rfl, spV2_r⟩⟩, fun _ h => absurd h List.not_mem_nil⟩⟩⟩⟩⟩⟩) b_X1_draw
theorem LnT_b {M : xM} (hw : wS M) (hA : wA M) {t a b : Int} (ht : 0 ≤ t ∧ t < M 1 2) (h : LnT (SX M) (plX M) t a b) : (0 ≤ a ∧ a < 10) ∧ (0 ≤ b ∧ b < 10) := by
  obtain ⟨i, h1, h2, h3⟩ := h
  have e1 := plX_b hw hA ht (i := i) ⟨h1, by have : i + 1 < M 3 t := h2; omega⟩
  have e2 := plX_b hw hA ht (i := i + 1) ⟨by omega, h2⟩
  rcases h3 with ⟨rfl, rfl⟩ | ⟨rfl, rfl⟩
  · exact ⟨e1, e2⟩
  · exact ⟨e2, e1⟩
theorem Adj_in {M : xM} (hw : wS M) (hA : wA M) (q : Int → Prop) : in10 (Adj (SX M) q (plX M)) := fun _ _ ⟨_, ht, _, h⟩ => LnT_b hw hA ht h
theorem ofX_succ {M : xM} {t : Int} (ht : 0 ≤ t) : ofX M (t + 1) = ofX M t + cS (M 2) (t * 6) (M 3 t).toNat := by
  obtain ⟨a, rfl⟩ : ∃ a : Nat, t = a := ⟨t.toNat, by omega⟩
  unfold ofX
  rw [show ((a : Int) + 1).toNat = a + 1 by omega, Int.toNat_natCast]
  rfl
def f_X1_fits (s : Int) (M : xM) (Post : xR) : Prop := wS M ∧ wA M ∧ (0 ≤ s ∧ s < 64) ∧ ∀ (r : Int) (M' : xM), (∀ c, c ≠ 9 → M' c = M c) → wJ M' → (r = 1 ∧ FT (SX M) (tb s) (plX M) ∧ JN M' (Adj (SX M) (tb s) (plX M)) ∨ r = 0 ∧ ¬ FT (SX M) (tb s) (plX M)) → Post r M'
abbrev sp_X1_fits : xT := spV1 7 f_X1_fits
set_option maxRecDepth 100000 in
set_option maxHeartbeats 4000000 in
theorem b_X1_fits (as : List xV) (M : xM) (Post : xR) (h : sp_X1_fits as M Post) : as.length ≤ 4 ∧ ∃ (Inv : xG) (μ : Nat → xL → List xV → xM → Nat) (f0 f1 : Nat), xw LX fldX1 (calX1_fits sp_J7_fill_53178 sp_X2_traces sp_X5_hasBit sp_X1_draw sp_X2_silentsIn sp_X1_isShortest) [] 2 Post iX1_fits cutX1_fits Inv f0 0 (xlv as 4) [] M ∧ ∀ pc lv st M', Inv pc lv st M' → xw LX fldX1 (calX1_fits sp_J7_fill_53178 sp_X2_traces sp_X5_hasBit sp_X1_draw sp_X2_silentsIn sp_X1_isShortest) [] 2 Post iX1_fits cutX1_fits (fun pc2 lv2 st2 M2 => Inv pc2 lv2 st2 M2 ∧ μ pc2 lv2 st2 M2 < μ pc lv st M') f1 pc lv st M' := by
  obtain ⟨v1, rfl, h⟩ := h
  refine ⟨by simp, (fun pc lv st N => (∃ (t : Int), pc = 12 ∧ lv = [some (.inr 7), some (.inl v1), some (.inl (ofX M t)), some (.inl t)] ∧ st = [] ∧ (0 ≤ t ∧ t ≤ M 1 2) ∧ (∀ c, c ≠ 9 → N c = M c) ∧ wJ N ∧ (∀ s, 0 ≤ s → s < t → tb v1 s → Dst (SX M) (plX M) s) ∧ ∀ u w, 0 ≤ u → u < 10 → 0 ≤ w → w < 10 → (tb (N 9 u) w ↔ ∃ s, (0 ≤ s ∧ s < t) ∧ tb v1 s ∧ LnT (SX M) (plX M) s u w)) ∨ (∃ (t z : Int), pc = 61 ∧ lv = [some (.inr 7), some (.inl v1), some (.inl z), some (.inl t)] ∧ st = [] ∧ (0 ≤ t ∧ t ≤ M 1 2) ∧ (∀ c, c ≠ 9 → N c = M c) ∧ JN N (Adj (SX M) (tb v1) (plX M)) ∧ (∀ s, 0 ≤ s → s < M 1 2 → tb v1 s → Dst (SX M) (plX M) s) ∧ ∀ s, 0 ≤ s → s < t → tb v1 s → Sht (SX M) (tb v1) (plX M) s)), (fun pc lv st N => match pc, lv with | 12, [_, _, _, some (.inl t)] => (200 - t).toNat | 61, [_, _, _, some (.inl t)] => (100 - t).toNat | _, _ => 0), 400, 400, Eq.mpr (vcX1_fits_0 ..) ?_, ?_⟩
  · obtain ⟨hw, hA, hs, hp⟩ := h
    refine ⟨0, Or.inr (Or.inl ⟨rfl, fun N g1 g2 => Or.inl ⟨0, rfl, rfl, rfl, ⟨by omega, hw.1.1.1⟩, g1, fun x q1 q2 => ?_, fun s _ _ => by omega, fun u w q1 q2 _ _ => ?_⟩⟩)⟩
    · rw [g2 x q1 (by omega)]; omega
    · rw [g2 u q1 (by omega)]
      refine ⟨fun q => (tb_0 w q).elim, ?_⟩
      rintro ⟨s, q3, -⟩
      omega
  · obtain ⟨hw, hA, hs, hp⟩ := h
    have hn := hw.1.1
    rintro pc lv st N (⟨t, rfl, rfl, rfl, h1, h2, h3, h4, h5⟩ | ⟨t, z, rfl, rfl, rfl, h1, h2, h3, h4, h5⟩)
    all_goals
      have e1 : N 1 = M 1 := h2 1 (by decide)
      have e2 : N 2 = M 2 := h2 2 (by decide)
      have e3 : N 3 = M 3 := h2 3 (by decide)
      have e5 : N 5 = M 5 := h2 5 (by decide)
      have e6 : N 6 = M 6 := h2 6 (by decide)
      have e8 : N 8 = M 8 := h2 8 (by decide)
      have hwN : wS N := by rw [wS_eq e1 e2 e3 e5 e6]; exact hw
      have ePl : plX N = plX M := plX_eq e1 e2 e3 e5 e8
      have eS : SX N = SX M := SX_eq e1 e2 e3 e5
    · refine Eq.mpr (vcX1_fits_12 ..) ?_
      have hAN : wA N := by unfold wA; rw [e8]; exact hA
      have eo : ofX N t = ofX M t := by unfold ofX; rw [e2, e3]
      refine ⟨rfl, ?_⟩
      unfold f_X2_traces
      rw [e1]
      refine ⟨⟨by omega, by omega⟩, ⟨by omega, by omega⟩, fun q => ⟨Or.inr ⟨0, _, rfl, rfl, rfl, by omega, h2, ⟨h3, ?_⟩, fun s q1 q2 q3 => h4 s q1 (by omega) q3, fun s q1 q2 => by omega⟩, by (change Int.toNat _ < Int.toNat _); omega⟩, fun q => ⟨_, _, rfl, ⟨by omega, by omega⟩, ⟨by omega, by omega⟩, fun r hr => ⟨⟨by omega, by omega⟩, fun q1 => ⟨_, rfl, hwN.1, ⟨by omega, by omega⟩, ⟨Or.inl ⟨t + 1, rfl, ?_, rfl, by omega, h2, h3, fun s a1 a2 a3 => ?_, fun u w a1 a2 a3 a4 => ?_⟩, by (change Int.toNat _ < Int.toNat _); omega⟩⟩, fun q1 => ⟨_, _, rfl, hwN, hAN, ⟨h1.1, by rw [e1]; exact q⟩, eo.symm, h3, fun r4 N4 g1 g2 g3 => ⟨⟨by omega, by omega⟩, fun q4 => ?_, fun q4 => ⟨by omega, hp 0 N4 (fun c hc => by rw [g1 c hc]; exact h2 c hc) g2 (Or.inr ⟨rfl, fun hF => ?_⟩)⟩⟩⟩⟩⟩⟩
      · have ht : t = M 1 2 := by omega
        subst ht
        exact h5
      · rw [ofX_succ h1.1, e2, e3]
      · by_cases hst : s = t
        · subst hst
          rcases hr with ⟨a, _⟩ | ⟨_, a⟩
          · omega
          · exact (a a3).elim
        · exact h4 s a1 (by omega) a3
      · rw [h5 u w a1 a2 a3 a4]
        constructor
        · rintro ⟨s, b1, b2⟩
          exact ⟨s, by omega, b2⟩
        · rintro ⟨s, b1, b2, b3⟩
          by_cases hst : s = t
          · subst hst
            rcases hr with ⟨a, _⟩ | ⟨_, a⟩
            · omega
            · exact (a b2).elim
          · exact ⟨s, by omega, b2, b3⟩
      · rw [ePl, eS] at g3
        rcases g3 with ⟨_, g3, g4⟩ | ⟨a, _⟩
        · have f1 : N4 1 = M 1 := by rw [g1 1 (by decide)]; exact e1
          have f2 : N4 2 = M 2 := by rw [g1 2 (by decide)]; exact e2
          have f3 : N4 3 = M 3 := by rw [g1 3 (by decide)]; exact e3
          have f5 : N4 5 = M 5 := by rw [g1 5 (by decide)]; exact e5
          have f6 : N4 6 = M 6 := by rw [g1 6 (by decide)]; exact e6
          have hwN4 : wS N4 := by rw [wS_eq f1 f2 f3 f5 f6]; exact hw
          refine ⟨_, rfl, hwN4.1, ⟨by omega, by omega⟩, ⟨Or.inl ⟨t + 1, rfl, ?_, rfl, by omega, fun c hc => by rw [g1 c hc]; exact h2 c hc, g2, fun s a1 a2 a3 => ?_, fun u w a1 a2 a3 a4 => ?_⟩, by (change Int.toNat _ < Int.toNat _); omega⟩⟩
          · rw [ofX_succ h1.1, f2, f3]
          · by_cases hst : s = t
            · subst hst; exact g3
            · exact h4 s a1 (by omega) a3
          · rw [g4 u w a1 a2 a3 a4, h5 u w a1 a2 a3 a4]
            have htb : tb v1 t := by
              rcases hr with ⟨_, a⟩ | ⟨a, _⟩
              · exact a
              · omega
            constructor
            · rintro (⟨s, b1, b2⟩ | a)
              · exact ⟨s, by omega, b2⟩
              · exact ⟨t, by omega, htb, a⟩
            · rintro ⟨s, b1, b2, b3⟩
              by_cases hst : s = t
              · subst hst; exact Or.inr b3
              · exact Or.inl ⟨s, by omega, b2, b3⟩
        · omega
      · rw [ePl, eS] at g3
        have htb : tb v1 t := by
          rcases hr with ⟨_, a⟩ | ⟨a, _⟩
          · exact a
          · omega
        rcases g3 with ⟨a, _⟩ | ⟨_, a⟩
        · omega
        · exact a (hF.1 t h1.1 q htb)
    · refine Eq.mpr (vcX1_fits_61 ..) ?_
      refine ⟨rfl, ?_⟩
      unfold f_X2_traces
      rw [e1]
      refine ⟨⟨by omega, by omega⟩, ⟨by omega, by omega⟩, fun q => ⟨by omega, hp 1 N h2 h3.1 (Or.inl ⟨rfl, ⟨h4, fun s q1 q2 q3 => h5 s q1 (by have : s < M 1 2 := q2; omega) q3⟩, h3⟩)⟩, fun q => ⟨_, _, rfl, ⟨by omega, by omega⟩, ⟨by omega, by omega⟩, fun r hr => ⟨⟨by omega, by omega⟩, fun q1 => ⟨Or.inr ⟨t + 1, z, rfl, rfl, rfl, by omega, h2, h3, h4, fun s a1 a2 a3 => ?_⟩, by (change Int.toNat _ < Int.toNat _); omega⟩, fun q1 => ?_⟩⟩⟩
      · by_cases hst : s = t
        · subst hst
          rcases hr with ⟨a, _⟩ | ⟨_, a⟩
          · omega
          · exact (a a3).elim
        · exact h5 s a1 (by omega) a3
      · have htb : tb v1 t := by
          rcases hr with ⟨_, a⟩ | ⟨a, _⟩
          · exact a
          · omega
        obtain ⟨l1, l2, l3⟩ := hw.2.2.2 t h1.1 q
        have p0 : plX M t 0 = M 5 (M 2 (t * 6)) := by
          show (if M 2 (t * 6 + 0) = -1 then _ else M 5 (M 2 (t * 6 + 0))) = _
          rw [Int.add_zero, if_neg l2]
        have p1 : plX M t (M 3 t - 1) = M 5 (M 2 (t * 6 + (M 3 t - 1))) := by
          show (if M 2 (t * 6 + (M 3 t - 1)) = -1 then _ else M 5 (M 2 (t * 6 + (M 3 t - 1)))) = _
          rw [if_neg l3]
        have hwk := trWk (S := SX M) (q := tb v1) (pl := plX M) (t := t) ⟨h1.1, q⟩ htb (M 3 t - 1).toNat (by show _ < M 3 t; omega)
        rw [Int.toNat_of_nonneg (by omega), p0, p1] at hwk
        refine ⟨_, rfl, hwN, ⟨h1.1, by rw [e1]; exact q⟩, Adj (SX M) (tb v1) (plX M), h3, Adj_in hw hA _, by rw [e2, e3, e5]; exact hwk, fun r3 hr3 => ?_⟩
        rw [e2, e3, e5, ← p0, ← p1] at hr3
        refine ⟨⟨by omega, by omega⟩, fun q3 => ⟨Or.inr ⟨t + 1, z, rfl, rfl, rfl, by omega, h2, h3, h4, fun s a1 a2 a3 => ?_⟩, by (change Int.toNat _ < Int.toNat _); omega⟩, fun q3 => ⟨by omega, hp 0 N h2 h3.1 (Or.inr ⟨rfl, fun hF => ?_⟩)⟩⟩
        · by_cases hst : s = t
          · subst hst
            rcases hr3 with ⟨_, a⟩ | ⟨a, _⟩
            · exact a
            · omega
          · exact h5 s a1 (by omega) a3
        · rcases hr3 with ⟨a, _⟩ | ⟨_, a⟩
          · omega
          · exact a (hF.2 t h1.1 q htb)
theorem k_X1_fits {l : Launch} {D : va_G} {T : Nat → ClassId} {ad : Nat → Nat} (hO : xOk ad LX) : xMet l D T ad LX yX1_fits cX1_fits 4 (some .boolean) false 3 sp_X1_fits :=
  xmet (rt := 2) (fld := fldX1) (cals := (calX1_fits sp_J7_fill_53178 sp_X2_traces sp_X5_hasBit sp_X1_draw sp_X2_silentsIn sp_X1_isShortest)) (cst := []) (I := iX1_fits) (cut := cutX1_fits) hO (by decide +kernel) ⟨by decide, by decide, by decide⟩ oX1_fits foX1 (fun _ h => absurd h List.not_mem_nil) (List.forall_mem_cons.mpr ⟨⟨yJ7_fill_53178, cJ7_fill_53178, 4, none, 0, 2, by decide, yoJ7_fill_53178, k_J7_fill_53178 hO, loX1_49, Or.inl ⟨rfl, rfl⟩⟩, List.forall_mem_cons.mpr ⟨⟨yX2_traces, cX2_traces, 1, (some .int), 0, 0, by decide, yoX2_traces, k_X2_traces hO, loX1_55, Or.inr ⟨rfl, rfl, 1, 2, [some 2, some 3, none], TX2, 3, rfl, rfl, spV0_r⟩⟩, List.forall_mem_cons.mpr ⟨⟨yX5_hasBit, cX5_hasBit, 2, (some .boolean), 0, 2, by decide, yoX5_hasBit, k_X5_hasBit hO, loX1_58, Or.inl ⟨rfl, rfl⟩⟩, List.forall_mem_cons.mpr ⟨⟨yX1_draw, cX1_draw, 9, (some .boolean), 2, 2, by decide, yoX1_draw, k_X1_draw hO, loX1_62, Or.inr ⟨rfl, rfl, 7, 1, [some 1, some 4, some 8, some 9], TX1, 4, rfl, rfl, spV2_r⟩⟩, List.forall_mem_cons.mpr ⟨⟨yX2_silentsIn, cX2_silentsIn, 4, (some .int), 1, 1, by decide, yoX2_silentsIn, k_X2_silentsIn hO, loX1_65, Or.inr ⟨rfl, rfl, 1, 2, [some 2, some 3, none], TX2, 3, rfl, rfl, spV1_r⟩⟩, List.forall_mem_cons.mpr ⟨⟨yX1_isShortest, cX1_isShortest, 5, (some .boolean), 2, 1, by decide, yoX1_isShortest, k_X1_isShortest hO, loX1_69, Or.inr ⟨rfl, rfl, 7, 1, [some 1, some 4, some 8, some 9], TX1, 4, rfl, rfl, spV1_r⟩⟩, fun _ h => absurd h List.not_mem_nil⟩⟩⟩⟩⟩⟩) b_X1_fits
end
section
/-! the enumeration of assignments, in ORDER; the fold that keeps the LEAST; how many there can be -/
def okB (th : Int → Prop) (b : Nat) : Prop := 6 ≤ b ∨ th (b : Int)
def nwS (nw b : Nat) : Nat := if b = 6 + nw then nw + 1 else nw
noncomputable def brn (th : Int → Prop) (E : Nat → List (List Int)) (nw b : Nat) : List (List Int) := @ite _ (okB th b) (Classical.propDecidable _) ((E (nwS nw b)).map (fun l => (b : Int) :: l)) []
noncomputable def enm (th : Int → Prop) : Nat → Nat → List (List Int)
  | 0, _ => [[]]
  | r + 1, nw => (List.range (7 + nw)).flatMap (brn th (enm th r) nw)
/-- NEW boxes in use behind a list, from nw on -/
def nwL : List Int → Nat → Nat
  | [], nw => nw
  | b :: l, nw => nwL l (if b = 6 + (nw : Int) then nw + 1 else nw)
theorem nwL_ge (l : List Int) : ∀ nw, nw ≤ nwL l nw := by
  induction l with
  | nil => intro nw; exact Nat.le_refl _
  | cons b l ih =>
    intro nw
    simp only [nwL]
    split
    · have := ih (nw + 1); omega
    · exact ih nw
theorem nwL_le (l : List Int) : ∀ nw, nwL l nw ≤ nw + l.length := by
  induction l with
  | nil => intro nw; exact Nat.le_refl _
  | cons b l ih =>
    intro nw
    simp only [nwL, List.length_cons]
    split
    · have := ih (nw + 1); omega
    · have := ih nw; omega
theorem nwL_app (p l : List Int) : ∀ nw, nwL (p ++ l) nw = nwL l (nwL p nw) := by
  induction p with
  | nil => intro nw; rfl
  | cons b p ih => intro nw; simp only [List.cons_append, nwL]; exact ih _
theorem nwS_c (nw b : Nat) : nwS nw b = if (b : Int) = 6 + (nw : Int) then nw + 1 else nw := by
  unfold nwS
  by_cases h : b = 6 + nw
  · rw [if_pos h, if_pos (by omega)]
  · rw [if_neg h, if_neg (by omega)]
theorem brn_mem {th : Int → Prop} {E : Nat → List (List Int)} {nw b : Nat} {l : List Int} : l ∈ brn th E nw b ↔ okB th b ∧ ∃ l', l' ∈ E (nwS nw b) ∧ l = (b : Int) :: l' := by
  unfold brn
  by_cases h : okB th b
  · rw [if_pos h]
    simp only [List.mem_map]
    constructor
    · rintro ⟨l', h1, rfl⟩; exact ⟨h, l', h1, rfl⟩
    · rintro ⟨-, l', h1, rfl⟩; exact ⟨l', h1, rfl⟩
  · rw [if_neg h]
    constructor
    · intro q; cases q
    · rintro ⟨q, -⟩; exact (h q).elim
theorem enm_len {th : Int → Prop} : ∀ {r nw : Nat} {l : List Int}, l ∈ enm th r nw → l.length = r := by
  intro r
  induction r with
  | zero => intro nw l h; simp [enm] at h; rw [h]; rfl
  | succ r ih =>
    intro nw l h
    simp only [enm, List.mem_flatMap] at h
    obtain ⟨b, -, hb⟩ := h
    obtain ⟨-, l', h1, rfl⟩ := brn_mem.mp hb
    rw [List.length_cons, ih h1]
/-- what an enumerated list looks like: each box is a present one, or a NEW one of those in use, or the next -/
theorem enm_val {th : Int → Prop} : ∀ {r nw : Nat} {l : List Int}, l ∈ enm th r nw → ∀ (i : Nat) (b : Int), l[i]? = some b → 0 ≤ b ∧ b ≤ 6 + (nw : Int) + i ∧ (6 ≤ b ∨ th b) := by
  intro r
  induction r with
  | zero => intro nw l h i b hi; simp [enm] at h; rw [h] at hi; simp at hi
  | succ r ih =>
    intro nw l h i b hi
    simp only [enm, List.mem_flatMap] at h
    obtain ⟨c, hc, hb⟩ := h
    obtain ⟨hok, l', h1, rfl⟩ := brn_mem.mp hb
    have hc := List.mem_range.mp hc
    cases i with
    | zero =>
      simp at hi
      subst hi
      refine ⟨by omega, by omega, ?_⟩
      rcases hok with q | q
      · exact Or.inl (by omega)
      · exact Or.inr q
    | succ i =>
      simp at hi
      have := ih h1 i b hi
      have hn : nwS nw c ≤ nw + 1 := by unfold nwS; split <;> omega
      refine ⟨this.1, by omega, this.2.2⟩
abbrev lSt : Type := Nat × Nat × List (List Int)
noncomputable def stp (Fit : List Int → Prop) (nl : List Int → Nat) (s : lSt) (A : List Int) : lSt :=
  @ite _ (Fit A ∧ (nwL A 0 < s.1 ∨ nwL A 0 = s.1 ∧ nl A ≤ s.2.1)) (Classical.propDecidable _) (if nwL A 0 < s.1 ∨ nl A < s.2.1 then (nwL A 0, nl A, [A]) else (s.1, s.2.1, s.2.2 ++ [A])) s
theorem stp_no {Fit : List Int → Prop} {nl : List Int → Nat} {s : lSt} {A : List Int} (h : ¬ (Fit A ∧ (nwL A 0 < s.1 ∨ nwL A 0 = s.1 ∧ nl A ≤ s.2.1))) : stp Fit nl s A = s := by
  unfold stp; exact if_neg h
theorem stp_yes {Fit : List Int → Prop} {nl : List Int → Nat} {s : lSt} {A : List Int} (h : Fit A ∧ (nwL A 0 < s.1 ∨ nwL A 0 = s.1 ∧ nl A ≤ s.2.1)) : stp Fit nl s A = if nwL A 0 < s.1 ∨ nl A < s.2.1 then (nwL A 0, nl A, [A]) else (s.1, s.2.1, s.2.2 ++ [A]) := by
  unfold stp; exact if_pos h
theorem fold_id {Fit : List Int → Prop} {nl : List Int → Nat} {s : lSt} : ∀ {l : List (List Int)}, (∀ A ∈ l, ¬ (Fit A ∧ (nwL A 0 < s.1 ∨ nwL A 0 = s.1 ∧ nl A ≤ s.2.1))) → l.foldl (stp Fit nl) s = s := by
  intro l
  induction l with
  | nil => intro _; rfl
  | cons A l ih =>
    intro h
    rw [List.foldl_cons, stp_no (h A List.mem_cons_self)]
    exact ih (fun B hB => h B (List.mem_cons_of_mem _ hB))
def init0 : lSt := (4, 100, [])
/-- what is kept was seen, FITS, and has the fewest NEW boxes so far -/
theorem fold_kept {Fit : List Int → Prop} {nl : List Int → Nat} : ∀ (l : List (List Int)) (s : lSt) (d : List (List Int)), (s.2.2.Sublist d ∧ (∀ A ∈ s.2.2, Fit A ∧ nwL A 0 = s.1 ∧ nl A = s.2.1)) → ((l.foldl (stp Fit nl) s).2.2.Sublist (d ++ l) ∧ ∀ A ∈ (l.foldl (stp Fit nl) s).2.2, Fit A ∧ nwL A 0 = (l.foldl (stp Fit nl) s).1 ∧ nl A = (l.foldl (stp Fit nl) s).2.1) := by
  intro l
  induction l with
  | nil => intro s d h; rw [List.append_nil]; exact h
  | cons A l ih =>
    intro s d h
    rw [List.foldl_cons]
    have e : d ++ A :: l = (d ++ [A]) ++ l := by simp
    rw [e]
    refine ih _ _ ?_
    by_cases hc : Fit A ∧ (nwL A 0 < s.1 ∨ nwL A 0 = s.1 ∧ nl A ≤ s.2.1)
    · rw [stp_yes hc]
      split
      · refine ⟨(List.sublist_append_right d [A]), fun B hB => ?_⟩
        rw [List.mem_singleton.mp hB]
        exact ⟨hc.1, rfl, rfl⟩
      · rename_i hn
        refine ⟨h.1.append (List.Sublist.refl [A]), fun B hB => ?_⟩
        rcases List.mem_append.mp hB with q | q
        · exact h.2 B q
        · rw [List.mem_singleton.mp q]
          refine ⟨hc.1, ?_, ?_⟩
          · show nwL A 0 = s.1; omega
          · show nl A = s.2.1; omega
    · rw [stp_no hc]
      exact ⟨h.1.trans (List.sublist_append_left d [A]), h.2⟩
noncomputable def cP (P : List Int → Prop) (l : List (List Int)) : Nat := (l.map (fun A => bb (P A))).sum
theorem cP_app (P : List Int → Prop) (l l' : List (List Int)) : cP P (l ++ l') = cP P l + cP P l' := by unfold cP; rw [List.map_append, List.sum_append]
theorem cP_0 {P : List Int → Prop} : ∀ {l : List (List Int)}, (∀ A ∈ l, ¬ P A) → cP P l = 0 := by
  intro l
  induction l with
  | nil => intro _; rfl
  | cons A l ih =>
    intro h
    show bb (P A) + cP P l = 0
    rw [bb0 (h A List.mem_cons_self), ih (fun B hB => h B (List.mem_cons_of_mem _ hB))]
theorem cP_map (P : List Int → Prop) (f : List Int → List Int) (l : List (List Int)) : cP P (l.map f) = cP (fun A => P (f A)) l := by unfold cP; rw [List.map_map]; rfl
theorem cP_sub {P : List Int → Prop} {k l : List (List Int)} (h : k.Sublist l) (hP : ∀ A ∈ k, P A) : k.length ≤ cP P l := by
  induction h with
  | slnil => exact Nat.le_refl _
  | cons a _ ih =>
    have := ih hP
    show _ ≤ bb (P a) + cP P _
    omega
  | cons_cons a _ ih =>
    have := ih (fun B hB => hP B (List.mem_cons_of_mem _ hB))
    show _ ≤ bb (P a) + cP P _
    rw [bb1 (hP a List.mem_cons_self), List.length_cons]
    omega
theorem cP_flat (P : List Int → Prop) (g : Nat → List (List Int)) (n : Nat) : cP P ((List.range n).flatMap g) = sm (fun b => cP P (g b)) n := by
  induction n with
  | zero => rfl
  | succ n ih =>
    rw [List.range_succ, List.flatMap_append, cP_app, ih]
    show _ + cP P (([n] : List Nat).flatMap g) = _
    rw [List.flatMap_cons, List.flatMap_nil, List.append_nil]
    rfl
/-- the tree's count, 4 NAME boxes a SILENT HOP -/
def cnt : Nat → Nat → Nat → Nat
  | 0, n, k => if n = k then 1 else 0
  | r + 1, n, k => (4 + n) * cnt r n k + cnt r (n + 1) k
theorem sm_split (f : Nat → Nat) (a b : Nat) : sm f (a + b) = sm f a + sm (fun i => f (a + i)) b := by
  induction b with
  | zero => rfl
  | succ b ih => show sm f (a + b) + f (a + b) = _; rw [ih]; simp only [sm]; omega
theorem sm_const {f : Nat → Nat} {n c : Nat} (h : ∀ i, i < n → f i ≤ c) : sm f n ≤ n * c := by
  induction n with
  | zero => simp [sm]
  | succ n ih =>
    have h1 := ih (fun i hi => h i (by omega))
    have h2 := h n (by omega)
    simp only [sm, Nat.succ_mul]
    omega
theorem sm_but2 {f : Nat → Nat} {c x y : Nat} (hx : x < 6) (hy : y < 6) (hxy : x ≠ y) (h : ∀ i, i < 6 → f i ≤ c) (h1 : f x = 0) (h2 : f y = 0) : sm f 6 ≤ 4 * c := by
  have a0 := h 0 (by omega)
  have a1 := h 1 (by omega)
  have a2 := h 2 (by omega)
  have a3 := h 3 (by omega)
  have a4 := h 4 (by omega)
  have a5 := h 5 (by omega)
  have e : sm f 6 = f 0 + f 1 + f 2 + f 3 + f 4 + f 5 := by simp only [sm]; omega
  rw [e]
  rcases (show x = 0 ∨ x = 1 ∨ x = 2 ∨ x = 3 ∨ x = 4 ∨ x = 5 by omega) with rfl | rfl | rfl | rfl | rfl | rfl <;> rcases (show y = 0 ∨ y = 1 ∨ y = 2 ∨ y = 3 ∨ y = 4 ∨ y = 5 by omega) with rfl | rfl | rfl | rfl | rfl | rfl <;> omega
theorem cnt_ok {th : Int → Prop} {Fit : List Int → Prop} {m k : Nat} (hx : ∀ s, s < m → ∃ x y : Nat, x < 6 ∧ y < 6 ∧ x ≠ y ∧ ∀ A : List Int, A.length = m → Fit A → A[s]? ≠ some (x : Int) ∧ A[s]? ≠ some (y : Int)) : ∀ (r nw : Nat) (p : List Int), p.length + r = m → cP (fun l => Fit (p ++ l) ∧ nwL l nw = k) (enm th r nw) ≤ cnt r nw k := by
  intro r
  induction r with
  | zero =>
    intro nw p hp
    show bb (Fit (p ++ []) ∧ nwL [] nw = k) + 0 ≤ if nw = k then 1 else 0
    by_cases h : nw = k
    · rw [if_pos h]; have := bb_le (Fit (p ++ []) ∧ nwL [] nw = k); omega
    · rw [if_neg h, bb0 (fun q => h q.2)]; omega
  | succ r ih =>
    intro nw p hp
    have hb : ∀ b : Nat, cP (fun l => Fit (p ++ l) ∧ nwL l nw = k) (brn th (enm th r) nw b) ≤ cnt r (nwS nw b) k := by
      intro b
      unfold brn
      by_cases hok : okB th b
      · rw [if_pos hok, cP_map]
        have := ih (nwS nw b) (p ++ [(b : Int)]) (by rw [List.length_append]; simp; omega)
        refine Nat.le_trans (Nat.le_of_eq ?_) this
        congr 1
        funext l
        apply propext
        rw [List.append_assoc, nwS_c]
        rfl
      · rw [if_neg hok]; exact Nat.zero_le _
    show cP _ ((List.range (7 + nw)).flatMap (brn th (enm th r) nw)) ≤ (4 + nw) * cnt r nw k + cnt r (nw + 1) k
    rw [cP_flat, show 7 + nw = (6 + nw) + 1 by omega]
    show sm _ (6 + nw) + cP _ (brn th (enm th r) nw (6 + nw)) ≤ _
    have h1 := hb (6 + nw)
    rw [show nwS nw (6 + nw) = nw + 1 by unfold nwS; rw [if_pos rfl]] at h1
    rw [sm_split]
    have h2 : sm (fun i => cP (fun l => Fit (p ++ l) ∧ nwL l nw = k) (brn th (enm th r) nw (6 + i))) nw ≤ nw * cnt r nw k := by
      refine sm_const (fun i hi => ?_)
      have := hb (6 + i)
      rwa [show nwS nw (6 + i) = nw by unfold nwS; rw [if_neg (by omega)]] at this
    obtain ⟨x, y, q1, q2, q3, q4⟩ := hx p.length (by omega)
    have hz : ∀ b : Nat, (b = x ∨ b = y) → cP (fun l => Fit (p ++ l) ∧ nwL l nw = k) (brn th (enm th r) nw b) = 0 := by
      intro b hbx
      refine cP_0 (fun A hA hF => ?_)
      obtain ⟨-, l', hl', rfl⟩ := brn_mem.mp hA
      have hlen := enm_len hl'
      have e : (p ++ (b : Int) :: l')[p.length]? = some (b : Int) := by simp
      have := q4 (p ++ (b : Int) :: l') (by rw [List.length_append, List.length_cons, hlen]; omega) hF.1
      rcases hbx with rfl | rfl
      · exact this.1 e
      · exact this.2 e
    have h3 : sm (fun b => cP (fun l => Fit (p ++ l) ∧ nwL l nw = k) (brn th (enm th r) nw b)) 6 ≤ 4 * cnt r nw k := by
      refine sm_but2 q1 q2 q3 (fun i hi => ?_) (hz x (Or.inl rfl)) (hz y (Or.inr rfl))
      have := hb i
      rwa [show nwS nw i = nw by unfold nwS; rw [if_neg (by omega)]] at this
    rw [Nat.add_mul]
    omega
theorem cnt_369 : ∀ r, r < 5 → ∀ k, k < 5 → cnt r 0 k ≤ 369 := by decide +kernel
/-- at no time more than 369 are kept -/
theorem kept_le {th : Int → Prop} {Fit : List Int → Prop} {nl : List Int → Nat} {m : Nat} (hm : m ≤ 4) (hx : ∀ s, s < m → ∃ x y : Nat, x < 6 ∧ y < 6 ∧ x ≠ y ∧ ∀ A : List Int, A.length = m → Fit A → A[s]? ≠ some (x : Int) ∧ A[s]? ≠ some (y : Int)) {l rest : List (List Int)} (hl : l ++ rest = enm th m 0) : (l.foldl (stp Fit nl) init0).2.2.length ≤ 369 := by
  have hk := fold_kept (Fit := Fit) (nl := nl) l init0 [] ⟨List.Sublist.refl _, fun A hA => by cases hA⟩
  rw [List.nil_append] at hk
  generalize hs : l.foldl (stp Fit nl) init0 = s at hk ⊢
  have h1 : s.2.2.Sublist (enm th m 0) := hk.1.trans (by rw [← hl]; exact List.sublist_append_left _ _)
  have h2 := cP_sub (P := fun A => Fit ([] ++ A) ∧ nwL A 0 = s.1) h1 (fun A hA => ⟨(hk.2 A hA).1, (hk.2 A hA).2.1⟩)
  have h3 := cnt_ok (th := th) (k := s.1) hx m 0 [] (by simp)
  by_cases hk4 : s.1 < 5
  · have := cnt_369 m (by omega) s.1 hk4
    omega
  · cases hks : s.2.2 with
    | nil => simp
    | cons A ks =>
      have hA : A ∈ s.2.2 := by rw [hks]; exact List.mem_cons_self
      have e1 := (hk.2 A hA).2.1
      have e2 := nwL_le A 0
      have e3 := enm_len (h1.subset hA)
      omega
end
section
/-! FITS of a list of boxes; looser ones; Net.takeUp, LeastNets.someFits -/
def all0 : Int → Prop := fun _ => True
def offS (S : dS) (t : Int) : Int := sS S.2.2.1 S.2.1 t.toNat
def mS (S : dS) : Nat := (sS S.2.2.1 S.2.1 S.1.toNat).toNat
def lkA (A : List Int) (s : Int) : Int := A.getD s.toNat 0
def plL (S : dS) (A : List Int) : Int → Int → Int := Pl S (lkA A) (offS S)
def Fit (S : dS) (A : List Int) : Prop := FT S all0 (plL S A)
noncomputable def nlL (S : dS) (A : List Int) : Nat := nLn (Adj S all0 (plL S A)) 10
def nmS (S : dS) (n : Int) : Prop := ∃ t i : Int, 0 ≤ t ∧ t < S.1 ∧ 0 ≤ i ∧ i < S.2.1 t ∧ S.2.2.1 (t * 6 + i) = n
def thB (S : dS) (b : Int) : Prop := ∃ n, 0 ≤ n ∧ n < 6 ∧ S.2.2.2 n = b ∧ nmS S n
noncomputable def LNs (S : dS) : lSt := (enm (thB S) (mS S) 0).foldl (stp (Fit S) (nlL S)) init0
def wfS (S : dS) : Prop := (0 ≤ S.1 ∧ S.1 ≤ 6) ∧ (∀ t, 0 ≤ t → t < S.1 → (2 ≤ S.2.1 t ∧ S.2.1 t ≤ 6) ∧ S.2.2.1 (t * 6) ≠ -1 ∧ S.2.2.1 (t * 6 + (S.2.1 t - 1)) ≠ -1) ∧ (∀ t i, 0 ≤ t → t < S.1 → 0 ≤ i → i < S.2.1 t → -1 ≤ S.2.2.1 (t * 6 + i) ∧ S.2.2.1 (t * 6 + i) ≤ 5) ∧ (∀ n, 0 ≤ n → n < 6 → 0 ≤ S.2.2.2 n ∧ S.2.2.2 n ≤ n) ∧ sS S.2.2.1 S.2.1 S.1.toNat ≤ 4
theorem wfS_of {M : xM} (hw : wS M) : wfS (SX M) := by
  have hn := hw.1.1
  refine ⟨hn, fun t h1 h2 => ⟨⟨(hw.2.2.2 t h1 h2).1, (hw.1.2.1 t h1 (by have : t < M 1 2 := h2; omega)).2⟩, (hw.2.2.2 t h1 h2).2⟩, fun t i h1 h2 h3 h4 => ?_, hw.2.1.1, hw.2.2.1⟩
  have h2 : t < M 1 2 := h2
  have h4 : i < M 3 t := h4
  have := hw.1.2.1 t h1 (by omega)
  exact hw.1.2.2 (t * 6 + i) (by omega) (by omega)
theorem mS_c {S : dS} : ((mS S : Nat) : Int) = sS S.2.2.1 S.2.1 S.1.toNat := Int.toNat_of_nonneg (sS_0 _ _ _)
theorem mS_4 {S : dS} (h : wfS S) : mS S ≤ 4 := by
  have := h.2.2.2.2
  have := mS_c (S := S)
  omega
theorem Pl_sil {S : dS} {A off : Int → Int} {t i : Int} (h : S.2.2.1 (t * 6 + i) = -1) : Pl S A off t i = A (off t + cS S.2.2.1 (t * 6) i.toNat) := by unfold Pl; rw [if_pos h]
theorem Pl_nm {S : dS} {A off : Int → Int} {t i : Int} (h : S.2.2.1 (t * 6 + i) ≠ -1) : Pl S A off t i = S.2.2.2 (S.2.2.1 (t * 6 + i)) := by unfold Pl; rw [if_neg h]
theorem sil_m {S : dS} {t i : Int} (ht : 0 ≤ t ∧ t < S.1) (hi : 0 ≤ i ∧ i < S.2.1 t) (h : S.2.2.1 (t * 6 + i) = -1) : 0 ≤ offS S t + cS S.2.2.1 (t * 6) i.toNat ∧ offS S t + cS S.2.2.1 (t * 6) i.toNat < mS S := by
  rw [mS_c]
  exact sil_lt ht hi h
theorem Pl_congr {S : dS} {A B : Int → Int} (h : ∀ s, 0 ≤ s → s < (mS S : Int) → A s = B s) {t i : Int} (ht : 0 ≤ t ∧ t < S.1) (hi : 0 ≤ i ∧ i < S.2.1 t) : Pl S A (offS S) t i = Pl S B (offS S) t i := by
  by_cases hs : S.2.2.1 (t * 6 + i) = -1
  · rw [Pl_sil hs, Pl_sil hs]
    have := sil_m ht hi hs
    exact h _ this.1 this.2
  · rw [Pl_nm hs, Pl_nm hs]
theorem FT_map {S : dS} {q : Int → Prop} {pl pl' : Int → Int → Int} (f : Int → Int) (h : ∀ t i, 0 ≤ t → t < S.1 → q t → 0 ≤ i → i < S.2.1 t → pl' t i = f (pl t i)) (hF : FT S q pl') : FT S q pl := by
  refine ⟨fun t h1 h2 h3 i j a b c e => ?_, fun t h1 h2 h3 k hk hw => ?_⟩
  · refine hF.1 t h1 h2 h3 i j a b c ?_
    rw [h t i h1 h2 h3 a (by omega), h t j h1 h2 h3 (by omega) c, e]
  · refine hF.2 t h1 h2 h3 k hk ?_
    rw [h t 0 h1 h2 h3 (by omega) (by omega), h t _ h1 h2 h3 (by omega) (by omega)]
    refine wk_map (fun x y hxy => ?_) k _ _ hw
    obtain ⟨u, hu, qu, i, b1, b2, b3⟩ := hxy
    refine ⟨u, hu, qu, i, b1, b2, ?_⟩
    rw [h u i hu.1 hu.2 qu b1 (by omega), h u (i + 1) hu.1 hu.2 qu (by omega) b2]
    rcases b3 with ⟨c1, c2⟩ | ⟨c1, c2⟩
    · exact Or.inl ⟨by rw [c1], by rw [c2]⟩
    · exact Or.inr ⟨by rw [c1], by rw [c2]⟩
/-- looser assignments FIT where tighter ones do -/
theorem FT_loose {S : dS} (hw : wfS S) {q : Int → Prop} {A B off off' : Int → Int} (h : ∀ t i, 0 ≤ t → t < S.1 → q t → 0 ≤ i → i < S.2.1 t → S.2.2.1 (t * 6 + i) = -1 → (Pl S A off t i < 6 → Pl S B off' t i = Pl S A off t i) ∧ ∀ u j, 0 ≤ u → u < S.1 → q u → 0 ≤ j → j < S.2.1 u → S.2.2.1 (u * 6 + j) = -1 → Pl S A off t i = Pl S A off u j → Pl S B off' t i = Pl S B off' u j) (hF : FT S q (Pl S B off')) : FT S q (Pl S A off) := by
  let P : Int → Int → Prop := fun x y => ∃ t i : Int, 0 ≤ t ∧ t < S.1 ∧ q t ∧ 0 ≤ i ∧ i < S.2.1 t ∧ S.2.2.1 (t * 6 + i) = -1 ∧ Pl S A off t i = x ∧ Pl S B off' t i = y
  refine FT_map (fun x => if x < 6 then x else @dite _ (∃ y, P x y) (Classical.propDecidable _) (fun h => h.choose) (fun _ => x)) (fun t i h1 h2 h3 h4 h5 => ?_) hF
  by_cases hs : S.2.2.1 (t * 6 + i) = -1
  · by_cases h6 : Pl S A off t i < 6
    · rw [if_pos h6]
      exact (h t i h1 h2 h3 h4 h5 hs).1 h6
    · rw [if_neg h6]
      have hex : ∃ y, P (Pl S A off t i) y := ⟨_, t, i, h1, h2, h3, h4, h5, hs, rfl, rfl⟩
      rw [dif_pos hex]
      obtain ⟨u, j, a1, a2, a3, a4, a5, a6, a7, a8⟩ := hex.choose_spec
      rw [← a8]
      exact (h t i h1 h2 h3 h4 h5 hs).2 u j a1 a2 a3 a4 a5 a6 a7.symm
  · have hh := hw.2.2.1 t i h1 h2 h4 h5
    have hb := hw.2.2.2.1 (S.2.2.1 (t * 6 + i)) (by omega) (by omega)
    rw [Pl_nm hs, Pl_nm hs, if_pos (by omega)]
theorem cS_ex {f : Int → Int} {b : Int} : ∀ (k : Nat) (s : Int), 0 ≤ s → s < cS f b k → ∃ i : Nat, i < k ∧ f (b + (i : Int)) = -1 ∧ cS f b i = s := by
  intro k
  induction k with
  | zero => intro s h1 h2; simp [cS] at h2; omega
  | succ k ih =>
    intro s h1 h2
    by_cases h : s < cS f b k
    · obtain ⟨i, a, b, c⟩ := ih s h1 h
      exact ⟨i, by omega, b, c⟩
    · simp only [cS] at h2
      split at h2
      · rename_i hs
        exact ⟨k, by omega, hs, by omega⟩
      · omega
theorem sS_ex {f g : Int → Int} : ∀ (k : Nat) (s : Int), 0 ≤ s → s < sS f g k → ∃ t i : Nat, t < k ∧ i < (g t).toNat ∧ f ((t : Int) * 6 + (i : Int)) = -1 ∧ sS f g t + cS f ((t : Int) * 6) i = s := by
  intro k
  induction k with
  | zero => intro s h1 h2; simp [sS] at h2; omega
  | succ k ih =>
    intro s h1 h2
    by_cases h : s < sS f g k
    · obtain ⟨t, i, a, b, c⟩ := ih s h1 h
      exact ⟨t, i, by omega, b, c⟩
    · simp only [sS] at h2
      obtain ⟨i, a, b, c⟩ := cS_ex (f := f) (b := (k : Int) * 6) (g k).toNat (s - sS f g k) (by omega) (by omega)
      exact ⟨k, i, by omega, a, b, by omega⟩
/-- two NAME boxes that a SILENT HOP can't have -/
theorem forb {S : dS} (hw : wfS S) : ∀ s, s < mS S → ∃ x y : Nat, x < 6 ∧ y < 6 ∧ x ≠ y ∧ ∀ A : List Int, A.length = mS S → Fit S A → A[s]? ≠ some (x : Int) ∧ A[s]? ≠ some (y : Int) := by
  intro s hs
  obtain ⟨t, i, h1, h2, h3, h4⟩ := sS_ex (f := S.2.2.1) (g := S.2.1) S.1.toNat s (by omega) (by rw [← mS_c]; omega)
  have ht : 0 ≤ (t : Int) ∧ (t : Int) < S.1 := ⟨by omega, by omega⟩
  obtain ⟨l1, l2, l3⟩ := hw.2.1 t ht.1 ht.2
  have hi : 0 ≤ (i : Int) ∧ (i : Int) < S.2.1 t := ⟨by omega, by omega⟩
  have a1 := hw.2.2.1 t 0 ht.1 ht.2 (by omega) (by omega)
  rw [Int.add_zero] at a1
  have a2 := hw.2.2.1 t (S.2.1 t - 1) ht.1 ht.2 (by omega) (by omega)
  have b1 := hw.2.2.2.1 (S.2.2.1 (t * 6)) (by omega) (by omega)
  have b2 := hw.2.2.2.1 (S.2.2.1 (t * 6 + (S.2.1 t - 1))) (by omega) (by omega)
  have e0 : ∀ A, plL S A t 0 = S.2.2.2 (S.2.2.1 (t * 6)) := fun A => by
    have := Pl_nm (S := S) (A := lkA A) (off := offS S) (t := t) (i := 0) (by rw [Int.add_zero]; exact l2)
    rw [Int.add_zero] at this
    exact this
  have e1 : ∀ A, plL S A t (S.2.1 t - 1) = S.2.2.2 (S.2.2.1 (t * 6 + (S.2.1 t - 1))) := fun A => Pl_nm l3
  have es : ∀ A, plL S A t i = lkA A s := fun A => by
    have := Pl_sil (S := S) (A := lkA A) (off := offS S) (t := t) (i := i) h3
    rw [show offS S t + cS S.2.2.1 ((t : Int) * 6) ((i : Int)).toNat = s by unfold offS; simp only [Int.toNat_natCast]; exact h4] at this
    exact this
  have i0 : (i : Int) ≠ 0 := fun z => l2 (by rw [z, Int.add_zero] at h3; exact h3)
  have i1 : (i : Int) ≠ S.2.1 t - 1 := fun z => l3 (by rw [z] at h3; exact h3)
  by_cases hxy : S.2.2.2 (S.2.2.1 (t * 6)) = S.2.2.2 (S.2.2.1 (t * 6 + (S.2.1 t - 1)))
  · refine ⟨0, 1, by omega, by omega, by omega, fun A _ hF => ?_⟩
    exact (hF.1 t ht.1 ht.2 trivial 0 (S.2.1 t - 1) (by omega) (by omega) (by omega) (by rw [e0, e1]; exact hxy)).elim
  · refine ⟨(S.2.2.2 (S.2.2.1 (t * 6))).toNat, (S.2.2.2 (S.2.2.1 (t * 6 + (S.2.1 t - 1)))).toNat, by omega, by omega, by omega, fun A hA hF => ⟨fun e => ?_, fun e => ?_⟩⟩
    · have q : lkA A s = S.2.2.2 (S.2.2.1 (t * 6)) := by
        unfold lkA
        rw [Int.toNat_natCast, List.getD_eq_getElem?_getD, e, Option.getD_some, Int.toNat_of_nonneg b1.1]
      exact hF.1 t ht.1 ht.2 trivial 0 i (by omega) (by omega) (by omega) (by rw [e0, es, q])
    · have q : lkA A s = S.2.2.2 (S.2.2.1 (t * 6 + (S.2.1 t - 1))) := by
        unfold lkA
        rw [Int.toNat_natCast, List.getD_eq_getElem?_getD, e, Option.getD_some, Int.toNat_of_nonneg b2.1]
      exact hF.1 t ht.1 ht.2 trivial i (S.2.1 t - 1) (by omega) (by omega) (by omega) (by rw [e1, es, q])
theorem tb_all {n t : Int} (hn : 0 ≤ n) (ht : 0 ≤ t) : tb (((2 ^ n.toNat : Nat) : Int) - 1) t ↔ t < n := by
  have hp := Nat.two_pow_pos n.toNat
  unfold tb
  rw [show (((2 ^ n.toNat : Nat) : Int) - 1).toNat = 2 ^ n.toNat - 1 by omega, Nat.testBit_two_pow_sub_one, decide_eq_true_eq]
  omega
theorem all_b {n : Int} (hn : 0 ≤ n ∧ n ≤ 6) : 0 ≤ ((2 ^ n.toNat : Nat) : Int) - 1 ∧ ((2 ^ n.toNat : Nat) : Int) - 1 < 64 := by
  have hp := Nat.two_pow_pos n.toNat
  have h2 : 2 ^ n.toNat ≤ 2 ^ 6 := Nat.pow_le_pow_right (by omega) (by omega)
  omega
def f_X1_takeUp (x : Int) (M : xM) (Post : xR) : Prop := wS M ∧ (0 ≤ x ∧ x < 65536) ∧ (∀ s, 0 ≤ s → s < 4 → bxc x s < 10) ∧ FT (SX M) all0 (Pl (SX M) (bxc x) (offS (SX M))) ∧ ∀ M' : xM, (∀ c, c ≠ 8 → c ≠ 9 → M' c = M c) → (∀ s, 0 ≤ s → s < 4 → M' 8 s = bxc x s) → JN M' (Adj (SX M) all0 (Pl (SX M) (bxc x) (offS (SX M)))) → Post 0 M'
theorem bxc_0 {x s : Int} : 0 ≤ bxc x s := by unfold bxc; exact Int.emod_nonneg _ (by decide)
abbrev sp_X1_takeUp : xT := spV1 7 f_X1_takeUp
set_option maxRecDepth 100000 in
set_option maxHeartbeats 4000000 in
theorem b_X1_takeUp (as : List xV) (M : xM) (Post : xR) (h : sp_X1_takeUp as M Post) : as.length ≤ 3 ∧ ∃ (Inv : xG) (μ : Nat → xL → List xV → xM → Nat) (f0 f1 : Nat), xw LX fldX1 (calX1_takeUp sp_X5_boxIn sp_X2_all sp_X1_fits) [] 0 Post iX1_takeUp cutX1_takeUp Inv f0 0 (xlv as 3) [] M ∧ ∀ pc lv st M', Inv pc lv st M' → xw LX fldX1 (calX1_takeUp sp_X5_boxIn sp_X2_all sp_X1_fits) [] 0 Post iX1_takeUp cutX1_takeUp (fun pc2 lv2 st2 M2 => Inv pc2 lv2 st2 M2 ∧ μ pc2 lv2 st2 M2 < μ pc lv st M') f1 pc lv st M' := by
  obtain ⟨v1, rfl, h⟩ := h
  refine ⟨by simp, (fun pc lv st N => ∃ (i : Int), pc = 2 ∧ lv = [some (.inr 7), some (.inl v1), some (.inl i)] ∧ st = [] ∧ (0 ≤ i ∧ i ≤ 4) ∧ (∀ c, c ≠ 8 → N c = M c) ∧ ∀ s, 0 ≤ s → s < i → N 8 s = bxc v1 s), (fun pc lv st N => match lv with | [_, _, some (.inl i)] => (10 - i).toNat | _ => 0), 400, 400, Eq.mpr (vcX1_takeUp_0 ..) ?_, ?_⟩
  · exact ⟨0, rfl, rfl, rfl, by omega, fun _ _ => rfl, fun s _ _ => by omega⟩
  · obtain ⟨hw, hx, hb, hF, hp⟩ := h
    rintro pc lv st N ⟨i, rfl, rfl, rfl, h1, h2, h3⟩
    have e1 : N 1 = M 1 := h2 1 (by decide)
    have e2 : N 2 = M 2 := h2 2 (by decide)
    have e3 : N 3 = M 3 := h2 3 (by decide)
    have e5 : N 5 = M 5 := h2 5 (by decide)
    have e6 : N 6 = M 6 := h2 6 (by decide)
    have hwN : wS N := by rw [wS_eq e1 e2 e3 e5 e6]; exact hw
    have eS : SX N = SX M := SX_eq e1 e2 e3 e5
    refine Eq.mpr (vcX1_takeUp_2 ..) ?_
    refine ⟨⟨by omega, by omega⟩, ⟨by omega, by omega⟩, fun q => ⟨rfl, ⟨by rw [e1]; exact hw.1.1.1, by rw [e1]; exact hw.1.1.2⟩, _, rfl, hwN, ?_, ?_, fun r M2 g1 g2 g3 => ?_⟩, fun q => ⟨_, _, rfl, hx, ⟨by omega, by omega⟩, ⟨by omega, by omega⟩, ⟨i + 1, rfl, rfl, rfl, by omega, fun c hc => by rw [xup_ne hc]; exact h2 c hc, fun s a1 a2 => ?_⟩, by (change Int.toNat _ < Int.toNat _); omega⟩⟩
    · intro s a1 a2
      rw [h3 s a1 (by omega)]
      exact ⟨bxc_0, hb s a1 a2⟩
    · rw [e1]; exact all_b hw.1.1
    · have hq : ∀ t, 0 ≤ t → t < (SX M).1 → (tb (((2 ^ (N 1 2).toNat : Nat) : Int) - 1) t ↔ all0 t) := fun t a1 a2 => by
        rw [e1, tb_all hw.1.1.1 a1]
        exact ⟨fun _ => trivial, fun _ => a2⟩
      have hpl : ∀ t i, 0 ≤ t → t < (SX M).1 → 0 ≤ i → i < (SX M).2.1 t → plX N t i = Pl (SX M) (bxc v1) (offS (SX M)) t i := fun t j a1 a2 a3 a4 => by
        have : plX N t j = Pl (SX M) (N 8) (offS (SX M)) t j := by
          show Pl (SX N) (N 8) (offS (SX N)) t j = _
          rw [eS]
        rw [this]
        refine Pl_congr (fun s b1 b2 => h3 s b1 ?_) ⟨a1, a2⟩ ⟨a3, a4⟩
        have := mS_4 (wfS_of hw)
        omega
      rw [eS] at g3
      have hFN : FT (SX M) (tb (((2 ^ (N 1 2).toNat : Nat) : Int) - 1)) (plX N) := (FT_iff rfl (fun _ _ _ => rfl) hq hpl).mpr hF
      rcases g3 with ⟨-, -, g3⟩ | ⟨-, g3⟩
      · refine hp M2 (fun c q1 q2 => by rw [g1 c q2]; exact h2 c q1) (fun s a1 a2 => by rw [g1 8 (by decide)]; exact h3 s a1 (by omega)) ⟨g3.1, fun x y a1 a2 a3 a4 => ?_⟩
        rw [g3.2 x y a1 a2 a3 a4]
        exact Adj_iff rfl (fun _ _ _ => rfl) hq hpl x y
      · exact (g3 hFN).elim
    · rw [xup_at]
      by_cases hs : s = i
      · rw [if_pos hs, hs]
      · rw [if_neg hs]; exact h3 s a1 (by omega)
theorem k_X1_takeUp {l : Launch} {D : va_G} {T : Nat → ClassId} {ad : Nat → Nat} (hO : xOk ad LX) : xMet l D T ad LX yX1_takeUp cX1_takeUp 3 none true 4 sp_X1_takeUp :=
  xmet (rt := 0) (fld := fldX1) (cals := (calX1_takeUp sp_X5_boxIn sp_X2_all sp_X1_fits)) (cst := []) (I := iX1_takeUp) (cut := cutX1_takeUp) hO (by decide +kernel) ⟨by decide, by decide, by decide⟩ oX1_takeUp foX1 (fun _ h => absurd h List.not_mem_nil) (List.forall_mem_cons.mpr ⟨⟨yX5_boxIn, cX5_boxIn, 2, (some .int), 0, 2, by decide, yoX5_boxIn, k_X5_boxIn hO, loX1_36, Or.inl ⟨rfl, rfl⟩⟩, List.forall_mem_cons.mpr ⟨⟨yX2_all, cX2_all, 1, (some .int), 0, 0, by decide, yoX2_all, k_X2_all hO, loX1_39, Or.inr ⟨rfl, rfl, 1, 2, [some 2, some 3, none], TX2, 3, rfl, rfl, spV0_r⟩⟩, List.forall_mem_cons.mpr ⟨⟨yX1_fits, cX1_fits, 4, (some .boolean), 3, 1, by decide, yoX1_fits, k_X1_fits hO, loX1_45, Or.inr ⟨rfl, rfl, 7, 1, [some 1, some 4, some 8, some 9], TX1, 4, rfl, rfl, spV1_r⟩⟩, fun _ h => absurd h List.not_mem_nil⟩⟩⟩) b_X1_takeUp
def f_X0_someFits (s : Int) (M : xM) (Post : xR) : Prop := wS M ∧ (0 ≤ s ∧ s < 64) ∧ ∀ (r : Int) (M' : xM), (∀ c, c ≠ 8 → c ≠ 9 → M' c = M c) → (∀ j, 0 ≤ j → j < 4 → M' 8 j = 6 + j) → (r = 1 ∧ FT (SX M) (tb s) (plX M') ∧ JN M' (Adj (SX M) (tb s) (plX M')) ∨ r = 0 ∧ ¬ FT (SX M) (tb s) (plX M')) → Post r M'
abbrev sp_X0_someFits : xT := spV1 10 f_X0_someFits
set_option maxRecDepth 100000 in
set_option maxHeartbeats 4000000 in
theorem b_X0_someFits (as : List xV) (M : xM) (Post : xR) (h : sp_X0_someFits as M Post) : as.length ≤ 2 ∧ xw LX fldX0 (calX0_someFits sp_X1_loosen sp_X1_fits) [] 2 Post iX0_someFits cutX0_someFits (fun _ _ _ _ => False) 400 0 (xlv as 2) [] M := by
  obtain ⟨v1, rfl, h⟩ := h
  refine ⟨by simp, ?_⟩
  refine Eq.mpr (vcX0_someFits_0 ..) ?_
  obtain ⟨hw, hs, hp⟩ := h
  refine ⟨_, _, rfl, ⟨by omega, by omega⟩, fun N g1 g2 g3 => ?_⟩
  have e1 : N 1 = M 1 := g1 1 (by decide)
  have e2 : N 2 = M 2 := g1 2 (by decide)
  have e3 : N 3 = M 3 := g1 3 (by decide)
  have e5 : N 5 = M 5 := g1 5 (by decide)
  have e6 : N 6 = M 6 := g1 6 (by decide)
  have hwN : wS N := by rw [wS_eq e1 e2 e3 e5 e6]; exact hw
  have eS : SX N = SX M := SX_eq e1 e2 e3 e5
  refine ⟨_, rfl, hwN, fun j a1 a2 => by rw [g3 j a1 a2]; omega, hs, fun r M2 k1 k2 k3 => ?_⟩
  have ePl : plX M2 = plX N := plX_eq (k1 1 (by decide)) (k1 2 (by decide)) (k1 3 (by decide)) (k1 5 (by decide)) (k1 8 (by decide))
  rw [eS, ← ePl] at k3
  refine ⟨by omega, hp r M2 (fun c q1 q2 => by rw [k1 c q2]; exact g1 c q1) (fun j a1 a2 => by rw [k1 8 (by decide), g3 j a1 a2]; omega) k3⟩
theorem k_X0_someFits {l : Launch} {D : va_G} {T : Nat → ClassId} {ad : Nat → Nat} (hO : xOk ad LX) : xMet l D T ad LX yX0_someFits cX0_someFits 2 (some .boolean) false 4 sp_X0_someFits :=
  xmet0 (rt := 2) (fld := fldX0) (cals := (calX0_someFits sp_X1_loosen sp_X1_fits)) (cst := []) (I := iX0_someFits) (cut := cutX0_someFits) hO (by decide +kernel) ⟨by decide, by decide, by decide⟩ oX0_someFits foX0 (fun _ h => absurd h List.not_mem_nil) (List.forall_mem_cons.mpr ⟨⟨yX1_loosen, cX1_loosen, 4, none, 1, 2, by decide, yoX1_loosen, k_X1_loosen hO, loX0_72, Or.inr ⟨rfl, rfl, 7, 1, [some 1, some 4, some 8, some 9], TX1, 4, rfl, rfl, spV2_r⟩⟩, List.forall_mem_cons.mpr ⟨⟨yX1_fits, cX1_fits, 4, (some .boolean), 3, 1, by decide, yoX1_fits, k_X1_fits hO, loX0_78, Or.inr ⟨rfl, rfl, 7, 1, [some 1, some 4, some 8, some 9], TX1, 4, rfl, rfl, spV1_r⟩⟩, fun _ h => absurd h List.not_mem_nil⟩⟩) b_X0_someFits
end
section
/-! LeastNets, but for seek and many -/
def f_X0_forgetFound (M : xM) (Post : xR) : Prop := Post 0 (xup M 10 4 0)
abbrev sp_X0_forgetFound : xT := spV0 10 f_X0_forgetFound
set_option maxRecDepth 100000 in
set_option maxHeartbeats 4000000 in
theorem b_X0_forgetFound (as : List xV) (M : xM) (Post : xR) (h : sp_X0_forgetFound as M Post) : as.length ≤ 1 ∧ xw LX fldX0 calX0_forgetFound [] 0 Post iX0_forgetFound cutX0_forgetFound (fun _ _ _ _ => False) 400 0 (xlv as 1) [] M := by
  obtain ⟨rfl, h⟩ := h
  refine ⟨by simp, ?_⟩
  refine Eq.mpr (vcX0_forgetFound_0 ..) ?_
  exact ⟨by omega, h⟩
theorem k_X0_forgetFound {l : Launch} {D : va_G} {T : Nat → ClassId} {ad : Nat → Nat} (hO : xOk ad LX) : xMet l D T ad LX yX0_forgetFound cX0_forgetFound 1 none true 0 sp_X0_forgetFound :=
  xmet0 (rt := 0) (fld := fldX0) (cals := calX0_forgetFound) (cst := []) (I := iX0_forgetFound) (cut := cutX0_forgetFound) hO (by decide +kernel) ⟨by decide, by decide, by decide⟩ oX0_forgetFound foX0 (fun _ h => absurd h List.not_mem_nil) (fun _ h => absurd h List.not_mem_nil) b_X0_forgetFound
def f_X0_newBoxes (M : xM) (Post : xR) : Prop := Post (M 10 6) M
abbrev sp_X0_newBoxes : xT := spV0 10 f_X0_newBoxes
set_option maxRecDepth 100000 in
set_option maxHeartbeats 4000000 in
theorem b_X0_newBoxes (as : List xV) (M : xM) (Post : xR) (h : sp_X0_newBoxes as M Post) : as.length ≤ 1 ∧ xw LX fldX0 calX0_newBoxes [] 1 Post iX0_newBoxes cutX0_newBoxes (fun _ _ _ _ => False) 400 0 (xlv as 1) [] M := by
  obtain ⟨rfl, h⟩ := h
  refine ⟨by simp, ?_⟩
  refine Eq.mpr (vcX0_newBoxes_0 ..) ?_
  exact h
theorem k_X0_newBoxes {l : Launch} {D : va_G} {T : Nat → ClassId} {ad : Nat → Nat} (hO : xOk ad LX) : xMet l D T ad LX yX0_newBoxes cX0_newBoxes 1 (some .int) false 0 sp_X0_newBoxes :=
  xmet0 (rt := 1) (fld := fldX0) (cals := calX0_newBoxes) (cst := []) (I := iX0_newBoxes) (cut := cutX0_newBoxes) hO (by decide +kernel) ⟨by decide, by decide, by decide⟩ oX0_newBoxes foX0 (fun _ h => absurd h List.not_mem_nil) (fun _ h => absurd h List.not_mem_nil) b_X0_newBoxes
def f_X0_lines (M : xM) (Post : xR) : Prop := Post (M 10 7) M
abbrev sp_X0_lines : xT := spV0 10 f_X0_lines
set_option maxRecDepth 100000 in
set_option maxHeartbeats 4000000 in
theorem b_X0_lines (as : List xV) (M : xM) (Post : xR) (h : sp_X0_lines as M Post) : as.length ≤ 1 ∧ xw LX fldX0 calX0_lines [] 1 Post iX0_lines cutX0_lines (fun _ _ _ _ => False) 400 0 (xlv as 1) [] M := by
  obtain ⟨rfl, h⟩ := h
  refine ⟨by simp, ?_⟩
  refine Eq.mpr (vcX0_lines_0 ..) ?_
  exact h
theorem k_X0_lines {l : Launch} {D : va_G} {T : Nat → ClassId} {ad : Nat → Nat} (hO : xOk ad LX) : xMet l D T ad LX yX0_lines cX0_lines 1 (some .int) false 0 sp_X0_lines :=
  xmet0 (rt := 1) (fld := fldX0) (cals := calX0_lines) (cst := []) (I := iX0_lines) (cut := cutX0_lines) hO (by decide +kernel) ⟨by decide, by decide, by decide⟩ oX0_lines foX0 (fun _ h => absurd h List.not_mem_nil) (fun _ h => absurd h List.not_mem_nil) b_X0_lines
def f_X0_code (k : Int) (M : xM) (Post : xR) : Prop := (0 ≤ k ∧ k < 512) ∧ Post (M 11 k) M
abbrev sp_X0_code : xT := spV1 10 f_X0_code
set_option maxRecDepth 100000 in
set_option maxHeartbeats 4000000 in
theorem b_X0_code (as : List xV) (M : xM) (Post : xR) (h : sp_X0_code as M Post) : as.length ≤ 2 ∧ xw LX fldX0 calX0_code [] 1 Post iX0_code cutX0_code (fun _ _ _ _ => False) 400 0 (xlv as 2) [] M := by
  obtain ⟨v1, rfl, h⟩ := h
  refine ⟨by simp, ?_⟩
  refine Eq.mpr (vcX0_code_0 ..) ?_
  obtain ⟨h0, hp⟩ := h
  simp only [rg]
  grind
theorem k_X0_code {l : Launch} {D : va_G} {T : Nat → ClassId} {ad : Nat → Nat} (hO : xOk ad LX) : xMet l D T ad LX yX0_code cX0_code 2 (some .int) false 0 sp_X0_code :=
  xmet0 (rt := 1) (fld := fldX0) (cals := calX0_code) (cst := []) (I := iX0_code) (cut := cutX0_code) hO (by decide +kernel) ⟨by decide, by decide, by decide⟩ oX0_code foX0 (fun _ h => absurd h List.not_mem_nil) (fun _ h => absurd h List.not_mem_nil) b_X0_code
def f_X0_mayTake (a b : Int) (M : xM) (Post : xR) : Prop := (0 ≤ a ∧ a < 10) ∧ rg b ∧ rg (M 10 6) ∧ (0 ≤ M 10 9 ∧ M 10 9 < 64) ∧ ∀ r, (r = 1 ∧ (b ≤ M 10 6 ∧ (6 ≤ a ∨ a < 6 ∧ tb (M 10 9) a)) ∨ r = 0 ∧ (M 10 6 < b ∨ a < 6 ∧ ¬ tb (M 10 9) a)) → Post r M
abbrev sp_X0_mayTake : xT := spV2 10 f_X0_mayTake
set_option maxRecDepth 100000 in
set_option maxHeartbeats 4000000 in
theorem b_X0_mayTake (as : List xV) (M : xM) (Post : xR) (h : sp_X0_mayTake as M Post) : as.length ≤ 3 ∧ xw LX fldX0 (calX0_mayTake sp_X5_hasBit) [] 2 Post iX0_mayTake cutX0_mayTake (fun _ _ _ _ => False) 400 0 (xlv as 3) [] M := by
  obtain ⟨v1, v2, rfl, h⟩ := h
  refine ⟨by simp, ?_⟩
  refine Eq.mpr (vcX0_mayTake_0 ..) ?_
  obtain ⟨ha, hb, hc, hd, hp⟩ := h
  refine ⟨hb, hc, fun q => ⟨by omega, hp 0 (Or.inr ⟨rfl, Or.inl q⟩)⟩, fun q => ⟨⟨by omega, by omega⟩, ⟨by omega, by omega⟩, fun q1 => ⟨by omega, hp 1 (Or.inl ⟨rfl, q, Or.inl q1⟩)⟩, fun q1 => ⟨_, _, rfl, ⟨by omega, by omega⟩, ⟨by omega, by omega⟩, fun r hr => ⟨⟨by omega, by omega⟩, fun q2 => ⟨by omega, hp 0 (Or.inr ⟨rfl, Or.inr ⟨q1, ?_⟩⟩)⟩, fun q2 => ⟨by omega, hp 1 (Or.inl ⟨rfl, q, Or.inr ⟨q1, ?_⟩⟩)⟩⟩⟩⟩⟩
  · rcases hr with ⟨a, _⟩ | ⟨_, a⟩
    · omega
    · exact a
  · rcases hr with ⟨_, a⟩ | ⟨a, _⟩
    · exact a
    · omega
theorem k_X0_mayTake {l : Launch} {D : va_G} {T : Nat → ClassId} {ad : Nat → Nat} (hO : xOk ad LX) : xMet l D T ad LX yX0_mayTake cX0_mayTake 3 (some .boolean) false 1 sp_X0_mayTake :=
  xmet0 (rt := 2) (fld := fldX0) (cals := (calX0_mayTake sp_X5_hasBit)) (cst := []) (I := iX0_mayTake) (cut := cutX0_mayTake) hO (by decide +kernel) ⟨by decide, by decide, by decide⟩ oX0_mayTake foX0 (fun _ h => absurd h List.not_mem_nil) (List.forall_mem_cons.mpr ⟨⟨yX5_hasBit, cX5_hasBit, 2, (some .boolean), 0, 2, by decide, yoX5_hasBit, k_X5_hasBit hO, loX0_93, Or.inl ⟨rfl, rfl⟩⟩, fun _ h => absurd h List.not_mem_nil⟩) b_X0_mayTake
/-- the class's memory holds this state of the search -/
def stO (M : xM) (S : dS) (s : lSt) : Prop := M 10 6 = s.1 ∧ M 10 7 = s.2.1 ∧ M 10 5 = s.2.2.length ∧ ∀ (j : Nat) (A : List Int), s.2.2[j]? = some A → (0 ≤ M 11 j ∧ M 11 j < 65536) ∧ (∀ u, 0 ≤ u → u < 4 → bxc (M 11 j) u < 10) ∧ ∀ u, 0 ≤ u → u < (mS S : Int) → bxc (M 11 j) u = lkA A u
theorem stO_eq {M N : xM} {S : dS} {s : lSt} (h10 : N 10 = M 10) (h11 : N 11 = M 11) : stO N S s = stO M S s := by simp only [stO, h10, h11]
theorem LnT_sym {S : dS} {pl : Int → Int → Int} {t a b : Int} (h : LnT S pl t a b) : LnT S pl t b a := by
  obtain ⟨i, h1, h2, h3⟩ := h
  exact ⟨i, h1, h2, h3.symm⟩
theorem Adj_sym {S : dS} {q : Int → Prop} {pl : Int → Int → Int} (x y : Int) (h : Adj S q pl x y) : Adj S q pl y x := by
  obtain ⟨t, h1, h2, h3⟩ := h
  exact ⟨t, h1, h2, LnT_sym h3⟩
theorem Adj_irr {S : dS} {q : Int → Prop} {pl : Int → Int → Int} (hF : FT S q pl) (x : Int) : ¬ Adj S q pl x x := by
  rintro ⟨t, h1, h2, i, a1, a2, a3⟩
  refine hF.1 t h1.1 h1.2 h2 i (i + 1) a1 (by omega) a2 ?_
  rcases a3 with ⟨b1, b2⟩ | ⟨b1, b2⟩ <;> rw [b1, b2]
theorem plX_L {M : xM} (hw : wS M) {A : List Int} (h : ∀ s, 0 ≤ s → s < (mS (SX M) : Int) → M 8 s = lkA A s) : ∀ t i, 0 ≤ t → t < (SX M).1 → 0 ≤ i → i < (SX M).2.1 t → plX M t i = plL (SX M) A t i := fun t i h1 h2 h3 h4 => Pl_congr h ⟨h1, h2⟩ ⟨h3, h4⟩
theorem stp_1 {Fit : List Int → Prop} {nl : List Int → Nat} {s : lSt} {A : List Int} (h1 : s.1 ≤ 4) (h2 : s.2.1 ≤ 100) (h3 : nl A ≤ 45) : (stp Fit nl s A).1 ≤ 4 ∧ (stp Fit nl s A).2.1 ≤ 100 := by
  by_cases hc : Fit A ∧ (nwL A 0 < s.1 ∨ nwL A 0 = s.1 ∧ nl A ≤ s.2.1)
  · rw [stp_yes hc]
    split
    · constructor
      · show nwL A 0 ≤ 4; omega
      · show nl A ≤ 100; omega
    · exact ⟨h1, h2⟩
  · rw [stp_no hc]; exact ⟨h1, h2⟩
theorem fold_1 {S : dS} : ∀ (l : List (List Int)) (s : lSt), s.1 ≤ 4 → s.2.1 ≤ 100 → (l.foldl (stp (Fit S) (nlL S)) s).1 ≤ 4 ∧ (l.foldl (stp (Fit S) (nlL S)) s).2.1 ≤ 100 := by
  intro l
  induction l with
  | nil => intro s h1 h2; exact ⟨h1, h2⟩
  | cons A l ih =>
    intro s h1 h2
    rw [List.foldl_cons]
    have := stp_1 (Fit := Fit S) (nl := nlL S) (A := A) h1 h2 (nLn_le _)
    exact ih _ this.1 this.2
def f_X0_keep (nw : Int) (M : xM) (Post : xR) : Prop := ∃ (A : List Int) (s : lSt), wS M ∧ wA M ∧ (∀ u, 0 ≤ u → u < (mS (SX M) : Int) → M 8 u = lkA A u) ∧ FT (SX M) all0 (plX M) ∧ JN M (Adj (SX M) all0 (plX M)) ∧ nw = (nwL A 0 : Nat) ∧ nwL A 0 ≤ 4 ∧ stO M (SX M) s ∧ s.1 ≤ 4 ∧ s.2.1 ≤ 100 ∧ s.2.2.length < 512 ∧ ∀ M' : xM, (∀ c, c ≠ 10 → c ≠ 11 → M' c = M c) → M' 10 4 = M 10 4 → M' 10 8 = M 10 8 → M' 10 9 = M 10 9 → stO M' (SX M) (stp (Fit (SX M)) (nlL (SX M)) s A) → Post 0 M'
abbrev sp_X0_keep : xT := spV1 10 f_X0_keep
set_option maxRecDepth 100000 in
set_option maxHeartbeats 4000000 in
theorem b_X0_keep (as : List xV) (M : xM) (Post : xR) (h : sp_X0_keep as M Post) : as.length ≤ 3 ∧ xw LX fldX0 (calX0_keep sp_X1_lines sp_X1_code) [] 0 Post iX0_keep cutX0_keep (fun _ _ _ _ => False) 400 0 (xlv as 3) [] M := by
  obtain ⟨v1, rfl, h⟩ := h
  refine ⟨by simp, ?_⟩
  refine Eq.mpr (vcX0_keep_0 ..) ?_
  obtain ⟨A, s, hw, hA, hl, hF, hJ, rfl, hn4, hs, hs1, hs2, hs3, hp⟩ := h
  obtain ⟨c1, c2, c3, c4⟩ := id hs
  have hpl := plX_L hw hl
  have hFit : Fit (SX M) A := (FT_iff rfl (fun _ _ _ => rfl) (fun _ _ _ => Iff.rfl) hpl).mp hF
  have hnl : nLn (Adj (SX M) all0 (plX M)) 10 = nlL (SX M) A := nLn_congr (Adj_iff rfl (fun _ _ _ => rfl) (fun _ _ _ => Iff.rfl) hpl) 10
  have hn45 : nlL (SX M) A ≤ 45 := nLn_le _
  have chain : ∀ M0 : xM, M0 8 = M 8 → (0 ≤ M0 10 5 ∧ M0 10 5 < 512) → (∀ x, 0 ≤ x → x < 65536 → (∀ u, 0 ≤ u → u < 4 → bxc x u = M 8 u) → Post 0 (xup (xup M0 11 (M0 10 5) x) 10 5 ((xup M0 11 (M0 10 5) x) 10 5 + 1))) → (rg (M0 10 5) ∧ rg (512 : Int) ∧ ((512 : Int) ≤ M0 10 5 → Post 0 M0) ∧ (M0 10 5 < (512 : Int) → sp_X1_code [.inr 7] M0 (fun r2 M2 => (0 ≤ M0 10 5 ∧ M0 10 5 < 512) ∧ Post 0 (xup (xup M2 11 (M0 10 5) r2) 10 5 ((xup M2 11 (M0 10 5) r2) 10 5 + (1 : Int)))))) := by
    intro M0 h8 hk hq
    refine ⟨⟨by omega, by omega⟩, ⟨by omega, by omega⟩, fun q => by omega, fun _ => ⟨rfl, fun u a1 a2 => ?_, fun x a1 a2 a3 => ⟨hk, hq x a1 a2 (fun u b1 b2 => by rw [a3 u b1 b2, h8])⟩⟩⟩
    rw [h8]
    have := hA u a1 a2
    omega
  have hno : ¬ (Fit (SX M) A ∧ (nwL A 0 < s.1 ∨ nwL A 0 = s.1 ∧ nlL (SX M) A ≤ s.2.1)) → Post 0 M := fun hc => hp M (fun _ _ _ => rfl) rfl rfl rfl (by rw [stp_no hc]; exact hs)
  have hcode : ∀ x, (∀ u, 0 ≤ u → u < 4 → bxc x u = M 8 u) → (∀ u, 0 ≤ u → u < 4 → bxc x u < 10) ∧ ∀ u, 0 ≤ u → u < (mS (SX M) : Int) → bxc x u = lkA A u := fun x hx => ⟨fun u a1 a2 => by rw [hx u a1 a2]; exact (hA u a1 a2).2, fun u a1 a2 => by
    have := mS_4 (wfS_of hw)
    rw [hx u a1 (by omega)]
    exact hl u a1 a2⟩
  have hres : (nwL A 0 < s.1 ∨ nwL A 0 = s.1 ∧ nlL (SX M) A ≤ s.2.1) → (nwL A 0 < s.1 ∨ nlL (SX M) A < s.2.1) → ∀ x, 0 ≤ x → x < 65536 → (∀ u, 0 ≤ u → u < 4 → bxc x u = M 8 u) → Post 0 (xup (xup (xup (xup (xup M 10 5 0) 10 6 (nwL A 0 : Nat)) 10 7 (nlL (SX M) A : Nat)) 11 ((xup (xup (xup M 10 5 0) 10 6 (nwL A 0 : Nat)) 10 7 (nlL (SX M) A : Nat)) 10 5) x) 10 5 ((xup (xup (xup (xup M 10 5 0) 10 6 (nwL A 0 : Nat)) 10 7 (nlL (SX M) A : Nat)) 11 ((xup (xup (xup M 10 5 0) 10 6 (nwL A 0 : Nat)) 10 7 (nlL (SX M) A : Nat)) 10 5) x) 10 5 + 1)) := by
    intro h1 h2 x a1 a2 a3
    refine hp _ (fun c q1 q2 => by rw [xup_ne q1, xup_ne q2, xup_ne q1, xup_ne q1, xup_ne q1]) (by simp [xup]) (by simp [xup]) (by simp [xup]) ?_
    rw [stp_yes ⟨hFit, h1⟩, if_pos h2]
    refine ⟨by simp [xup], by simp [xup], by simp [xup], fun j B hj => ?_⟩
    have hj0 : j = 0 := by
      have := (List.getElem?_eq_some_iff.mp hj).1
      simp at this
      omega
    subst hj0
    simp at hj
    subst hj
    have e : xup (xup (xup (xup (xup M 10 5 0) 10 6 (nwL A 0 : Nat)) 10 7 (nlL (SX M) A : Nat)) 11 ((xup (xup (xup M 10 5 0) 10 6 (nwL A 0 : Nat)) 10 7 (nlL (SX M) A : Nat)) 10 5) x) 10 5 ((xup (xup (xup (xup M 10 5 0) 10 6 (nwL A 0 : Nat)) 10 7 (nlL (SX M) A : Nat)) 11 ((xup (xup (xup M 10 5 0) 10 6 (nwL A 0 : Nat)) 10 7 (nlL (SX M) A : Nat)) 10 5) x) 10 5 + 1) 11 ((0 : Nat) : Int) = x := by simp [xup]
    rw [e]
    exact ⟨⟨a1, a2⟩, hcode x a3⟩
  have happ : (nwL A 0 < s.1 ∨ nwL A 0 = s.1 ∧ nlL (SX M) A ≤ s.2.1) → ¬ (nwL A 0 < s.1 ∨ nlL (SX M) A < s.2.1) → ∀ x, 0 ≤ x → x < 65536 → (∀ u, 0 ≤ u → u < 4 → bxc x u = M 8 u) → Post 0 (xup (xup M 11 (M 10 5) x) 10 5 ((xup M 11 (M 10 5) x) 10 5 + 1)) := by
    intro h1 h2 x a1 a2 a3
    refine hp _ (fun c q1 q2 => by rw [xup_ne q1, xup_ne q2]) (by simp [xup]) (by simp [xup]) (by simp [xup]) ?_
    rw [stp_yes ⟨hFit, h1⟩, if_neg h2]
    refine ⟨by simp [xup, c1], by simp [xup, c2], by simp [xup, c3], fun j B hj => ?_⟩
    have e : ∀ j : Nat, xup (xup M 11 (M 10 5) x) 10 5 ((xup M 11 (M 10 5) x) 10 5 + 1) 11 (j : Int) = if j = s.2.2.length then x else M 11 j := by
      intro j
      rw [xup_ne (by decide), xup_at, c3]
      by_cases h : j = s.2.2.length
      · rw [if_pos h, if_pos (by omega)]
      · rw [if_neg h, if_neg (by omega)]
    rw [e]
    by_cases h : j = s.2.2.length
    · rw [if_pos h]
      subst h
      simp at hj
      subst hj
      exact ⟨⟨a1, a2⟩, hcode x a3⟩
    · rw [if_neg h]
      have hlt := (List.getElem?_eq_some_iff.mp hj).1
      simp at hlt
      rw [List.getElem?_append_left (by omega)] at hj
      exact c4 j B hj
  refine ⟨rfl, Adj (SX M) all0 (plX M), hJ, Adj_sym, Adj_irr hF, ?_⟩
  rw [hnl]
  dsimp only
  rw [c1, c2]
  have M05 : (0 : Int) ≤ (xup (xup (xup M 10 5 0) 10 6 (nwL A 0 : Nat)) 10 7 (nlL (SX M) A : Nat)) 10 5 ∧ (xup (xup (xup M 10 5 0) 10 6 (nwL A 0 : Nat)) 10 7 (nlL (SX M) A : Nat)) 10 5 < 512 := by simp [xup]
  have M08 : (xup (xup (xup M 10 5 0) 10 6 (nwL A 0 : Nat)) 10 7 (nlL (SX M) A : Nat)) 8 = M 8 := by rw [xup_ne (by decide), xup_ne (by decide), xup_ne (by decide)]
  have cR := fun h1 h2 => chain (xup (xup (xup M 10 5 0) 10 6 (nwL A 0 : Nat)) 10 7 (nlL (SX M) A : Nat)) M08 M05 (hres h1 h2)
  have cA := fun h1 h2 => chain M rfl (by rw [c3]; omega) (happ h1 h2)
  refine ⟨⟨by omega, by omega⟩, ⟨by omega, by omega⟩, fun q => hno (by omega), fun q => ⟨⟨by omega, by omega⟩, ⟨by omega, by omega⟩, fun q1 => ⟨⟨by omega, by omega⟩, ⟨by omega, by omega⟩, fun q2 => cR (by omega) (by omega), fun q2 => by omega⟩, fun q1 => ⟨⟨by omega, by omega⟩, ⟨by omega, by omega⟩, fun q2 => ⟨⟨by omega, by omega⟩, ⟨by omega, by omega⟩, fun q3 => by omega, fun q3 => ⟨⟨by omega, by omega⟩, ⟨by omega, by omega⟩, fun q4 => cA (by omega) (by omega), fun q4 => cR (by omega) (by omega)⟩⟩, fun q2 => hno (by omega)⟩⟩⟩
theorem k_X0_keep {l : Launch} {D : va_G} {T : Nat → ClassId} {ad : Nat → Nat} (hO : xOk ad LX) : xMet l D T ad LX yX0_keep cX0_keep 3 none true 2 sp_X0_keep :=
  xmet0 (rt := 0) (fld := fldX0) (cals := (calX0_keep sp_X1_lines sp_X1_code)) (cst := []) (I := iX0_keep) (cut := cutX0_keep) hO (by decide +kernel) ⟨by decide, by decide, by decide⟩ oX0_keep foX0 (fun _ h => absurd h List.not_mem_nil) (List.forall_mem_cons.mpr ⟨⟨yX1_lines, cX1_lines, 3, (some .int), 1, 0, by decide, yoX1_lines, k_X1_lines hO, loX0_96, Or.inr ⟨rfl, rfl, 7, 1, [some 1, some 4, some 8, some 9], TX1, 4, rfl, rfl, spV0_r⟩⟩, List.forall_mem_cons.mpr ⟨⟨yX1_code, cX1_code, 3, (some .int), 0, 0, by decide, yoX1_code, k_X1_code hO, loX0_98, Or.inr ⟨rfl, rfl, 7, 1, [some 1, some 4, some 8, some 9], TX1, 4, rfl, rfl, spV0_r⟩⟩, fun _ h => absurd h List.not_mem_nil⟩⟩) b_X0_keep
end
section
/-! LeastNets.seek: the search goes through the enumeration; then many -/
theorem rng_split {b : Nat} : ∀ {n : Nat}, b < n → ∃ tl, List.range n = List.range b ++ b :: tl := by
  intro n
  induction n with
  | zero => intro h; omega
  | succ n ih =>
    intro h
    rw [List.range_succ]
    by_cases hb : b = n
    · subst hb; exact ⟨[], rfl⟩
    · obtain ⟨tl, e⟩ := ih (by omega)
      exact ⟨tl ++ [n], by rw [e]; simp⟩
def NB (M : xM) : Prop := (0 ≤ M 10 9 ∧ M 10 9 < 64) ∧ ∀ b, 0 ≤ b → b < 6 → (tb (M 10 9) b ↔ thB (SX M) b)
noncomputable def FO (S : dS) (l : List (List Int)) : lSt := l.foldl (stp (Fit S) (nlL S)) init0
theorem FO_app (S : dS) (l l' : List (List Int)) : FO S (l ++ l') = l'.foldl (stp (Fit S) (nlL S)) (FO S l) := by unfold FO; rw [List.foldl_append]
def f_X0_seek (d : Nat) (i nw : Int) (M : xM) (Post : xR) : Prop := ∃ (k w : Nat) (p : List Int) (done rest : List (List Int)), i = k ∧ nw = w ∧ wS M ∧ wA M ∧ k ≤ mS (SX M) ∧ mS (SX M) ≤ d + k ∧ M 10 8 = mS (SX M) ∧ NB M ∧ p.length = k ∧ (∀ s, 0 ≤ s → s < (k : Int) → M 8 s = lkA p s ∧ lkA p s < 6 + (w : Int)) ∧ w = nwL p 0 ∧ done ++ ((enm (thB (SX M)) (mS (SX M) - k) w).map (fun l => p ++ l) ++ rest) = enm (thB (SX M)) (mS (SX M)) 0 ∧ stO M (SX M) (FO (SX M) done) ∧ FT (SX M) all0 (plX M) ∧ JN M (Adj (SX M) all0 (plX M)) ∧ ∀ M' : xM, (∀ c, c ≠ 8 → c ≠ 9 → c ≠ 10 → c ≠ 11 → M' c = M c) → M' 10 4 = M 10 4 → M' 10 8 = M 10 8 → M' 10 9 = M 10 9 → wA M' → (∀ s, 0 ≤ s → s < (k : Int) → M' 8 s = M 8 s) → stO M' (SX M) (FO (SX M) (done ++ (enm (thB (SX M)) (mS (SX M) - k) w).map (fun l => p ++ l))) → Post 0 M'
def sp_X0_seekD (d : Nat) : xT := fun as M Post => ∃ i nw, as = [.inr 10, .inl i, .inl nw] ∧ f_X0_seek d i nw M Post
theorem lkA_app {p : List Int} {b s : Int} (hs : 0 ≤ s) : lkA (p ++ [b]) s = if s < p.length then lkA p s else if s = p.length then b else 0 := by
  unfold lkA
  rw [List.getD_eq_getElem?_getD]
  by_cases h : s < p.length
  · rw [if_pos h, List.getElem?_append_left (by omega), List.getD_eq_getElem?_getD]
  · rw [if_neg h, List.getElem?_append_right (by omega)]
    by_cases h2 : s = p.length
    · rw [if_pos h2, show s.toNat - p.length = 0 by omega]; rfl
    · rw [if_neg h2, List.getElem?_eq_none (by simp; omega)]; rfl
theorem lkA_pre {p l : List Int} {s : Int} (hs : 0 ≤ s ∧ s < p.length) : lkA (p ++ l) s = lkA p s := by
  unfold lkA
  rw [List.getD_eq_getElem?_getD, List.getD_eq_getElem?_getD, List.getElem?_append_left (by omega)]
set_option maxRecDepth 100000 in
set_option maxHeartbeats 4000000 in
theorem b_X0_seek (d : Nat) (tS : xT) (hrec : ∀ d', d = d' + 1 → ∀ i nw M Post, f_X0_seek d' i nw M Post → tS [.inr 10, .inl i, .inl nw] M Post) (as : List xV) (M : xM) (Post : xR) (h : sp_X0_seekD d as M Post) : as.length ≤ 5 ∧ ∃ (Inv : xG) (μ : Nat → xL → List xV → xM → Nat) (f0 f1 : Nat), xw LX fldX0 (calX0_seek sp_X0_keep sp_X0_mayTake sp_X1_place sp_X2_all sp_X1_fits tS) [] 0 Post iX0_seek cutX0_seek Inv f0 0 (xlv as 5) [] M ∧ ∀ pc lv st M', Inv pc lv st M' → xw LX fldX0 (calX0_seek sp_X0_keep sp_X0_mayTake sp_X1_place sp_X2_all sp_X1_fits tS) [] 0 Post iX0_seek cutX0_seek (fun pc2 lv2 st2 M2 => Inv pc2 lv2 st2 M2 ∧ μ pc2 lv2 st2 M2 < μ pc lv st M') f1 pc lv st M' := by
  obtain ⟨v1, v2, rfl, k, w, p, done, rest, rfl, rfl, hw, hA, hk, hkd, hm, hNB, hpl, hpv, hpw, hsplit, hst, hF, hJ, hp⟩ := h
  have hm4 := mS_4 (wfS_of hw)
  have hwk : w ≤ k := by rw [hpw, ← hpl]; have := nwL_le p 0; omega
  refine ⟨by simp, (fun pc lv st N => ∃ (b : Nat) (o4 : Option xV), pc = 21 ∧ lv = [some (.inr 10), some (.inl (k : Int)), some (.inl (w : Int)), some (.inl (b : Int)), o4] ∧ st = [] ∧ b ≤ 7 + w ∧ k < mS (SX M) ∧ (∀ c, c ≠ 8 → c ≠ 9 → c ≠ 10 → c ≠ 11 → N c = M c) ∧ N 10 4 = M 10 4 ∧ N 10 8 = M 10 8 ∧ N 10 9 = M 10 9 ∧ wA N ∧ (∀ s, 0 ≤ s → s < (k : Int) → N 8 s = M 8 s) ∧ stO N (SX M) (FO (SX M) (done ++ ((List.range b).flatMap (brn (thB (SX M)) (enm (thB (SX M)) (mS (SX M) - k - 1)) w)).map (fun l => p ++ l)))), (fun pc lv st N => match lv with | [_, _, _, some (.inl b), _] => (20 - b).toNat | _ => 0), 400, 400, Eq.mpr (vcX0_seek_0 ..) ?_, ?_⟩
  · have hkeep : (k : Int) = mS (SX M) → sp_X0_keep [.inr 10, .inl (w : Int)] M (fun _ M1 => Post 0 M1) := by
      intro hkm
      have hkm : k = mS (SX M) := by omega
      rw [← hkm, Nat.sub_self] at hsplit
      have hkl := kept_le (th := thB (SX M)) (Fit := Fit (SX M)) (nl := nlL (SX M)) hm4 (forb (wfS_of hw)) (l := done) (by rw [← hkm]; exact hsplit)
      have hf1 := fold_1 (S := SX M) done init0 (by decide) (by decide)
      refine ⟨_, rfl, p, FO (SX M) done, hw, hA, fun u a1 a2 => (hpv u a1 (by omega)).1, hF, hJ, by rw [hpw], by rw [← hpw]; omega, hst, hf1.1, hf1.2, Nat.lt_of_le_of_lt hkl (by omega), fun M' g1 g2 g3 g4 g5 => ?_⟩
      refine hp M' (fun c _ _ q1 q2 => g1 c q1 q2) g2 g3 g4 (by unfold wA; rw [g1 8 (by decide) (by decide)]; exact hA) (fun s _ _ => by rw [g1 8 (by decide) (by decide)]) ?_
      rw [← hkm, Nat.sub_self, FO_app]
      show stO M' (SX M) (stp (Fit (SX M)) (nlL (SX M)) (FO (SX M) done) (p ++ []))
      rw [List.append_nil]
      exact g5
    rw [hm]
    refine ⟨⟨by omega, by omega⟩, ⟨by omega, by omega⟩, fun q => hkeep (by omega), fun q => ⟨⟨by omega, by omega⟩, ⟨by omega, by omega⟩, fun q1 => ⟨0, none, rfl, rfl, rfl, by omega, by omega, fun _ _ _ _ _ => rfl, rfl, rfl, rfl, hA, fun _ _ _ => rfl, ?_⟩, fun q1 => by omega⟩⟩
    show stO M (SX M) (FO (SX M) (done ++ []))
    rw [List.append_nil]
    exact hst
  · rintro pc lv st N ⟨b, o4, rfl, rfl, rfl, hb, hkm, h1, h2, h3, h4, h5, h6, h7⟩
    have e1 : N 1 = M 1 := h1 1 (by decide) (by decide) (by decide) (by decide)
    have e2 : N 2 = M 2 := h1 2 (by decide) (by decide) (by decide) (by decide)
    have e3 : N 3 = M 3 := h1 3 (by decide) (by decide) (by decide) (by decide)
    have e5 : N 5 = M 5 := h1 5 (by decide) (by decide) (by decide) (by decide)
    have e6 : N 6 = M 6 := h1 6 (by decide) (by decide) (by decide) (by decide)
    have hwN : wS N := by rw [wS_eq e1 e2 e3 e5 e6]; exact hw
    have eS : SX N = SX M := SX_eq e1 e2 e3 e5
    obtain ⟨r, hr⟩ : ∃ r, mS (SX M) - k = r + 1 := ⟨mS (SX M) - k - 1, by omega⟩
    have hr1 : mS (SX M) - k - 1 = r := by omega
    rw [hr1] at h7
    rw [hr] at hsplit hp
    have hEn : enm (thB (SX M)) (r + 1) w = (List.range (7 + w)).flatMap (brn (thB (SX M)) (enm (thB (SX M)) r) w) := rfl
    have stepFO : FO (SX M) (done ++ ((List.range (b + 1)).flatMap (brn (thB (SX M)) (enm (thB (SX M)) r) w)).map (fun l => p ++ l)) = ((brn (thB (SX M)) (enm (thB (SX M)) r) w b).map (fun l => p ++ l)).foldl (stp (Fit (SX M)) (nlL (SX M))) (FO (SX M) (done ++ ((List.range b).flatMap (brn (thB (SX M)) (enm (thB (SX M)) r) w)).map (fun l => p ++ l))) := by
      rw [← FO_app, List.range_succ, List.flatMap_append, List.map_append, List.append_assoc]
      show FO (SX M) (done ++ (_ ++ (([b] : List Nat).flatMap _).map _)) = _
      rw [List.flatMap_cons, List.flatMap_nil, List.append_nil]
    have main : ∀ K : xG, (∀ (o : Option xV) (N' : xM), b ≤ 6 + w → (∀ c, c ≠ 8 → c ≠ 9 → c ≠ 10 → c ≠ 11 → N' c = M c) → N' 10 4 = M 10 4 → N' 10 8 = M 10 8 → N' 10 9 = M 10 9 → wA N' → (∀ s, 0 ≤ s → s < (k : Int) → N' 8 s = M 8 s) → stO N' (SX M) (FO (SX M) (done ++ ((List.range (b + 1)).flatMap (brn (thB (SX M)) (enm (thB (SX M)) r) w)).map (fun l => p ++ l))) → K 21 [some (.inr 10), some (.inl (k : Int)), some (.inl (w : Int)), some (.inl ((b : Int) + 1)), o] [] N') → xw LX fldX0 (calX0_seek sp_X0_keep sp_X0_mayTake sp_X1_place sp_X2_all sp_X1_fits tS) [] 0 Post iX0_seek cutX0_seek K 400 21 [some (.inr 10), some (.inl (k : Int)), some (.inl (w : Int)), some (.inl (b : Int)), o4] [] N := by
      intro K hK
      refine Eq.mpr (vcX0_seek_21 ..) ?_
      have hf1 := fold_1 (S := SX M) (done ++ ((List.range b).flatMap (brn (thB (SX M)) (enm (thB (SX M)) r) w)).map (fun l => p ++ l)) init0 (by decide) (by decide)
      have h71 := h7.1
      generalize hsg : FO (SX M) (done ++ ((List.range b).flatMap (brn (thB (SX M)) (enm (thB (SX M)) r) w)).map (fun l => p ++ l)) = sg at h7 stepFO h71
      have hsg1 : sg.1 ≤ 4 := by rw [← hsg]; exact hf1.1
      have keepSt : b ≤ 6 + w → (∀ B ∈ (brn (thB (SX M)) (enm (thB (SX M)) r) w b).map (fun l => p ++ l), ¬ (Fit (SX M) B ∧ (nwL B 0 < sg.1 ∨ nwL B 0 = sg.1 ∧ nlL (SX M) B ≤ sg.2.1))) → ∀ N' : xM, stO N' (SX M) sg → stO N' (SX M) (FO (SX M) (done ++ ((List.range (b + 1)).flatMap (brn (thB (SX M)) (enm (thB (SX M)) r) w)).map (fun l => p ++ l))) := by
        intro _ hB N' hN'
        rw [stepFO, fold_id hB]
        exact hN'
      have brm : ∀ B ∈ (brn (thB (SX M)) (enm (thB (SX M)) r) w b).map (fun l => p ++ l), okB (thB (SX M)) b ∧ ∃ l', l' ∈ enm (thB (SX M)) r (nwS w b) ∧ B = p ++ (b : Int) :: l' := by
        intro B hB
        obtain ⟨l, hl, rfl⟩ := List.mem_map.mp hB
        obtain ⟨hok, l', hl', rfl⟩ := brn_mem.mp hl
        exact ⟨hok, l', hl', rfl⟩
      have branch : ∀ (nt : Nat) (o : Option xV), b ≤ 6 + w → nt = nwS w b → sp_X0_mayTake [.inr 10, .inl (b : Int), .inl (nt : Int)] N (fun r1 M1 => rg r1 ∧ (r1 = 0 → K 21 [some (.inr 10), some (.inl (k : Int)), some (.inl (w : Int)), some (.inl ((b : Int) + 1)), o] [] M1) ∧ (r1 ≠ 0 → sp_X1_place [.inr 7, .inl (k : Int), .inl (b : Int), .inl (nt : Int)] M1 (fun _ M2 => sp_X2_all [.inr 1] M2 (fun r3 M3 => sp_X1_fits [.inr 7, .inl r3] M3 (fun r4 M4 => rg r4 ∧ (r4 = 0 → K 21 [some (.inr 10), some (.inl (k : Int)), some (.inl (w : Int)), some (.inl ((b : Int) + 1)), o] [] M4) ∧ (r4 ≠ 0 → tS [.inr 10, .inl ((k : Int) + 1), .inl (nt : Int)] M4 (fun _ M5 => K 21 [some (.inr 10), some (.inl (k : Int)), some (.inl (w : Int)), some (.inl ((b : Int) + 1)), o] [] M5))))))) := by
        intro nt o hbw hnt
        have hnt2 : nt ≤ w + 1 ∧ w ≤ nt ∧ b < 6 + nt := by
          rw [hnt]; unfold nwS; split <;> omega
        refine ⟨_, _, rfl, ⟨by omega, by omega⟩, ⟨by omega, by omega⟩, ⟨by omega, by omega⟩, by rw [h4]; exact hNB.1, fun r1 hr1 => ⟨⟨by omega, by omega⟩, fun q => hK o N hbw h1 h2 h3 h4 h5 h6 (keepSt hbw (fun B hB hc => ?_) N h7), fun q => ⟨_, _, _, rfl, ⟨by omega, by omega⟩, fun N2 g1 g2 g3 g4 => ⟨rfl, ?_, _, rfl, ?_, ?_, ?_, fun r4 N4 k1 k2 k3 => ?_⟩⟩⟩⟩
        · obtain ⟨hok, l', hl', rfl⟩ := brm B hB
          rcases hr1 with ⟨a, _⟩ | ⟨_, a | ⟨a1, a2⟩⟩
          · omega
          · have e : nwL (p ++ (b : Int) :: l') 0 = nwL l' (nwS w b) := by
              rw [nwL_app, ← hpw, nwS_c]; rfl
            have := nwL_ge l' (nwS w b)
            rw [e] at hc
            have hc2 := hc.2
            omega
          · rcases hok with z | z
            · omega
            · rw [h4] at a2
              exact a2 ((hNB.2 b (by omega) a1).mpr z)
        all_goals
          have f1 : N2 1 = M 1 := by rw [g1 1 (by decide)]; exact e1
          have f2 : N2 2 = M 2 := by rw [g1 2 (by decide)]; exact e2
          have f3 : N2 3 = M 3 := by rw [g1 3 (by decide)]; exact e3
          have f5 : N2 5 = M 5 := by rw [g1 5 (by decide)]; exact e5
          have f6 : N2 6 = M 6 := by rw [g1 6 (by decide)]; exact e6
          have hwN2 : wS N2 := by rw [wS_eq f1 f2 f3 f5 f6]; exact hw
          have eS2 : SX N2 = SX M := SX_eq f1 f2 f3 f5
        · rw [f1]; exact hw.1.1
        · exact hwN2
        · intro s a1 a2
          by_cases hs : s < k
          · rw [g2 s hs]; exact h5 s a1 a2
          · by_cases hs2 : s = k
            · rw [hs2, g3]; omega
            · rw [g4 s (by omega) a2]; omega
        · rw [f1]; exact all_b hw.1.1
        · have hqa : ∀ t, 0 ≤ t → t < (SX M).1 → (tb (((2 ^ (N2 1 2).toNat : Nat) : Int) - 1) t ↔ all0 t) := fun t a1 a2 => by
            rw [f1, tb_all hw.1.1.1 a1]
            exact ⟨fun _ => trivial, fun _ => a2⟩
          rw [eS2] at k3
          have hok : okB (thB (SX M)) b := by
            rcases hr1 with ⟨_, _, a | ⟨a1, a2⟩⟩ | ⟨a, _⟩
            · exact Or.inl (by omega)
            · rw [h4] at a2
              exact Or.inr ((hNB.2 b (by omega) a1).mp a2)
            · omega
          have pre2 : ∀ s, 0 ≤ s → s < (k : Int) + 1 → N2 8 s = lkA (p ++ [(b : Int)]) s ∧ lkA (p ++ [(b : Int)]) s < 6 + (nt : Int) := by
            intro s a1 a2
            rw [lkA_app a1, hpl]
            by_cases hs : s < k
            · rw [if_pos hs, g2 s hs, h6 s a1 hs]
              have := hpv s a1 hs
              exact ⟨this.1, by omega⟩
            · rw [if_neg hs, if_pos (by omega), show s = k by omega, g3]
              exact ⟨rfl, by omega⟩
          have fr4 : ∀ c, c ≠ 8 → c ≠ 9 → c ≠ 10 → c ≠ 11 → N4 c = M c := fun c q1 q2 q3 q4 => by rw [k1 c q2, g1 c q1]; exact h1 c q1 q2 q3 q4
          have f10 : N4 10 = N 10 := by rw [k1 10 (by decide)]; exact g1 10 (by decide)
          have f11 : N4 11 = N 11 := by rw [k1 11 (by decide)]; exact g1 11 (by decide)
          have f8 : N4 8 = N2 8 := k1 8 (by decide)
          have wA4 : wA N4 := by
            intro s a1 a2
            rw [f8]
            by_cases hs : s < k
            · rw [g2 s hs]; exact h5 s a1 a2
            · by_cases hs2 : s = k
              · rw [hs2, g3]; omega
              · rw [g4 s (by omega) a2]; omega
          have st4 : stO N4 (SX M) sg := by rw [stO_eq f10 f11]; exact h7
          have ePl4 : plX N4 = plX N2 := plX_eq (k1 1 (by decide)) (k1 2 (by decide)) (k1 3 (by decide)) (k1 5 (by decide)) f8
          have eS4 : SX N4 = SX M := by rw [SX_eq (k1 1 (by decide)) (k1 2 (by decide)) (k1 3 (by decide)) (k1 5 (by decide))]; exact eS2
          refine ⟨⟨by omega, by omega⟩, fun q4 => hK o N4 hbw fr4 (by rw [f10]; exact h2) (by rw [f10]; exact h3) (by rw [f10]; exact h4) wA4 (fun s a1 a2 => by rw [f8, g2 s a2]; exact h6 s a1 a2) (keepSt hbw (fun B hB hc => ?_) N4 st4), fun q4 => ?_⟩
          · rcases k3 with ⟨a, _⟩ | ⟨_, hnF⟩
            · omega
            · refine hnF ((FT_iff rfl (fun _ _ _ => rfl) hqa (fun _ _ _ _ _ _ => rfl)).mpr ?_)
              obtain ⟨_, l', hl', rfl⟩ := brm B hB
              have hlen := enm_len hl'
              have hlB : (p ++ (b : Int) :: l').length = mS (SX M) := by rw [List.length_append, List.length_cons, hlen]; omega
              have eB : ∀ s, 0 ≤ s → s < (k : Int) + 1 → lkA (p ++ (b : Int) :: l') s = N2 8 s := by
                intro s a1 a2
                rw [(pre2 s a1 a2).1, show p ++ (b : Int) :: l' = (p ++ [(b : Int)]) ++ l' by simp, lkA_pre ⟨a1, by simp; omega⟩]
              have hPl : plX N2 = Pl (SX M) (N2 8) (offS (SX M)) := by
                show Pl (SX N2) (N2 8) (offS (SX N2)) = _
                rw [eS2]
              rw [hPl]
              refine FT_loose (wfS_of hw) (fun t i a1 a2 a3 a4 a5 a6 => ?_) hc.1
              have hi := sil_m ⟨a1, a2⟩ ⟨a4, a5⟩ a6
              rw [Pl_sil a6, Pl_sil a6]
              generalize offS (SX M) t + cS (SX M).2.2.1 (t * 6) i.toNat = s at hi
              refine ⟨fun h6' => ?_, fun u j c1 c2 c3 c4 c5 c6 he => ?_⟩
              · by_cases hs : s < (k : Int) + 1
                · exact eB s hi.1 hs
                · rw [g4 s (by omega) (by omega)] at h6'
                  omega
              · have hi2 := sil_m ⟨c1, c2⟩ ⟨c4, c5⟩ c6
                rw [Pl_sil c6] at he ⊢
                generalize offS (SX M) u + cS (SX M).2.2.1 (u * 6) j.toNat = s2 at hi2 he
                by_cases hs : s < (k : Int) + 1 <;> by_cases hs2 : s2 < (k : Int) + 1
                · rw [eB s hi.1 hs, eB s2 hi2.1 hs2]; exact he
                · have := (pre2 s hi.1 hs)
                  rw [this.1, g4 s2 (by omega) (by omega)] at he
                  omega
                · have := (pre2 s2 hi2.1 hs2)
                  rw [this.1, g4 s (by omega) (by omega)] at he
                  omega
                · rw [g4 s (by omega) (by omega), g4 s2 (by omega) (by omega)] at he
                  rw [show s = s2 by omega]
          · rcases k3 with ⟨_, hF4, hJ4⟩ | ⟨a, _⟩
            · have hFa : FT (SX M) all0 (plX N4) := by rw [ePl4]; exact (FT_iff rfl (fun _ _ _ => rfl) hqa (fun _ _ _ _ _ _ => rfl)).mp hF4
              have hJa : JN N4 (Adj (SX M) all0 (plX N4)) := by
                rw [ePl4]
                refine ⟨hJ4.1, fun x y a1 a2 a3 a4 => ?_⟩
                rw [hJ4.2 x y a1 a2 a3 a4]
                exact Adj_iff rfl (fun _ _ _ => rfl) hqa (fun _ _ _ _ _ _ => rfl) x y
              obtain ⟨d', hd'⟩ : ∃ d', d = d' + 1 := ⟨d - 1, by omega⟩
              have hwN4 : wS N4 := by rw [wS_eq (k1 1 (by decide)) (k1 2 (by decide)) (k1 3 (by decide)) (k1 5 (by decide)) (k1 6 (by decide))]; exact hwN2
              obtain ⟨tl, htl⟩ := rng_split (b := b) (n := 7 + w) (by omega)
              have hbrn : brn (thB (SX M)) (enm (thB (SX M)) r) w b = (enm (thB (SX M)) r (nwS w b)).map (fun l => (b : Int) :: l) := by unfold brn; exact if_pos hok
              have hmr : mS (SX M) - (k + 1) = r := by omega
              have hmap : ((enm (thB (SX M)) r (nwS w b)).map (fun l => (b : Int) :: l)).map (fun l => p ++ l) = (enm (thB (SX M)) r nt).map (fun l => (p ++ [(b : Int)]) ++ l) := by
                rw [List.map_map, hnt]
                congr 1
                funext l
                simp
              refine hrec d' hd' _ _ _ _ ⟨k + 1, nt, p ++ [(b : Int)], done ++ ((List.range b).flatMap (brn (thB (SX M)) (enm (thB (SX M)) r) w)).map (fun l => p ++ l), (tl.flatMap (brn (thB (SX M)) (enm (thB (SX M)) r) w)).map (fun l => p ++ l) ++ rest, by omega, rfl, hwN4, wA4, ?_, ?_, ?_, ?_, by simp; omega, ?_, ?_, ?_, ?_, ?_, ?_, ?_⟩
              · rw [eS4]; omega
              · rw [eS4]; omega
              · rw [eS4, f10, h3]; exact hm
              · unfold NB; rw [eS4, f10, h4]; exact hNB
              · intro s a1 a2
                rw [f8]
                exact pre2 s a1 (by omega)
              · rw [nwL_app, ← hpw, hnt, nwS_c]; rfl
              · rw [eS4, hmr, ← hsplit, hEn, htl, List.flatMap_append, List.flatMap_cons, hbrn, ← hmap]
                simp only [List.map_append, List.append_assoc]
              · rw [eS4, hsg]; exact st4
              · rw [eS4]; exact hFa
              · rw [eS4]; exact hJa
              · intro M' j1 j2 j3 j4 j5 j6 j7
                rw [eS4, hmr, ← hmap, ← hbrn, FO_app, hsg, ← stepFO] at j7
                refine hK o M' hbw (fun c q1 q2 q3 q4 => by rw [j1 c q1 q2 q3 q4]; exact fr4 c q1 q2 q3 q4) (by rw [j2, f10]; exact h2) (by rw [j3, f10]; exact h3) (by rw [j4, f10]; exact h4) j5 (fun s a1 a2 => ?_) j7
                rw [j6 s a1 (by omega), f8, g2 s a2]
                exact h6 s a1 a2
            · omega
      refine ⟨⟨by omega, by omega⟩, ⟨by omega, by omega⟩, fun q => ?_, fun q => ⟨⟨by omega, by omega⟩, ⟨by omega, by omega⟩, fun q1 => by omega, fun q1 => ⟨⟨by omega, by omega⟩, ⟨by omega, by omega⟩, fun q2 => branch w _ (by omega) (by unfold nwS; rw [if_neg (by omega)]), fun q2 => branch (w + 1) _ (by omega) (by unfold nwS; rw [if_pos (by omega)])⟩⟩⟩
      have hb7 : b = 7 + w := by omega
      refine hp N h1 h2 h3 h4 h5 h6 ?_
      rw [hEn, ← hb7, hsg]
      exact h7
    refine main _ (fun o N' hbw q1 q2 q3 q4 q5 q6 q7 => ⟨⟨b + 1, o, rfl, rfl, rfl, by omega, hkm, q1, q2, q3, q4, q5, q6, by rw [hr1]; exact q7⟩, by (change Int.toNat _ < Int.toNat _); omega⟩)
theorem k_X0_seekD {l : Launch} {D : va_G} {T : Nat → ClassId} {ad : Nat → Nat} (hO : xOk ad LX) : ∀ d, xMet l D T ad LX yX0_seek cX0_seek 5 none true (4 + d) (sp_X0_seekD d) := by
  intro d
  induction d with
  | zero => exact xmet (rt := 0) (fld := fldX0) (cals := calX0_seek sp_X0_keep sp_X0_mayTake sp_X1_place sp_X2_all sp_X1_fits (fun _ _ _ => False)) (cst := []) (I := iX0_seek) (cut := cutX0_seek) hO (by decide +kernel) ⟨by decide, by decide, by decide⟩ oX0_seek foX0 (fun _ h => absurd h List.not_mem_nil) (List.forall_mem_cons.mpr ⟨⟨yX0_keep, cX0_keep, 3, none, 2, 1, by omega, yoX0_keep, k_X0_keep hO, loX0_81, Or.inr ⟨rfl, rfl, 10, 0, [some 1, some 4, some 7, some 11, none, none, none, none, none, none], TX0, 10, rfl, rfl, spV1_r⟩⟩, List.forall_mem_cons.mpr ⟨⟨yX0_mayTake, cX0_mayTake, 3, (some .boolean), 1, 2, by omega, yoX0_mayTake, k_X0_mayTake hO, loX0_85, Or.inr ⟨rfl, rfl, 10, 0, [some 1, some 4, some 7, some 11, none, none, none, none, none, none], TX0, 10, rfl, rfl, spV2_r⟩⟩, List.forall_mem_cons.mpr ⟨⟨yX1_place, cX1_place, 4, none, 2, 3, by omega, yoX1_place, k_X1_place hO, loX0_89, Or.inr ⟨rfl, rfl, 7, 1, [some 1, some 4, some 8, some 9], TX1, 4, rfl, rfl, spV3_r⟩⟩, List.forall_mem_cons.mpr ⟨⟨yX2_all, cX2_all, 1, (some .int), 0, 0, by omega, yoX2_all, k_X2_all hO, loX0_61, Or.inr ⟨rfl, rfl, 1, 2, [some 2, some 3, none], TX2, 3, rfl, rfl, spV0_r⟩⟩, List.forall_mem_cons.mpr ⟨⟨yX1_fits, cX1_fits, 4, (some .boolean), 3, 1, by omega, yoX1_fits, k_X1_fits hO, loX0_78, Or.inr ⟨rfl, rfl, 7, 1, [some 1, some 4, some 8, some 9], TX1, 4, rfl, rfl, spV1_r⟩⟩, List.forall_mem_cons.mpr ⟨⟨yX0_seek, cX0_seek, 5, none, 0, 3, by omega, yoX0_seek, fun as M Post h => h.elim, loX0_68, Or.inl ⟨rfl, rfl⟩⟩, fun _ h => absurd h List.not_mem_nil⟩⟩⟩⟩⟩⟩) (b_X0_seek 0 (fun _ _ _ => False) (fun d' h => by omega))
  | succ d ih => exact xmet (rt := 0) (fld := fldX0) (cals := calX0_seek sp_X0_keep sp_X0_mayTake sp_X1_place sp_X2_all sp_X1_fits (sp_X0_seekD d)) (cst := []) (I := iX0_seek) (cut := cutX0_seek) hO (by decide +kernel) ⟨by decide, by decide, by decide⟩ oX0_seek foX0 (fun _ h => absurd h List.not_mem_nil) (List.forall_mem_cons.mpr ⟨⟨yX0_keep, cX0_keep, 3, none, 2, 1, by omega, yoX0_keep, k_X0_keep hO, loX0_81, Or.inr ⟨rfl, rfl, 10, 0, [some 1, some 4, some 7, some 11, none, none, none, none, none, none], TX0, 10, rfl, rfl, spV1_r⟩⟩, List.forall_mem_cons.mpr ⟨⟨yX0_mayTake, cX0_mayTake, 3, (some .boolean), 1, 2, by omega, yoX0_mayTake, k_X0_mayTake hO, loX0_85, Or.inr ⟨rfl, rfl, 10, 0, [some 1, some 4, some 7, some 11, none, none, none, none, none, none], TX0, 10, rfl, rfl, spV2_r⟩⟩, List.forall_mem_cons.mpr ⟨⟨yX1_place, cX1_place, 4, none, 2, 3, by omega, yoX1_place, k_X1_place hO, loX0_89, Or.inr ⟨rfl, rfl, 7, 1, [some 1, some 4, some 8, some 9], TX1, 4, rfl, rfl, spV3_r⟩⟩, List.forall_mem_cons.mpr ⟨⟨yX2_all, cX2_all, 1, (some .int), 0, 0, by omega, yoX2_all, k_X2_all hO, loX0_61, Or.inr ⟨rfl, rfl, 1, 2, [some 2, some 3, none], TX2, 3, rfl, rfl, spV0_r⟩⟩, List.forall_mem_cons.mpr ⟨⟨yX1_fits, cX1_fits, 4, (some .boolean), 3, 1, by omega, yoX1_fits, k_X1_fits hO, loX0_78, Or.inr ⟨rfl, rfl, 7, 1, [some 1, some 4, some 8, some 9], TX1, 4, rfl, rfl, spV1_r⟩⟩, List.forall_mem_cons.mpr ⟨⟨yX0_seek, cX0_seek, 5, none, 4 + d, 3, by omega, yoX0_seek, ih, loX0_68, Or.inl ⟨rfl, rfl⟩⟩, fun _ h => absurd h List.not_mem_nil⟩⟩⟩⟩⟩⟩) (b_X0_seek (d + 1) (sp_X0_seekD d) (fun d' h i nw M Post hf => by
      have : d' = d := by omega
      subst this
      exact ⟨i, nw, rfl, hf⟩))
abbrev sp_X0_seek : xT := sp_X0_seekD 5
theorem k_X0_seek {l : Launch} {D : va_G} {T : Nat → ClassId} {ad : Nat → Nat} (hO : xOk ad LX) : xMet l D T ad LX yX0_seek cX0_seek 5 none true 9 sp_X0_seek := k_X0_seekD hO 5
theorem nmS_X (M : xM) (n : Int) : nmIn M n ↔ nmS (SX M) n := Iff.rfl
theorem thB_bits {M : xM} (hw : wS M) {x y : Int} (hx : ∀ n, 0 ≤ n → n < 6 → (tb x n ↔ nmIn M n)) (hy : ∀ b, 0 ≤ b → b < 6 → (tb y b ↔ ∃ n, 0 ≤ n ∧ n < 6 ∧ tb x n ∧ M 5 n = b)) : ∀ b, 0 ≤ b → b < 6 → (tb y b ↔ thB (SX M) b) := by
  intro b h0 h1
  rw [hy b h0 h1]
  constructor
  · rintro ⟨n, a1, a2, a3, a4⟩
    exact ⟨n, a1, a2, a4, (hx n a1 a2).mp a3⟩
  · rintro ⟨n, a1, a2, a3, a4⟩
    exact ⟨n, a1, a2, (hx n a1 a2).mpr a4, a3⟩
/-- if the loosest does not FIT, none does -/
theorem none_fits {S : dS} (hw : wfS S) {A : Int → Int} (hA : ∀ j, 0 ≤ j → j < 4 → A j = 6 + j) (h : ¬ FT S all0 (Pl S A (offS S))) (B : List Int) : ¬ Fit S B := by
  intro hF
  have hm4 := mS_4 hw
  refine h (FT_loose hw (fun t i a1 a2 a3 a4 a5 a6 => ?_) hF)
  have hi := sil_m ⟨a1, a2⟩ ⟨a4, a5⟩ a6
  rw [Pl_sil a6, Pl_sil a6]
  generalize offS S t + cS S.2.2.1 (t * 6) i.toNat = s at hi
  refine ⟨fun h6 => ?_, fun u j c1 c2 c3 c4 c5 c6 he => ?_⟩
  · rw [hA s hi.1 (by omega)] at h6; omega
  · have hi2 := sil_m ⟨c1, c2⟩ ⟨c4, c5⟩ c6
    rw [Pl_sil c6] at he ⊢
    generalize offS S u + cS S.2.2.1 (u * 6) j.toNat = s2 at hi2 he
    rw [hA s hi.1 (by omega), hA s2 hi2.1 (by omega)] at he
    rw [show s = s2 by omega]
def f_X0_many (M : xM) (Post : xR) : Prop := wS M ∧ (M 10 4 = 0 ∨ M 10 4 = 1 ∧ stO M (SX M) (LNs (SX M))) ∧ ∀ M' : xM, (∀ c, c ≠ 8 → c ≠ 9 → c ≠ 10 → c ≠ 11 → M' c = M c) → M' 10 4 = 1 → stO M' (SX M) (LNs (SX M)) → Post ((LNs (SX M)).2.2.length : Nat) M'
abbrev sp_X0_many : xT := spV0 10 f_X0_many
set_option maxRecDepth 100000 in
set_option maxHeartbeats 4000000 in
theorem b_X0_many (as : List xV) (M : xM) (Post : xR) (h : sp_X0_many as M Post) : as.length ≤ 1 ∧ xw LX fldX0 (calX0_many sp_X2_silents sp_X2_names sp_X4_boxes sp_X2_all sp_X0_someFits sp_X0_seek) [] 1 Post iX0_many cutX0_many (fun _ _ _ _ => False) 400 0 (xlv as 1) [] M := by
  obtain ⟨rfl, h⟩ := h
  refine ⟨by simp, ?_⟩
  refine Eq.mpr (vcX0_many_0 ..) ?_
  obtain ⟨hw, hc, hp⟩ := h
  refine ⟨⟨by omega, by omega⟩, fun q => ⟨by omega, rfl, ?_⟩, fun q => ?_⟩
  rotate_left
  · rcases hc with hc | ⟨hc, hs⟩
    · omega
    · rw [hs.2.2.1]
      exact hp M (fun _ _ _ _ _ => rfl) hc hs
  · have hm4 := mS_4 (wfS_of hw)
    have g1 : ∀ (A : xM) (k v : Int), (∀ c, c ≠ 10 → A c = M c) → ∀ c, c ≠ 10 → xup A 10 k v c = M c := fun A k v hA c hc => by rw [xup_ne hc]; exact hA c hc
    generalize hM1 : xup (xup (xup (xup M 10 4 1) 10 5 0) 10 6 4) 10 7 100 = M1
    have a1 : ∀ c, c ≠ 10 → M1 c = M c := by rw [← hM1]; exact g1 _ _ _ (g1 _ _ _ (g1 _ _ _ (g1 _ _ _ (fun _ _ => rfl))))
    have w1 : ∀ A : xM, (∀ c, c ≠ 10 → A c = M c) → wS A := fun A hA => by rw [wS_eq (hA 1 (by decide)) (hA 2 (by decide)) (hA 3 (by decide)) (hA 5 (by decide)) (hA 6 (by decide))]; exact hw
    have s1 : ∀ A : xM, (∀ c, c ≠ 10 → A c = M c) → SX A = SX M := fun A hA => SX_eq (hA 1 (by decide)) (hA 2 (by decide)) (hA 3 (by decide)) (hA 5 (by decide))
    refine ⟨(w1 M1 a1).1, ?_⟩
    have em : sS (M1 2) (M1 3) (M1 1 2).toNat = (mS (SX M) : Nat) := by rw [← s1 M1 a1, mS_c]; rfl
    rw [em]
    dsimp only
    generalize hM2 : xup M1 10 8 (mS (SX M) : Nat) = M2
    have a2 : ∀ c, c ≠ 10 → M2 c = M c := by rw [← hM2]; exact g1 _ _ _ a1
    refine ⟨rfl, (w1 M2 a2).1, fun x x0 x1 hx => ⟨_, rfl, (w1 M2 a2).2.1, ⟨x0, x1⟩, fun y y0 y1 hy => ?_⟩⟩
    have hNb : ∀ b, 0 ≤ b → b < 6 → (tb y b ↔ thB (SX M) b) := by
      have := thB_bits (w1 M2 a2) hx hy
      rwa [s1 M2 a2] at this
    dsimp only
    generalize hM3 : xup M2 10 9 y = M3
    have a3 : ∀ c, c ≠ 10 → M3 c = M c := by rw [← hM3]; exact g1 _ _ _ a2
    have v4 : M3 10 4 = 1 := by rw [← hM3, ← hM2, ← hM1]; simp [xup]
    have v5 : M3 10 5 = 0 := by rw [← hM3, ← hM2, ← hM1]; simp [xup]
    have v6 : M3 10 6 = 4 := by rw [← hM3, ← hM2, ← hM1]; simp [xup]
    have v7 : M3 10 7 = 100 := by rw [← hM3, ← hM2, ← hM1]; simp [xup]
    have v8 : M3 10 8 = (mS (SX M) : Nat) := by rw [← hM3, ← hM2]; simp [xup]
    have v9 : M3 10 9 = y := by rw [← hM3]; simp [xup]
    have st3 : ∀ N : xM, N 10 = M3 10 → stO N (SX M) init0 := fun N hN => ⟨by rw [hN]; exact v6, by rw [hN]; exact v7, by rw [hN]; exact v5, fun j A hj => by simp [init0] at hj⟩
    have e1 : M3 1 = M 1 := a3 1 (by decide)
    refine ⟨rfl, ⟨by rw [e1]; exact hw.1.1.1, by rw [e1]; exact hw.1.1.2⟩, ?_⟩
    rw [e1]
    refine ⟨_, rfl, w1 M3 a3, all_b hw.1.1, fun r M5 k1 k2 k3 => ?_⟩
    have hqa : ∀ t, 0 ≤ t → t < (SX M).1 → (tb (((2 ^ (M 1 2).toNat : Nat) : Int) - 1) t ↔ all0 t) := fun t b1 b2 => by
      rw [tb_all hw.1.1.1 b1]
      exact ⟨fun _ => trivial, fun _ => b2⟩
    rw [s1 M3 a3] at k3
    have f10 : M5 10 = M3 10 := k1 10 (by decide) (by decide)
    have fr5 : ∀ c, c ≠ 8 → c ≠ 9 → c ≠ 10 → c ≠ 11 → M5 c = M c := fun c q1 q2 q3 _ => by rw [k1 c q1 q2]; exact a3 c q3
    have eS5 : SX M5 = SX M := SX_eq (fr5 1 (by decide) (by decide) (by decide) (by decide)) (fr5 2 (by decide) (by decide) (by decide) (by decide)) (fr5 3 (by decide) (by decide) (by decide) (by decide)) (fr5 5 (by decide) (by decide) (by decide) (by decide))
    have hPl5 : plX M5 = Pl (SX M) (M5 8) (offS (SX M)) := by
      show Pl (SX M5) (M5 8) (offS (SX M5)) = _
      rw [eS5]
    refine ⟨⟨by omega, by omega⟩, fun q5 => ?_, fun q5 => ?_⟩
    · rcases k3 with ⟨a, _⟩ | ⟨_, hnF⟩
      · omega
      · have hnF' : ¬ FT (SX M) all0 (Pl (SX M) (M5 8) (offS (SX M))) := fun z => hnF ((FT_iff rfl (fun _ _ _ => rfl) hqa (fun _ _ _ _ _ _ => rfl)).mpr (by rw [hPl5]; exact z))
        have hL : LNs (SX M) = init0 := fold_id (fun A _ hc => none_fits (wfS_of hw) k2 hnF' A hc.1)
        have e5 : M5 10 5 = (((LNs (SX M)).2.2.length : Nat) : Int) := by rw [f10, v5, hL]; rfl
        rw [e5]
        exact hp M5 fr5 (by rw [f10]; exact v4) (by rw [hL]; exact st3 M5 f10)
    · rcases k3 with ⟨_, hF5, hJ5⟩ | ⟨a, _⟩
      · have hw5 : wS M5 := by rw [wS_eq (fr5 1 (by decide) (by decide) (by decide) (by decide)) (fr5 2 (by decide) (by decide) (by decide) (by decide)) (fr5 3 (by decide) (by decide) (by decide) (by decide)) (fr5 5 (by decide) (by decide) (by decide) (by decide)) (fr5 6 (by decide) (by decide) (by decide) (by decide))]; exact hw
        refine ⟨_, _, rfl, 0, 0, [], [], [], rfl, rfl, hw5, fun s b1 b2 => by rw [k2 s b1 b2]; omega, Nat.zero_le _, ?_, ?_, ?_, rfl, fun s b1 b2 => by omega, rfl, ?_, ?_, ?_, ?_, fun M' j1 j2 j3 j4 j5 j6 j7 => ?_⟩
        · rw [eS5]; omega
        · rw [eS5, f10]; exact v8
        · unfold NB
          rw [eS5, f10, v9]
          exact ⟨⟨y0, y1⟩, hNb⟩
        · rw [eS5, List.append_nil]
          show (enm _ _ _).map (fun l => [] ++ l) = _
          simp
        · rw [eS5]; exact st3 M5 f10
        · rw [eS5]; exact (FT_iff rfl (fun _ _ _ => rfl) hqa (fun _ _ _ _ _ _ => rfl)).mp hF5
        · rw [eS5]
          refine ⟨hJ5.1, fun x y b1 b2 b3 b4 => ?_⟩
          rw [hJ5.2 x y b1 b2 b3 b4]
          exact Adj_iff rfl (fun _ _ _ => rfl) hqa (fun _ _ _ _ _ _ => rfl) x y
        · have hfin : stO M' (SX M) (LNs (SX M)) := by
            rw [eS5] at j7
            have e : ([] ++ (enm (thB (SX M)) (mS (SX M) - 0) 0).map (fun l => [] ++ l) : List (List Int)) = enm (thB (SX M)) (mS (SX M)) 0 := by simp
            rw [e] at j7
            exact j7
          show Post (M' 10 5) M'
          rw [hfin.2.2.1]
          exact hp M' (fun c q1 q2 q3 q4 => by rw [j1 c q1 q2 q3 q4]; exact fr5 c q1 q2 q3 q4) (by rw [j2, f10]; exact v4) hfin
      · omega
theorem k_X0_many {l : Launch} {D : va_G} {T : Nat → ClassId} {ad : Nat → Nat} (hO : xOk ad LX) : xMet l D T ad LX yX0_many cX0_many 1 (some .int) false 10 sp_X0_many :=
  xmet0 (rt := 1) (fld := fldX0) (cals := (calX0_many sp_X2_silents sp_X2_names sp_X4_boxes sp_X2_all sp_X0_someFits sp_X0_seek)) (cst := []) (I := iX0_many) (cut := cutX0_many) hO (by decide +kernel) ⟨by decide, by decide, by decide⟩ oX0_many foX0 (fun _ h => absurd h List.not_mem_nil) (List.forall_mem_cons.mpr ⟨⟨yX2_silents, cX2_silents, 3, (some .int), 2, 0, by decide, yoX2_silents, k_X2_silents hO, loX0_41, Or.inr ⟨rfl, rfl, 1, 2, [some 2, some 3, none], TX2, 3, rfl, rfl, spV0_r⟩⟩, List.forall_mem_cons.mpr ⟨⟨yX2_names, cX2_names, 5, (some .int), 1, 0, by decide, yoX2_names, k_X2_names hO, loX0_49, Or.inr ⟨rfl, rfl, 1, 2, [some 2, some 3, none], TX2, 3, rfl, rfl, spV0_r⟩⟩, List.forall_mem_cons.mpr ⟨⟨yX4_boxes, cX4_boxes, 4, (some .int), 1, 1, by decide, yoX4_boxes, k_X4_boxes hO, loX0_52, Or.inr ⟨rfl, rfl, 4, 4, [some 5, some 6, none], TX4, 3, rfl, rfl, spV1_r⟩⟩, List.forall_mem_cons.mpr ⟨⟨yX2_all, cX2_all, 1, (some .int), 0, 0, by decide, yoX2_all, k_X2_all hO, loX0_61, Or.inr ⟨rfl, rfl, 1, 2, [some 2, some 3, none], TX2, 3, rfl, rfl, spV0_r⟩⟩, List.forall_mem_cons.mpr ⟨⟨yX0_someFits, cX0_someFits, 2, (some .boolean), 4, 1, by decide, yoX0_someFits, k_X0_someFits hO, loX0_64, Or.inr ⟨rfl, rfl, 10, 0, [some 1, some 4, some 7, some 11, none, none, none, none, none, none], TX0, 10, rfl, rfl, spV1_r⟩⟩, List.forall_mem_cons.mpr ⟨⟨yX0_seek, cX0_seek, 5, none, 9, 3, by decide, yoX0_seek, k_X0_seek hO, loX0_68, Or.inl ⟨rfl, rfl⟩⟩, fun _ h => absurd h List.not_mem_nil⟩⟩⟩⟩⟩⟩) b_X0_many
end
section
/-! Survey: its small methods -/
def f_X3_forgetMade (M : xM) (Post : xR) : Prop := Post 0 (xup M 12 7 0)
abbrev sp_X3_forgetMade : xT := spV0 12 f_X3_forgetMade
set_option maxRecDepth 100000 in
set_option maxHeartbeats 4000000 in
theorem b_X3_forgetMade (as : List xV) (M : xM) (Post : xR) (h : sp_X3_forgetMade as M Post) : as.length ≤ 1 ∧ xw LX fldX3 calX3_forgetMade [] 0 Post iX3_forgetMade cutX3_forgetMade (fun _ _ _ _ => False) 400 0 (xlv as 1) [] M := by
  obtain ⟨rfl, h⟩ := h
  refine ⟨by simp, ?_⟩
  refine Eq.mpr (vcX3_forgetMade_0 ..) ?_
  exact ⟨by omega, h⟩
theorem k_X3_forgetMade {l : Launch} {D : va_G} {T : Nat → ClassId} {ad : Nat → Nat} (hO : xOk ad LX) : xMet l D T ad LX yX3_forgetMade cX3_forgetMade 1 none true 0 sp_X3_forgetMade :=
  xmet0 (rt := 0) (fld := fldX3) (cals := calX3_forgetMade) (cst := []) (I := iX3_forgetMade) (cut := cutX3_forgetMade) hO (by decide +kernel) ⟨by decide, by decide, by decide⟩ oX3_forgetMade foX3 (fun _ h => absurd h List.not_mem_nil) (fun _ h => absurd h List.not_mem_nil) b_X3_forgetMade
def f_X3_bestPair (M : xM) (Post : xR) : Prop := Post (M 12 8) M
abbrev sp_X3_bestPair : xT := spV0 12 f_X3_bestPair
set_option maxRecDepth 100000 in
set_option maxHeartbeats 4000000 in
theorem b_X3_bestPair (as : List xV) (M : xM) (Post : xR) (h : sp_X3_bestPair as M Post) : as.length ≤ 1 ∧ xw LX fldX3 calX3_bestPair [] 1 Post iX3_bestPair cutX3_bestPair (fun _ _ _ _ => False) 400 0 (xlv as 1) [] M := by
  obtain ⟨rfl, h⟩ := h
  refine ⟨by simp, ?_⟩
  refine Eq.mpr (vcX3_bestPair_0 ..) ?_
  exact h
theorem k_X3_bestPair {l : Launch} {D : va_G} {T : Nat → ClassId} {ad : Nat → Nat} (hO : xOk ad LX) : xMet l D T ad LX yX3_bestPair cX3_bestPair 1 (some .int) false 0 sp_X3_bestPair :=
  xmet0 (rt := 1) (fld := fldX3) (cals := calX3_bestPair) (cst := []) (I := iX3_bestPair) (cut := cutX3_bestPair) hO (by decide +kernel) ⟨by decide, by decide, by decide⟩ oX3_bestPair foX3 (fun _ h => absurd h List.not_mem_nil) (fun _ h => absurd h List.not_mem_nil) b_X3_bestPair
def f_X3_bestHeap (M : xM) (Post : xR) : Prop := Post (M 12 9) M
abbrev sp_X3_bestHeap : xT := spV0 12 f_X3_bestHeap
set_option maxRecDepth 100000 in
set_option maxHeartbeats 4000000 in
theorem b_X3_bestHeap (as : List xV) (M : xM) (Post : xR) (h : sp_X3_bestHeap as M Post) : as.length ≤ 1 ∧ xw LX fldX3 calX3_bestHeap [] 1 Post iX3_bestHeap cutX3_bestHeap (fun _ _ _ _ => False) 400 0 (xlv as 1) [] M := by
  obtain ⟨rfl, h⟩ := h
  refine ⟨by simp, ?_⟩
  refine Eq.mpr (vcX3_bestHeap_0 ..) ?_
  exact h
theorem k_X3_bestHeap {l : Launch} {D : va_G} {T : Nat → ClassId} {ad : Nat → Nat} (hO : xOk ad LX) : xMet l D T ad LX yX3_bestHeap cX3_bestHeap 1 (some .int) false 0 sp_X3_bestHeap :=
  xmet0 (rt := 1) (fld := fldX3) (cals := calX3_bestHeap) (cst := []) (I := iX3_bestHeap) (cut := cutX3_bestHeap) hO (by decide +kernel) ⟨by decide, by decide, by decide⟩ oX3_bestHeap foX3 (fun _ h => absurd h List.not_mem_nil) (fun _ h => absurd h List.not_mem_nil) b_X3_bestHeap
theorem Pl_b {S : dS} (hw : wfS S) {A : Int → Int} (hA : ∀ s, 0 ≤ s → s < (mS S : Int) → 0 ≤ A s ∧ A s < 10) {t i : Int} (ht : 0 ≤ t ∧ t < S.1) (hi : 0 ≤ i ∧ i < S.2.1 t) : 0 ≤ Pl S A (offS S) t i ∧ Pl S A (offS S) t i < 10 := by
  by_cases hs : S.2.2.1 (t * 6 + i) = -1
  · rw [Pl_sil hs]
    have := sil_m ht hi hs
    exact hA _ this.1 this.2
  · rw [Pl_nm hs]
    have hh := hw.2.2.1 t i ht.1 ht.2 hi.1 hi.2
    have := hw.2.2.2.1 (S.2.2.1 (t * 6 + i)) (by omega) (by omega)
    omega
theorem Adj_in10 {S : dS} {q : Int → Prop} {pl : Int → Int → Int} (h : ∀ t i, 0 ≤ t → t < S.1 → 0 ≤ i → i < S.2.1 t → 0 ≤ pl t i ∧ pl t i < 10) : in10 (Adj S q pl) := by
  rintro x y ⟨t, ht, -, i, h1, h2, h3⟩
  have a := h t i ht.1 ht.2 h1 (by omega)
  have b := h t (i + 1) ht.1 ht.2 (by omega) h2
  rcases h3 with ⟨rfl, rfl⟩ | ⟨rfl, rfl⟩
  · exact ⟨a, b⟩
  · exact ⟨b, a⟩
def f_X3_wayIn (x a b : Int) (M : xM) (Post : xR) : Prop := wS M ∧ (0 ≤ x ∧ x < 65536) ∧ (∀ s, 0 ≤ s → s < 4 → bxc x s < 10) ∧ FT (SX M) all0 (Pl (SX M) (bxc x) (offS (SX M))) ∧ (0 ≤ a ∧ a < 10) ∧ (0 ≤ b ∧ b < 10) ∧ ∀ (d : Int) (M' : xM), (∀ c, c ≠ 8 → c ≠ 9 → M' c = M c) → isD (Adj (SX M) all0 (Pl (SX M) (bxc x) (offS (SX M)))) a b d → Post d M'
abbrev sp_X3_wayIn : xT := spV3 12 f_X3_wayIn
set_option maxRecDepth 100000 in
set_option maxHeartbeats 4000000 in
theorem b_X3_wayIn (as : List xV) (M : xM) (Post : xR) (h : sp_X3_wayIn as M Post) : as.length ≤ 4 ∧ xw LX fldX3 (calX3_wayIn sp_X1_takeUp sp_X1_way) [] 1 Post iX3_wayIn cutX3_wayIn (fun _ _ _ _ => False) 400 0 (xlv as 4) [] M := by
  obtain ⟨v1, v2, v3, rfl, h⟩ := h
  refine ⟨by simp, ?_⟩
  refine Eq.mpr (vcX3_wayIn_0 ..) ?_
  obtain ⟨hw, hx, hb, hF, h1, h2, hp⟩ := h
  refine ⟨_, rfl, hw, hx, hb, hF, fun N g1 g2 g3 => ⟨_, _, rfl, _, g3, Adj_in10 (fun t i a1 a2 a3 a4 => Pl_b (wfS_of hw) (fun s b1 b2 => ⟨bxc_0, hb s b1 ?_⟩) ⟨a1, a2⟩ ⟨a3, a4⟩), h1, h2, fun d hd => hp d N g1 hd⟩⟩
  have := mS_4 (wfS_of hw)
  omega
theorem k_X3_wayIn {l : Launch} {D : va_G} {T : Nat → ClassId} {ad : Nat → Nat} (hO : xOk ad LX) : xMet l D T ad LX yX3_wayIn cX3_wayIn 4 (some .int) false 5 sp_X3_wayIn :=
  xmet0 (rt := 1) (fld := fldX3) (cals := (calX3_wayIn sp_X1_takeUp sp_X1_way)) (cst := []) (I := iX3_wayIn) (cut := cutX3_wayIn) hO (by decide +kernel) ⟨by decide, by decide, by decide⟩ oX3_wayIn foX3 (fun _ h => absurd h List.not_mem_nil) (List.forall_mem_cons.mpr ⟨⟨yX1_takeUp, cX1_takeUp, 3, none, 4, 1, by decide, yoX1_takeUp, k_X1_takeUp hO, loX3_48, Or.inr ⟨rfl, rfl, 7, 1, [some 1, some 4, some 8, some 9], TX1, 4, rfl, rfl, spV1_r⟩⟩, List.forall_mem_cons.mpr ⟨⟨yX1_way, cX1_way, 7, (some .int), 1, 2, by decide, yoX1_way, k_X1_way hO, loX3_54, Or.inr ⟨rfl, rfl, 7, 1, [some 1, some 4, some 8, some 9], TX1, 4, rfl, rfl, spV2_r⟩⟩, fun _ h => absurd h List.not_mem_nil⟩⟩) b_X3_wayIn
def f_X3_lineBetween (x y : Int) (M : xM) (Post : xR) : Prop := (0 ≤ x ∧ x < 10) ∧ (0 ≤ y ∧ y < 10) ∧ (0 ≤ M 13 x ∧ M 13 x < 1024) ∧ (0 ≤ M 14 x ∧ M 14 x < 1024) ∧ ∀ r, (¬ tb (M 13 x) y → r = 0) → (tb (M 13 x) y → ¬ tb (M 14 x) y → r = 1) → (tb (M 13 x) y → tb (M 14 x) y → r = 2) → Post r M
abbrev sp_X3_lineBetween : xT := spV2 12 f_X3_lineBetween
set_option maxRecDepth 100000 in
set_option maxHeartbeats 4000000 in
theorem b_X3_lineBetween (as : List xV) (M : xM) (Post : xR) (h : sp_X3_lineBetween as M Post) : as.length ≤ 3 ∧ xw LX fldX3 (calX3_lineBetween sp_X5_isBox sp_X5_hasBit) [] 1 Post iX3_lineBetween cutX3_lineBetween (fun _ _ _ _ => False) 400 0 (xlv as 3) [] M := by
  obtain ⟨v1, v2, rfl, h⟩ := h
  refine ⟨by simp, ?_⟩
  refine Eq.mpr (vcX3_lineBetween_0 ..) ?_
  obtain ⟨hx, hy, h13, h14, hp⟩ := h
  refine ⟨_, rfl, ⟨by omega, by omega⟩, fun r1 hr1 => ⟨⟨by omega, by omega⟩, fun q => by omega, fun q => ⟨hx, _, _, rfl, ⟨by omega, by omega⟩, ⟨by omega, by omega⟩, fun r2 hr2 => ⟨⟨by omega, by omega⟩, fun q2 => ⟨hx, _, _, rfl, ⟨by omega, by omega⟩, ⟨by omega, by omega⟩, fun r3 hr3 => ⟨⟨by omega, by omega⟩, fun q3 => ?_, fun q3 => ?_⟩⟩, fun q2 => ?_⟩⟩⟩⟩
  · have a2 : tb (M 13 v1) v2 := hr2.elim (fun z => z.2) (fun z => (q2 z.1).elim)
    have a3 : ¬ tb (M 14 v1) v2 := hr3.elim (fun z => by omega) (fun z => z.2)
    exact hp 1 (fun z => (z a2).elim) (fun _ _ => rfl) (fun _ z => (a3 z).elim)
  · have a2 : tb (M 13 v1) v2 := hr2.elim (fun z => z.2) (fun z => (q2 z.1).elim)
    have a3 : tb (M 14 v1) v2 := hr3.elim (fun z => z.2) (fun z => (q3 z.1).elim)
    exact hp 2 (fun z => (z a2).elim) (fun _ z => (z a3).elim) (fun _ _ => rfl)
  · have a2 : ¬ tb (M 13 v1) v2 := hr2.elim (fun z => by omega) (fun z => z.2)
    exact hp 0 (fun _ => rfl) (fun z => (a2 z).elim) (fun z => (a2 z).elim)
theorem k_X3_lineBetween {l : Launch} {D : va_G} {T : Nat → ClassId} {ad : Nat → Nat} (hO : xOk ad LX) : xMet l D T ad LX yX3_lineBetween cX3_lineBetween 3 (some .int) false 1 sp_X3_lineBetween :=
  xmet0 (rt := 1) (fld := fldX3) (cals := (calX3_lineBetween sp_X5_isBox sp_X5_hasBit)) (cst := []) (I := iX3_lineBetween) (cut := cutX3_lineBetween) hO (by decide +kernel) ⟨by decide, by decide, by decide⟩ oX3_lineBetween foX3 (fun _ h => absurd h List.not_mem_nil) (List.forall_mem_cons.mpr ⟨⟨yX5_isBox, cX5_isBox, 1, (some .boolean), 0, 1, by decide, yoX5_isBox, k_X5_isBox hO, loX3_58, Or.inl ⟨rfl, rfl⟩⟩, List.forall_mem_cons.mpr ⟨⟨yX5_hasBit, cX5_hasBit, 2, (some .boolean), 0, 2, by decide, yoX5_hasBit, k_X5_hasBit hO, loX3_62, Or.inl ⟨rfl, rfl⟩⟩, fun _ h => absurd h List.not_mem_nil⟩⟩) b_X3_lineBetween
theorem and2 {x y : Int} (hx : 0 ≤ x ∧ x < 1024) (hy : 0 ≤ y ∧ y < 1024) : (0 ≤ (xi x &&& xi y).toInt ∧ (xi x &&& xi y).toInt < 1024) ∧ ∀ n, tb (xi x &&& xi y).toInt n ↔ tb x n ∧ tb y n := by
  obtain ⟨a, rfl⟩ : ∃ a : Nat, x = a := ⟨x.toNat, by omega⟩
  obtain ⟨b, rfl⟩ : ∃ b : Nat, y = b := ⟨y.toNat, by omega⟩
  rw [bs_and (by omega)]
  have : a &&& b ≤ a := Nat.and_le_left
  exact ⟨⟨by omega, by omega⟩, fun n => by simp [tb, Nat.testBit_and]⟩
def wV (M : xM) : Prop := ∀ x, 0 ≤ x → x < 10 → (0 ≤ M 13 x ∧ M 13 x < 1024) ∧ (0 ≤ M 14 x ∧ M 14 x < 1024)
def f_X3_addLines (M : xM) (Post : xR) : Prop := ∃ R, JN M R ∧ wV M ∧ ∀ M' : xM, (∀ c, c ≠ 13 → c ≠ 14 → M' c = M c) → wV M' → (∀ x y, 0 ≤ x → x < 10 → 0 ≤ y → y < 10 → ((tb (M' 13 x) y ↔ tb (M 13 x) y ∨ R x y) ∧ (tb (M' 14 x) y ↔ tb (M 14 x) y ∧ R x y))) → Post 0 M'
abbrev sp_X3_addLines : xT := spV0 12 f_X3_addLines
set_option maxRecDepth 100000 in
set_option maxHeartbeats 4000000 in
theorem b_X3_addLines (as : List xV) (M : xM) (Post : xR) (h : sp_X3_addLines as M Post) : as.length ≤ 2 ∧ ∃ (Inv : xG) (μ : Nat → xL → List xV → xM → Nat) (f0 f1 : Nat), xw LX fldX3 (calX3_addLines sp_X1_joinedWith) [] 0 Post iX3_addLines cutX3_addLines Inv f0 0 (xlv as 2) [] M ∧ ∀ pc lv st M', Inv pc lv st M' → xw LX fldX3 (calX3_addLines sp_X1_joinedWith) [] 0 Post iX3_addLines cutX3_addLines (fun pc2 lv2 st2 M2 => Inv pc2 lv2 st2 M2 ∧ μ pc2 lv2 st2 M2 < μ pc lv st M') f1 pc lv st M' := by
  obtain ⟨rfl, h⟩ := h
  refine ⟨by simp, (fun pc lv st N => ∃ (i : Int), pc = 2 ∧ lv = [some (.inr 12), some (.inl i)] ∧ st = [] ∧ (0 ≤ i ∧ i ≤ 10) ∧ (∀ c, c ≠ 13 → c ≠ 14 → N c = M c) ∧ wV N ∧ (∀ x y, 0 ≤ x → x < i → 0 ≤ y → y < 10 → ((tb (N 13 x) y ↔ tb (M 13 x) y ∨ tb (M 9 x) y) ∧ (tb (N 14 x) y ↔ tb (M 14 x) y ∧ tb (M 9 x) y))) ∧ ∀ x, i ≤ x → x < 10 → N 13 x = M 13 x ∧ N 14 x = M 14 x), (fun pc lv st N => match lv with | [_, some (.inl i)] => (20 - i).toNat | _ => 0), 400, 400, Eq.mpr (vcX3_addLines_0 ..) ?_, ?_⟩
  · obtain ⟨R, hJ, hV, hp⟩ := h
    exact ⟨0, rfl, rfl, rfl, by omega, fun _ _ _ => rfl, hV, fun x y _ _ => by omega, fun _ _ _ => ⟨rfl, rfl⟩⟩
  · obtain ⟨R, hJ, hV, hp⟩ := h
    rintro pc lv st N ⟨i, rfl, rfl, rfl, h1, h2, h3, h4, h5⟩
    refine Eq.mpr (vcX3_addLines_2 ..) ?_
    have e9 : N 9 = M 9 := h2 9 (by decide) (by decide)
    refine ⟨⟨by omega, by omega⟩, ⟨by omega, by omega⟩, fun q => ?_, fun q => ⟨⟨by omega, by omega⟩, _, rfl, ⟨by omega, by omega⟩, ⟨by omega, by omega⟩, ⟨by omega, by omega⟩, _, rfl, ⟨by omega, by omega⟩, ⟨by omega, by omega⟩, ?_⟩⟩
    · refine hp N h2 h3 (fun x y a1 a2 a3 a4 => ?_)
      have := h4 x y a1 (by omega) a3 a4
      rw [hJ.2 x y a1 a2 a3 a4] at this
      exact this
    · have hi := hV i (by omega) q
      have h9 := hJ.1 i (by omega) q
      have h5i := h5 i (by omega) q
      have z9 : ∀ v : Int, (xup N 13 i v) 9 = M 9 := fun v => by rw [xup_ne (by decide)]; exact e9
      rw [z9, xup_ne (M := N) (c := 13) (c' := 14) (by decide), e9, h5i.1, h5i.2]
      have o := or2 hi.1 h9
      have a := and2 hi.2 h9
      generalize (xi (M 13 i) ||| xi (M 9 i)).toInt = u at o ⊢
      generalize (xi (M 14 i) &&& xi (M 9 i)).toInt = w at a ⊢
      refine ⟨⟨i + 1, rfl, rfl, rfl, by omega, fun c q1 q2 => by rw [xup_ne q2, xup_ne q1]; exact h2 c q1 q2, fun x a1 a2 => ?_, fun x y a1 a2 a3 a4 => ?_, fun x a1 a2 => ?_⟩, by (change Int.toNat _ < Int.toNat _); omega⟩
      · rw [xup_ne (c' := 13) (by decide), xup_at, xup_at, xup_ne (c' := 14) (by decide)]
        have := h3 x a1 a2
        refine ⟨?_, ?_⟩
        · split
          · exact o.1
          · exact this.1
        · split
          · exact a.1
          · exact this.2
      · rw [xup_ne (c' := 13) (by decide), xup_at, xup_at, xup_ne (c' := 14) (by decide)]
        by_cases hx : x = i
        · rw [if_pos hx, if_pos hx, hx]
          exact ⟨o.2 y, a.2 y⟩
        · rw [if_neg hx, if_neg hx]
          exact h4 x y a1 (by omega) a3 a4
      · rw [xup_ne (c' := 13) (by decide), xup_at, xup_at, xup_ne (c' := 14) (by decide), if_neg (by omega), if_neg (by omega)]
        exact h5 x (by omega) a2
theorem k_X3_addLines {l : Launch} {D : va_G} {T : Nat → ClassId} {ad : Nat → Nat} (hO : xOk ad LX) : xMet l D T ad LX yX3_addLines cX3_addLines 2 none true 2 sp_X3_addLines :=
  xmet (rt := 0) (fld := fldX3) (cals := (calX3_addLines sp_X1_joinedWith)) (cst := []) (I := iX3_addLines) (cut := cutX3_addLines) hO (by decide +kernel) ⟨by decide, by decide, by decide⟩ oX3_addLines foX3 (fun _ h => absurd h List.not_mem_nil) (List.forall_mem_cons.mpr ⟨⟨yX1_joinedWith, cX1_joinedWith, 2, (some .int), 1, 1, by decide, yoX1_joinedWith, k_X1_joinedWith hO, loX3_96, Or.inr ⟨rfl, rfl, 7, 1, [some 1, some 4, some 8, some 9], TX1, 4, rfl, rfl, spV1_r⟩⟩, fun _ h => absurd h List.not_mem_nil⟩) b_X3_addLines
def f_X3_addToHeap (a b d : Int) (M : xM) (Post : xR) : Prop := (0 ≤ a ∧ a < 6) ∧ (0 ≤ b ∧ b < 6) ∧ (-1 ≤ d ∧ d ≤ 9) ∧ Post 0 (xup M 15 ((a * 6 + b) * 11 + d + 1) (M 15 ((a * 6 + b) * 11 + d + 1) + 1))
abbrev sp_X3_addToHeap : xT := spV3 12 f_X3_addToHeap
set_option maxRecDepth 100000 in
set_option maxHeartbeats 4000000 in
theorem b_X3_addToHeap (as : List xV) (M : xM) (Post : xR) (h : sp_X3_addToHeap as M Post) : as.length ≤ 5 ∧ xw LX fldX3 calX3_addToHeap [] 0 Post iX3_addToHeap cutX3_addToHeap (fun _ _ _ _ => False) 400 0 (xlv as 5) [] M := by
  obtain ⟨v1, v2, v3, rfl, h⟩ := h
  refine ⟨by simp, ?_⟩
  refine Eq.mpr (vcX3_addToHeap_0 ..) ?_
  obtain ⟨ha, hb, hd, hp⟩ := h
  exact ⟨⟨by omega, by omega⟩, fun q => by omega, fun _ => ⟨⟨by omega, by omega⟩, ⟨by omega, by omega⟩, fun q => by omega, fun _ => ⟨⟨by omega, by omega⟩, ⟨by omega, by omega⟩, hp⟩⟩⟩
theorem k_X3_addToHeap {l : Launch} {D : va_G} {T : Nat → ClassId} {ad : Nat → Nat} (hO : xOk ad LX) : xMet l D T ad LX yX3_addToHeap cX3_addToHeap 5 none true 0 sp_X3_addToHeap :=
  xmet0 (rt := 0) (fld := fldX3) (cals := calX3_addToHeap) (cst := []) (I := iX3_addToHeap) (cut := cutX3_addToHeap) hO (by decide +kernel) ⟨by decide, by decide, by decide⟩ oX3_addToHeap foX3 (fun _ h => absurd h List.not_mem_nil) (fun _ h => absurd h List.not_mem_nil) b_X3_addToHeap
def mxI (f : Int → Int) : Nat → Int
  | 0 => 0
  | n + 1 => max (mxI f n) (f n)
theorem mxI_b {f : Int → Int} {c : Int} (hc : 0 ≤ c) : ∀ (n : Nat), (∀ j : Int, 0 ≤ j → j < n → 0 ≤ f j ∧ f j ≤ c) → 0 ≤ mxI f n ∧ mxI f n ≤ c := by
  intro n
  induction n with
  | zero => intro _; exact ⟨Int.le_refl _, hc⟩
  | succ n ih =>
    intro h
    have h1 := ih (fun j a b => h j a (by omega))
    have h2 := h n (by omega) (by omega)
    simp only [mxI]
    omega
theorem mxI_congr {f g : Int → Int} : ∀ (n : Nat), (∀ j : Int, 0 ≤ j → j < n → f j = g j) → mxI f n = mxI g n := by
  intro n
  induction n with
  | zero => intro _; rfl
  | succ n ih => intro h; simp only [mxI]; rw [ih (fun j a b => h j a (by omega)), h n (by omega) (by omega)]
def wH (M : xM) : Prop := ∀ j, 0 ≤ j → j < 396 → 0 ≤ M 15 j ∧ M 15 j ≤ 1000
def ghM (M : xM) (a b : Int) : Int := mxI (fun j => M 15 ((a * 6 + b) * 11 + j)) 11
def f_X3_greatestHeap (a b : Int) (M : xM) (Post : xR) : Prop := (0 ≤ a ∧ a < 6) ∧ (0 ≤ b ∧ b < 6) ∧ wH M ∧ Post (ghM M a b) M
abbrev sp_X3_greatestHeap : xT := spV2 12 f_X3_greatestHeap
set_option maxRecDepth 100000 in
set_option maxHeartbeats 4000000 in
theorem b_X3_greatestHeap (as : List xV) (M : xM) (Post : xR) (h : sp_X3_greatestHeap as M Post) : as.length ≤ 6 ∧ ∃ (Inv : xG) (μ : Nat → xL → List xV → xM → Nat) (f0 f1 : Nat), xw LX fldX3 (calX3_greatestHeap sp_J9_max_7cf53) [] 1 Post iX3_greatestHeap cutX3_greatestHeap Inv f0 0 (xlv as 6) [] M ∧ ∀ pc lv st M', Inv pc lv st M' → xw LX fldX3 (calX3_greatestHeap sp_J9_max_7cf53) [] 1 Post iX3_greatestHeap cutX3_greatestHeap (fun pc2 lv2 st2 M2 => Inv pc2 lv2 st2 M2 ∧ μ pc2 lv2 st2 M2 < μ pc lv st M') f1 pc lv st M' := by
  obtain ⟨v1, v2, rfl, h⟩ := h
  refine ⟨by simp, (fun pc lv st N => ∃ (i : Nat), pc = 17 ∧ lv = [some (.inr 12), some (.inl v1), some (.inl v2), some (.inl (mxI (fun j => M 15 ((v1 * 6 + v2) * 11 + j)) i)), some (.inl ((v1 * 6 + v2) * 11)), some (.inl ((v1 * 6 + v2) * 11 + (i : Int)))] ∧ st = [] ∧ M = N ∧ i ≤ 11), (fun pc lv st N => match lv with | [_, _, _, _, some (.inl s), some (.inl i)] => (20 - (i - s)).toNat | _ => 0), 400, 400, Eq.mpr (vcX3_greatestHeap_0 ..) ?_, ?_⟩
  · refine ⟨0, rfl, ?_, rfl, rfl, by omega⟩
    show _ = ([some (.inr 12), some (.inl v1), some (.inl v2), some (.inl 0), some (.inl ((v1 * 6 + v2) * 11)), some (.inl ((v1 * 6 + v2) * 11 + 0))] : xL)
    rw [Int.add_zero]
  · obtain ⟨ha, hb, hH, hp⟩ := h
    rintro pc lv st N ⟨i, rfl, rfl, rfl, rfl, h1⟩
    refine Eq.mpr (vcX3_greatestHeap_17 ..) ?_
    have hmb := mxI_b (f := fun j => M 15 ((v1 * 6 + v2) * 11 + j)) (c := 1000) (by omega) i (fun j a1 a2 => hH _ (by omega) (by omega))
    refine ⟨⟨by omega, by omega⟩, ⟨by omega, by omega⟩, fun q => ?_, fun q => ⟨⟨by omega, by omega⟩, ⟨by omega, by omega⟩, fun q1 => by omega, fun q1 => ⟨⟨by omega, by omega⟩, _, _, rfl, ⟨by omega, by omega⟩, ?_, ⟨i + 1, rfl, ?_, rfl, rfl, by omega⟩, by (change Int.toNat _ < Int.toNat _); omega⟩⟩⟩
    · rw [show i = 11 by omega]
      exact hp
    · have := hH ((v1 * 6 + v2) * 11 + i) (by omega) (by omega)
      exact ⟨by omega, by omega⟩
    · rw [show (v1 * 6 + v2) * 11 + (i : Int) + 1 = (v1 * 6 + v2) * 11 + ((i + 1 : Nat) : Int) by omega]
      rfl
theorem k_X3_greatestHeap {l : Launch} {D : va_G} {T : Nat → ClassId} {ad : Nat → Nat} (hO : xOk ad LX) : xMet l D T ad LX yX3_greatestHeap cX3_greatestHeap 6 (some .int) false 1 sp_X3_greatestHeap :=
  xmet2 (rt := 1) (fld := fldX3) (cals := (calX3_greatestHeap sp_J9_max_7cf53)) (cst := []) (I := iX3_greatestHeap) (cut := cutX3_greatestHeap) hO (by decide +kernel) ⟨by decide, by decide, by decide⟩ oX3_greatestHeap foX3 (fun _ h => absurd h List.not_mem_nil) (List.forall_mem_cons.mpr ⟨Or.inr ⟨by decide, xm 48 (by decide +kernel) rfl, Or.inl ⟨rfl, xm 536 (by decide +kernel) rfl, xm 371 (by decide +kernel) rfl, xm 372 (by decide +kernel) rfl⟩⟩, fun _ h => absurd h List.not_mem_nil⟩) b_X3_greatestHeap
end
section
/-! Survey: the pair that is chosen, heaps, make -/
abbrev bSt : Type := Option (Int × Int × Int)
noncomputable def stB (sn : Int → Prop) (g : Int → Int → Int) (s : bSt) (a b : Int) : bSt := @ite _ (sn a ∧ sn b) (Classical.propDecidable _) (match s with
  | none => some (a, b, g a b)
  | some (x, y, h) => if g a b < h then some (a, b, g a b) else some (x, y, h)) s
noncomputable def rowB (sn : Int → Prop) (g : Int → Int → Int) (a : Nat) (s : bSt) : Nat → bSt
  | 0 => s
  | j + 1 => stB sn g (rowB sn g a s j) a ((a : Int) + 1 + j)
noncomputable def allB (sn : Int → Prop) (g : Int → Int → Int) : Nat → bSt
  | 0 => none
  | a + 1 => rowB sn g a (allB sn g a) (5 - a)
theorem stB_congr {sn sn' : Int → Prop} {g g' : Int → Int → Int} {s : bSt} {a b : Int} (h1 : sn a ↔ sn' a) (h2 : sn b ↔ sn' b) (h3 : sn a → sn b → g a b = g' a b) : stB sn g s a b = stB sn' g' s a b := by
  unfold stB
  by_cases h : sn a ∧ sn b
  · rw [if_pos h, if_pos ⟨h1.mp h.1, h2.mp h.2⟩, h3 h.1 h.2]
  · rw [if_neg h, if_neg (fun z => h ⟨h1.mpr z.1, h2.mpr z.2⟩)]
theorem rowB_congr {sn sn' : Int → Prop} {g g' : Int → Int → Int} {a : Nat} {s : bSt} (hs : ∀ n, 0 ≤ n → n < 6 → (sn n ↔ sn' n)) (hg : ∀ x y, 0 ≤ x → x < y → y < 6 → sn x → sn y → g x y = g' x y) : ∀ j, a + 1 + j ≤ 6 → rowB sn g a s j = rowB sn' g' a s j := by
  intro j
  induction j with
  | zero => intro _; rfl
  | succ j ih =>
    intro hj
    simp only [rowB]
    rw [ih (by omega)]
    exact stB_congr (hs _ (by omega) (by omega)) (hs _ (by omega) (by omega)) (hg _ _ (by omega) (by omega) (by omega))
theorem allB_congr {sn sn' : Int → Prop} {g g' : Int → Int → Int} (hs : ∀ n, 0 ≤ n → n < 6 → (sn n ↔ sn' n)) (hg : ∀ x y, 0 ≤ x → x < y → y < 6 → sn x → sn y → g x y = g' x y) : ∀ a, a ≤ 6 → allB sn g a = allB sn' g' a := by
  intro a
  induction a with
  | zero => intro _; rfl
  | succ a ih =>
    intro ha
    simp only [allB]
    rw [ih (by omega)]
    by_cases h5 : a = 5
    · subst h5; rfl
    · exact rowB_congr hs hg _ (by omega)
theorem stB_T (g : Int → Int → Int) (s : bSt) (a b : Int) : stB (fun _ => True) g s a b = match s with
    | none => some (a, b, g a b)
    | some (x, y, h) => if g a b < h then some (a, b, g a b) else some (x, y, h) := by
  unfold stB
  exact if_pos (show (fun _ : Int => True) a ∧ (fun _ : Int => True) b from ⟨trivial, trivial⟩)
/-- the class's two fields hold this choice -/
def cbO (M : xM) (s : bSt) : Prop := match s with
  | none => M 12 8 = -6 ∧ M 12 9 = -6
  | some (a, b, h) => M 12 8 = 10 * a + b ∧ M 12 9 = h ∧ 0 ≤ a ∧ 0 ≤ b ∧ a < 6 ∧ b < 6 ∧ 0 ≤ h ∧ h ≤ 1000
def f_X3_choose (a b : Int) (M : xM) (Post : xR) : Prop := ∃ s : bSt, (0 ≤ a ∧ a < 6) ∧ (0 ≤ b ∧ b < 6) ∧ wH M ∧ cbO M s ∧ ∀ M' : xM, (∀ c, c ≠ 12 → M' c = M c) → M' 12 7 = M 12 7 → cbO M' (stB (fun _ => True) (ghM M) s a b) → Post 0 M'
abbrev sp_X3_choose : xT := spV2 12 f_X3_choose
set_option maxRecDepth 100000 in
set_option maxHeartbeats 4000000 in
theorem b_X3_choose (as : List xV) (M : xM) (Post : xR) (h : sp_X3_choose as M Post) : as.length ≤ 4 ∧ xw LX fldX3 (calX3_choose sp_X3_greatestHeap) [] 0 Post iX3_choose cutX3_choose (fun _ _ _ _ => False) 400 0 (xlv as 4) [] M := by
  obtain ⟨v1, v2, rfl, h⟩ := h
  refine ⟨by simp, ?_⟩
  refine Eq.mpr (vcX3_choose_0 ..) ?_
  obtain ⟨s, ha, hb, hH, hs, hp⟩ := h
  have hg := mxI_b (f := fun j => M 15 ((v1 * 6 + v2) * 11 + j)) (c := 1000) (by omega) 11 (fun j a1 a2 => hH _ (by omega) (by omega))
  have hg : 0 ≤ ghM M v1 v2 ∧ ghM M v1 v2 ≤ 1000 := hg
  rw [stB_T] at hp
  refine ⟨_, _, rfl, ha, hb, hH, ?_⟩
  have hnew : cbO (xup (xup M 12 8 (10 * v1 + v2)) 12 9 (ghM M v1 v2)) (some (v1, v2, ghM M v1 v2)) := ⟨by simp [xup], by simp [xup], by omega, by omega, by omega, by omega, hg.1, hg.2⟩
  have hfr : ∀ c, c ≠ 12 → (xup (xup M 12 8 (10 * v1 + v2)) 12 9 (ghM M v1 v2)) c = M c := fun c hc => by rw [xup_ne hc, xup_ne hc]
  have h7 : (xup (xup M 12 8 (10 * v1 + v2)) 12 9 (ghM M v1 v2)) 12 7 = M 12 7 := by simp [xup]
  cases s with
  | none =>
    obtain ⟨c1, c2⟩ := hs
    refine ⟨⟨by omega, by omega⟩, ⟨by omega, by omega⟩, fun q => hp _ hfr h7 hnew, fun q => by omega⟩
  | some s =>
    obtain ⟨x, y, z⟩ := s
    obtain ⟨c1, c2, c3, c4, c5, c6, c7, c8⟩ := id hs
    dsimp only at hp
    refine ⟨⟨by omega, by omega⟩, ⟨by omega, by omega⟩, fun q => by omega, fun q => ⟨⟨by omega, by omega⟩, ⟨by omega, by omega⟩, fun q1 => ?_, fun q1 => ?_⟩⟩
    · rw [if_neg (by omega)] at hp
      exact hp M (fun _ _ => rfl) rfl hs
    · rw [if_pos (by omega)] at hp
      exact hp _ hfr h7 hnew
theorem k_X3_choose {l : Launch} {D : va_G} {T : Nat → ClassId} {ad : Nat → Nat} (hO : xOk ad LX) : xMet l D T ad LX yX3_choose cX3_choose 4 none true 2 sp_X3_choose :=
  xmet0 (rt := 0) (fld := fldX3) (cals := (calX3_choose sp_X3_greatestHeap)) (cst := []) (I := iX3_choose) (cut := cutX3_choose) hO (by decide +kernel) ⟨by decide, by decide, by decide⟩ oX3_choose foX3 (fun _ h => absurd h List.not_mem_nil) (List.forall_mem_cons.mpr ⟨⟨yX3_greatestHeap, cX3_greatestHeap, 6, (some .int), 1, 2, by decide, yoX3_greatestHeap, k_X3_greatestHeap hO, loX3_112, Or.inr ⟨rfl, rfl, 12, 3, [some 1, some 4, some 7, some 10, some 13, some 14, some 15, none, none, none], TX3, 10, rfl, rfl, spV2_r⟩⟩, fun _ h => absurd h List.not_mem_nil⟩) b_X3_choose
def f_X3_choosePair (x : Int) (M : xM) (Post : xR) : Prop := (0 ≤ x ∧ x < 64) ∧ wH M ∧ ∀ M' : xM, (∀ c, c ≠ 12 → M' c = M c) → M' 12 7 = M 12 7 → cbO M' (allB (tb x) (ghM M) 6) → Post 0 M'
abbrev sp_X3_choosePair : xT := spV1 12 f_X3_choosePair
set_option maxRecDepth 100000 in
set_option maxHeartbeats 4000000 in
theorem b_X3_choosePair (as : List xV) (M : xM) (Post : xR) (h : sp_X3_choosePair as M Post) : as.length ≤ 4 ∧ ∃ (Inv : xG) (μ : Nat → xL → List xV → xM → Nat) (f0 f1 : Nat), xw LX fldX3 (calX3_choosePair sp_X5_hasBit sp_X3_choose) [] 0 Post iX3_choosePair cutX3_choosePair Inv f0 0 (xlv as 4) [] M ∧ ∀ pc lv st M', Inv pc lv st M' → xw LX fldX3 (calX3_choosePair sp_X5_hasBit sp_X3_choose) [] 0 Post iX3_choosePair cutX3_choosePair (fun pc2 lv2 st2 M2 => Inv pc2 lv2 st2 M2 ∧ μ pc2 lv2 st2 M2 < μ pc lv st M') f1 pc lv st M' := by
  obtain ⟨v1, rfl, h⟩ := h
  refine ⟨by simp, (fun pc lv st N => (∃ (a : Nat) (o3 : Option xV), pc = 14 ∧ lv = [some (.inr 12), some (.inl v1), some (.inl (a : Int)), o3] ∧ st = [] ∧ a ≤ 6 ∧ (∀ c, c ≠ 12 → N c = M c) ∧ N 12 7 = M 12 7 ∧ cbO N (allB (tb v1) (ghM M) a)) ∨ (∃ (a j : Nat), pc = 24 ∧ lv = [some (.inr 12), some (.inl v1), some (.inl (a : Int)), some (.inl ((a : Int) + 1 + j))] ∧ st = [] ∧ a < 6 ∧ j ≤ 5 - a ∧ (∀ c, c ≠ 12 → N c = M c) ∧ N 12 7 = M 12 7 ∧ cbO N (rowB (tb v1) (ghM M) a (allB (tb v1) (ghM M) a) j))), (fun pc lv st N => match pc, lv with | 14, [_, _, some (.inl a), _] => ((7 - a) * 100).toNat | 24, [_, _, some (.inl a), some (.inl b)] => ((6 - a) * 100 + 50 - b).toNat | _, _ => 0), 400, 400, Eq.mpr (vcX3_choosePair_0 ..) ?_, ?_⟩
  · obtain ⟨hx, hH, hp⟩ := h
    exact Or.inl ⟨0, none, rfl, rfl, rfl, by omega, fun c hc => by rw [xup_ne hc, xup_ne hc], by simp [xup], by simp [xup], by simp [xup]⟩
  · obtain ⟨hx, hH, hp⟩ := h
    rintro pc lv st N (⟨a, o3, rfl, rfl, rfl, h1, h2, h3, h4⟩ | ⟨a, j, rfl, rfl, rfl, h1, h2, h3, h4, h5⟩)
    · refine Eq.mpr (vcX3_choosePair_14 ..) ?_
      refine ⟨⟨by omega, by omega⟩, ⟨by omega, by omega⟩, fun q => ?_, fun q => ⟨Or.inr ⟨a, 0, rfl, ?_, rfl, by omega, by omega, h2, h3, h4⟩, by (change Int.toNat _ < Int.toNat _); omega⟩⟩
      · rw [show a = 6 by omega] at h4
        exact hp N h2 h3 h4
      · show _ = ([some (.inr 12), some (.inl v1), some (.inl (a : Int)), some (.inl ((a : Int) + 1 + 0))] : xL)
        rw [Int.add_zero]
    · refine Eq.mpr (vcX3_choosePair_24 ..) ?_
      have e15 : N 15 = M 15 := h3 15 (by decide)
      have hHN : wH N := by unfold wH; rw [e15]; exact hH
      have eg : ghM N = ghM M := by funext u w; unfold ghM; rw [e15]
      have hnx : ∀ N' : xM, j < 5 - a → (∀ c, c ≠ 12 → N' c = M c) → N' 12 7 = M 12 7 → cbO N' (rowB (tb v1) (ghM M) a (allB (tb v1) (ghM M) a) (j + 1)) → (∃ (a' j' : Nat), (24 : Nat) = 24 ∧ ([some (.inr 12), some (.inl v1), some (.inl (a : Int)), some (.inl ((a : Int) + 1 + j + 1))] : xL) = [some (.inr 12), some (.inl v1), some (.inl (a' : Int)), some (.inl ((a' : Int) + 1 + j'))] ∧ ([] : List xV) = [] ∧ a' < 6 ∧ j' ≤ 5 - a' ∧ (∀ c, c ≠ 12 → N' c = M c) ∧ N' 12 7 = M 12 7 ∧ cbO N' (rowB (tb v1) (ghM M) a' (allB (tb v1) (ghM M) a') j')) := by
        intro N' k0 k1 k2 k3
        refine ⟨a, j + 1, rfl, ?_, rfl, h1, by omega, k1, k2, k3⟩
        rw [show (a : Int) + 1 + j + 1 = (a : Int) + 1 + ((j + 1 : Nat) : Int) by omega]
      refine ⟨⟨by omega, by omega⟩, ⟨by omega, by omega⟩, fun q => ⟨Or.inl ⟨a + 1, _, rfl, rfl, rfl, by omega, h3, h4, ?_⟩, by (change Int.toNat _ < Int.toNat _); omega⟩, fun q => ⟨_, _, rfl, ⟨by omega, by omega⟩, ⟨by omega, by omega⟩, fun r1 hr1 => ⟨⟨by omega, by omega⟩, fun q1 => ⟨Or.inr (hnx N (by omega) h3 h4 ?_), by (change Int.toNat _ < Int.toNat _); omega⟩, fun q1 => ⟨_, _, rfl, ⟨by omega, by omega⟩, ⟨by omega, by omega⟩, fun r2 hr2 => ⟨⟨by omega, by omega⟩, fun q2 => ⟨Or.inr (hnx N (by omega) h3 h4 ?_), by (change Int.toNat _ < Int.toNat _); omega⟩, fun q2 => ⟨_, _, rfl, _, ⟨by omega, by omega⟩, ⟨by omega, by omega⟩, hHN, h5, fun N' g1 g2 g3 => ⟨Or.inr (hnx N' (by omega) (fun c hc => by rw [g1 c hc]; exact h3 c hc) (by rw [g2]; exact h4) ?_), by (change Int.toNat _ < Int.toNat _); omega⟩⟩⟩⟩⟩⟩⟩
      · rw [show j = 5 - a by omega] at h5
        exact h5
      · have hn : ¬ tb v1 a := hr1.elim (fun z => by omega) (fun z => z.2)
        have : rowB (tb v1) (ghM M) a (allB (tb v1) (ghM M) a) (j + 1) = rowB (tb v1) (ghM M) a (allB (tb v1) (ghM M) a) j := by
          simp only [rowB]; unfold stB; exact if_neg (fun z => hn z.1)
        rw [this]; exact h5
      · have hn : ¬ tb v1 ((a : Int) + 1 + j) := hr2.elim (fun z => by omega) (fun z => z.2)
        have : rowB (tb v1) (ghM M) a (allB (tb v1) (ghM M) a) (j + 1) = rowB (tb v1) (ghM M) a (allB (tb v1) (ghM M) a) j := by
          simp only [rowB]; unfold stB; exact if_neg (fun z => hn z.2)
        rw [this]; exact h5
      · have p1 : tb v1 a := hr1.elim (fun z => z.2) (fun z => (q1 z.1).elim)
        have p2 : tb v1 ((a : Int) + 1 + j) := hr2.elim (fun z => z.2) (fun z => (q2 z.1).elim)
        rw [eg] at g3
        have : stB (fun _ => True) (ghM M) (rowB (tb v1) (ghM M) a (allB (tb v1) (ghM M) a) j) a ((a : Int) + 1 + j) = rowB (tb v1) (ghM M) a (allB (tb v1) (ghM M) a) (j + 1) := stB_congr ⟨fun _ => p1, fun _ => trivial⟩ ⟨fun _ => p2, fun _ => trivial⟩ (fun _ _ => rfl)
        rw [← this]; exact g3
theorem k_X3_choosePair {l : Launch} {D : va_G} {T : Nat → ClassId} {ad : Nat → Nat} (hO : xOk ad LX) : xMet l D T ad LX yX3_choosePair cX3_choosePair 4 none true 3 sp_X3_choosePair :=
  xmet (rt := 0) (fld := fldX3) (cals := (calX3_choosePair sp_X5_hasBit sp_X3_choose)) (cst := []) (I := iX3_choosePair) (cut := cutX3_choosePair) hO (by decide +kernel) ⟨by decide, by decide, by decide⟩ oX3_choosePair foX3 (fun _ h => absurd h List.not_mem_nil) (List.forall_mem_cons.mpr ⟨⟨yX5_hasBit, cX5_hasBit, 2, (some .boolean), 0, 2, by decide, yoX5_hasBit, k_X5_hasBit hO, loX3_62, Or.inl ⟨rfl, rfl⟩⟩, List.forall_mem_cons.mpr ⟨⟨yX3_choose, cX3_choose, 4, none, 2, 2, by decide, yoX3_choose, k_X3_choose hO, loX3_108, Or.inr ⟨rfl, rfl, 12, 3, [some 1, some 4, some 7, some 10, some 13, some 14, some 15, none, none, none], TX3, 10, rfl, rfl, spV2_r⟩⟩, fun _ h => absurd h List.not_mem_nil⟩⟩) b_X3_choosePair
end
section
/-! Survey: addWays, make -/
def f_X3_addWays (x : Int) (M : xM) (Post : xR) : Prop := ∃ R, JN M R ∧ in10 R ∧ wT M ∧ (0 ≤ x ∧ x < 64) ∧ ∀ M' : xM, (∀ c, c ≠ 15 → M' c = M c) → (∀ a b d, 0 ≤ a → a < b → b < 6 → -1 ≤ d → d ≤ 9 → tb x a → tb x b → M' 15 ((a * 6 + b) * 11 + d + 1) = M 15 ((a * 6 + b) * 11 + d + 1) + (bb (isD R (M 5 a) (M 5 b) d) : Nat)) → (∀ j, M 15 j ≤ M' 15 j ∧ M' 15 j ≤ M 15 j + 1) → Post 0 M'
abbrev sp_X3_addWays : xT := spV1 12 f_X3_addWays
set_option maxRecDepth 100000 in
set_option maxHeartbeats 4000000 in
theorem b_X3_addWays (as : List xV) (M : xM) (Post : xR) (h : sp_X3_addWays as M Post) : as.length ≤ 4 ∧ ∃ (Inv : xG) (μ : Nat → xL → List xV → xM → Nat) (f0 f1 : Nat), xw LX fldX3 (calX3_addWays sp_X5_hasBit sp_X4_box sp_X1_way sp_X3_addToHeap) [] 0 Post iX3_addWays cutX3_addWays Inv f0 0 (xlv as 4) [] M ∧ ∀ pc lv st M', Inv pc lv st M' → xw LX fldX3 (calX3_addWays sp_X5_hasBit sp_X4_box sp_X1_way sp_X3_addToHeap) [] 0 Post iX3_addWays cutX3_addWays (fun pc2 lv2 st2 M2 => Inv pc2 lv2 st2 M2 ∧ μ pc2 lv2 st2 M2 < μ pc lv st M') f1 pc lv st M' := by
  obtain ⟨v1, rfl, h⟩ := h
  refine ⟨by simp, (fun pc lv st N => (∃ (R : Int → Int → Prop) (a : Int) (o3 : Option xV), pc = 2 ∧ lv = [some (.inr 12), some (.inl v1), some (.inl a), o3] ∧ st = [] ∧ JN M R ∧ in10 R ∧ (∀ M' : xM, (∀ c, c ≠ 15 → M' c = M c) → (∀ a b d, 0 ≤ a → a < b → b < 6 → -1 ≤ d → d ≤ 9 → tb v1 a → tb v1 b → M' 15 ((a * 6 + b) * 11 + d + 1) = M 15 ((a * 6 + b) * 11 + d + 1) + (bb (isD R (M 5 a) (M 5 b) d) : Nat)) → (∀ j, M 15 j ≤ M' 15 j ∧ M' 15 j ≤ M 15 j + 1) → Post 0 M') ∧ (0 ≤ a ∧ a ≤ 6) ∧ (∀ c, c ≠ 15 → N c = M c) ∧ (∀ u w d, 0 ≤ u → u < w → w < 6 → -1 ≤ d → d ≤ 9 → u < a → tb v1 u → tb v1 w → N 15 ((u * 6 + w) * 11 + d + 1) = M 15 ((u * 6 + w) * 11 + d + 1) + (bb (isD R (M 5 u) (M 5 w) d) : Nat)) ∧ (∀ u w d, 0 ≤ u → u < w → w < 6 → -1 ≤ d → d ≤ 9 → a ≤ u → N 15 ((u * 6 + w) * 11 + d + 1) = M 15 ((u * 6 + w) * 11 + d + 1)) ∧ ∀ j, M 15 j ≤ N 15 j ∧ N 15 j ≤ M 15 j + 1) ∨ (∃ (R : Int → Int → Prop) (a b : Int), pc = 12 ∧ lv = [some (.inr 12), some (.inl v1), some (.inl a), some (.inl b)] ∧ st = [] ∧ JN M R ∧ in10 R ∧ (∀ M' : xM, (∀ c, c ≠ 15 → M' c = M c) → (∀ a b d, 0 ≤ a → a < b → b < 6 → -1 ≤ d → d ≤ 9 → tb v1 a → tb v1 b → M' 15 ((a * 6 + b) * 11 + d + 1) = M 15 ((a * 6 + b) * 11 + d + 1) + (bb (isD R (M 5 a) (M 5 b) d) : Nat)) → (∀ j, M 15 j ≤ M' 15 j ∧ M' 15 j ≤ M 15 j + 1) → Post 0 M') ∧ (0 ≤ a ∧ a < 6) ∧ (a < b ∧ b ≤ 6) ∧ (∀ c, c ≠ 15 → N c = M c) ∧ (∀ u w d, 0 ≤ u → u < w → w < 6 → -1 ≤ d → d ≤ 9 → (u < a ∨ u = a ∧ w < b) → tb v1 u → tb v1 w → N 15 ((u * 6 + w) * 11 + d + 1) = M 15 ((u * 6 + w) * 11 + d + 1) + (bb (isD R (M 5 u) (M 5 w) d) : Nat)) ∧ (∀ u w d, 0 ≤ u → u < w → w < 6 → -1 ≤ d → d ≤ 9 → (a < u ∨ u = a ∧ b ≤ w) → N 15 ((u * 6 + w) * 11 + d + 1) = M 15 ((u * 6 + w) * 11 + d + 1)) ∧ ∀ j, M 15 j ≤ N 15 j ∧ N 15 j ≤ M 15 j + 1)), (fun pc lv st N => match pc, lv with | 2, [_, _, some (.inl a), _] => ((7 - a) * 100).toNat | 12, [_, _, some (.inl a), some (.inl b)] => ((6 - a) * 100 + 50 - b).toNat | _, _ => 0), 400, 400, Eq.mpr (vcX3_addWays_0 ..) ?_, ?_⟩
  · obtain ⟨R, hJ, hR, hT, hx, hp⟩ := h
    exact Or.inl ⟨R, 0, none, rfl, rfl, rfl, hJ, hR, hp, by omega, fun _ _ => rfl, fun u w d _ _ _ _ _ _ => by omega, fun _ _ _ _ _ _ _ _ _ => rfl, fun j => by omega⟩
  · obtain ⟨-, -, -, hT, hx, -⟩ := h
    rintro pc lv st N (⟨R, a, o3, rfl, rfl, rfl, hJ, hR, hp, h1, h2, h3, h4, h5⟩ | ⟨R, a, b, rfl, rfl, rfl, hJ, hR, hp, h1, h2, h3, h4, h5, h6⟩)
    · refine Eq.mpr (vcX3_addWays_2 ..) ?_
      refine ⟨⟨by omega, by omega⟩, ⟨by omega, by omega⟩, fun q => hp N h2 (fun u w d a1 a2 a3 a4 a5 => h3 u w d a1 a2 a3 a4 a5 (by omega)) h5, fun q => ⟨Or.inr ⟨R, a, a + 1, rfl, rfl, rfl, hJ, hR, hp, by omega, by omega, h2, fun u w d a1 a2 a3 a4 a5 a6 => h3 u w d a1 a2 a3 a4 a5 (by omega), fun u w d a1 a2 a3 a4 a5 a6 => h4 u w d a1 a2 a3 a4 a5 (by omega), h5⟩, by (change Int.toNat _ < Int.toNat _); omega⟩⟩
    · refine Eq.mpr (vcX3_addWays_12 ..) ?_
      have e5 : N 5 = M 5 := h3 5 (by decide)
      have e9 : N 9 = M 9 := h3 9 (by decide)
      have hJN : JN N R := by unfold JN wJ; rw [e9]; exact hJ
      have skip : (¬ tb v1 a ∨ ¬ tb v1 b) → ∀ u w d, 0 ≤ u → u < w → w < 6 → -1 ≤ d → d ≤ 9 → (u < a ∨ u = a ∧ w < b + 1) → tb v1 u → tb v1 w → N 15 ((u * 6 + w) * 11 + d + 1) = M 15 ((u * 6 + w) * 11 + d + 1) + (bb (isD R (M 5 u) (M 5 w) d) : Nat) := by
        intro hn u w d a1 a2 a3 a4 a5 a6 t1 t2
        refine h4 u w d a1 a2 a3 a4 a5 ?_ t1 t2
        apply Classical.byContradiction
        intro hz
        have hu : u = a := by omega
        have hwb : w = b := by omega
        subst hu; subst hwb
        rcases hn with z | z
        · exact z t1
        · exact z t2
      refine ⟨⟨by omega, by omega⟩, ⟨by omega, by omega⟩, fun q => ⟨Or.inl ⟨R, a + 1, _, rfl, rfl, rfl, hJ, hR, hp, by omega, h3, fun u w d a1 a2 a3 a4 a5 a6 => h4 u w d a1 a2 a3 a4 a5 (by omega), fun u w d a1 a2 a3 a4 a5 a6 => h5 u w d a1 a2 a3 a4 a5 (by omega), h6⟩, by (change Int.toNat _ < Int.toNat _); omega⟩, fun q => ⟨_, _, rfl, ⟨by omega, by omega⟩, ⟨by omega, by omega⟩, fun r1 hr1 => ⟨⟨by omega, by omega⟩, fun q1 => ⟨Or.inr ⟨R, a, b + 1, rfl, rfl, rfl, hJ, hR, hp, h1, by omega, h3, skip (Or.inl (hr1.elim (fun z => by omega) (fun z => z.2))), fun u w d a1 a2 a3 a4 a5 a6 => h5 u w d a1 a2 a3 a4 a5 (by omega), h6⟩, by (change Int.toNat _ < Int.toNat _); omega⟩, fun q1 => ⟨_, _, rfl, ⟨by omega, by omega⟩, ⟨by omega, by omega⟩, fun r2 hr2 => ⟨⟨by omega, by omega⟩, fun q2 => ⟨Or.inr ⟨R, a, b + 1, rfl, rfl, rfl, hJ, hR, hp, h1, by omega, h3, skip (Or.inr (hr2.elim (fun z => by omega) (fun z => z.2))), fun u w d a1 a2 a3 a4 a5 a6 => h5 u w d a1 a2 a3 a4 a5 (by omega), h6⟩, by (change Int.toNat _ < Int.toNat _); omega⟩, fun q2 => ⟨_, rfl, ⟨by omega, by omega⟩, _, rfl, ⟨by omega, by omega⟩, _, _, rfl, R, hJN, hR, ?_, ?_, fun d hd => ?_⟩⟩⟩⟩⟩⟩
      · rw [e5]; have := hT.1 a h1.1 h1.2; omega
      · rw [e5]; have := hT.1 b (by omega) q; omega
      · rw [e5] at hd
        have hdb : -1 ≤ d ∧ d ≤ 9 := by
          rcases hd with ⟨k, rfl, hk, _⟩ | ⟨rfl, _⟩ <;> omega
        refine ⟨_, _, _, rfl, h1, ⟨by omega, by omega⟩, hdb, ⟨Or.inr ⟨R, a, b + 1, rfl, rfl, rfl, hJ, hR, hp, h1, by omega, fun c hc => by rw [xup_ne hc]; exact h3 c hc, fun u w e a1 a2 a3 a4 a5 a6 t1 t2 => ?_, fun u w e a1 a2 a3 a4 a5 a6 => ?_, fun j => ?_⟩, by (change Int.toNat _ < Int.toNat _); omega⟩⟩
        · rw [xup_at]
          by_cases hub : u = a ∧ w = b
          · obtain ⟨rfl, rfl⟩ := hub
            by_cases hed : e = d
            · subst hed
              rw [if_pos rfl, bb1 hd, h5 u w e a1 a2 a3 a4 a5 (by omega)]
              rfl
            · rw [if_neg (by omega), bb0 (fun z => hed (isD_uniq z hd)), h5 u w e a1 a2 a3 a4 a5 (by omega)]
              exact (Int.add_zero _).symm
          · rw [if_neg (by omega)]
            exact h4 u w e a1 a2 a3 a4 a5 (by omega) t1 t2
        · rw [xup_at, if_neg (by omega)]
          exact h5 u w e a1 a2 a3 a4 a5 (by omega)
        · rw [xup_at]
          by_cases hj : j = (a * 6 + b) * 11 + d + 1
          · rw [if_pos hj, hj, h5 a b d h1.1 (by omega) q hdb.1 hdb.2 (by omega)]
            omega
          · rw [if_neg hj]; exact h6 j
theorem k_X3_addWays {l : Launch} {D : va_G} {T : Nat → ClassId} {ad : Nat → Nat} (hO : xOk ad LX) : xMet l D T ad LX yX3_addWays cX3_addWays 4 none true 2 sp_X3_addWays :=
  xmet (rt := 0) (fld := fldX3) (cals := (calX3_addWays sp_X5_hasBit sp_X4_box sp_X1_way sp_X3_addToHeap)) (cst := []) (I := iX3_addWays) (cut := cutX3_addWays) hO (by decide +kernel) ⟨by decide, by decide, by decide⟩ oX3_addWays foX3 (fun _ h => absurd h List.not_mem_nil) (List.forall_mem_cons.mpr ⟨⟨yX5_hasBit, cX5_hasBit, 2, (some .boolean), 0, 2, by decide, yoX5_hasBit, k_X5_hasBit hO, loX3_62, Or.inl ⟨rfl, rfl⟩⟩, List.forall_mem_cons.mpr ⟨⟨yX4_box, cX4_box, 2, (some .int), 0, 1, by decide, yoX4_box, k_X4_box hO, loX3_99, Or.inr ⟨rfl, rfl, 4, 4, [some 5, some 6, none], TX4, 3, rfl, rfl, spV1_r⟩⟩, List.forall_mem_cons.mpr ⟨⟨yX1_way, cX1_way, 7, (some .int), 1, 2, by decide, yoX1_way, k_X1_way hO, loX3_54, Or.inr ⟨rfl, rfl, 7, 1, [some 1, some 4, some 8, some 9], TX1, 4, rfl, rfl, spV2_r⟩⟩, List.forall_mem_cons.mpr ⟨⟨yX3_addToHeap, cX3_addToHeap, 5, none, 0, 3, by decide, yoX3_addToHeap, k_X3_addToHeap hO, loX3_104, Or.inr ⟨rfl, rfl, 12, 3, [some 1, some 4, some 7, some 10, some 13, some 14, some 15, none, none, none], TX3, 10, rfl, rfl, spV3_r⟩⟩, fun _ h => absurd h List.not_mem_nil⟩⟩⟩⟩) b_X3_addWays
/-- how many LEAST NETS have this distance -/
noncomputable def hpc (S : dS) (a b d : Int) : Int := ((cP (fun A => isD (Adj S all0 (plL S A)) (S.2.2.2 a) (S.2.2.2 b) d) (LNs S).2.2 : Nat) : Int)
noncomputable def gB (S : dS) (a b : Int) : Int := mxI (fun j => hpc S a b (j - 1)) 11
noncomputable def NXT (S : dS) : bSt := allB (nmS S) (gB S) 6
def svO (M : xM) (S : dS) : Prop := wV M ∧ (∀ x y, 0 ≤ x → x < 10 → 0 ≤ y → y < 10 → ((tb (M 13 x) y ↔ ∃ A ∈ (LNs S).2.2, Adj S all0 (plL S A) x y) ∧ (tb (M 14 x) y ↔ ∀ A ∈ (LNs S).2.2, Adj S all0 (plL S A) x y))) ∧ cbO M (NXT S)
theorem LN_kept (S : dS) : ∀ A ∈ (LNs S).2.2, A ∈ enm (thB S) (mS S) 0 ∧ Fit S A := by
  intro A hA
  have hk := fold_kept (Fit := Fit S) (nl := nlL S) (enm (thB S) (mS S) 0) init0 [] ⟨List.Sublist.refl _, fun B hB => by cases hB⟩
  rw [List.nil_append] at hk
  exact ⟨hk.1.subset hA, (hk.2 A hA).1⟩
theorem LN_369 {S : dS} (hw : wfS S) : (LNs S).2.2.length ≤ 369 := kept_le (mS_4 hw) (forb hw) (rest := []) (by rw [List.append_nil])
theorem take_mem {α : Type} {l : List α} {k : Nat} {A B : α} (hA : l[k]? = some A) : B ∈ l.take (k + 1) ↔ B ∈ l.take k ∨ B = A := by
  have hk := (List.getElem?_eq_some_iff.mp hA)
  rw [List.take_succ, hA]
  simp
theorem cP_take {P : List Int → Prop} {l : List (List Int)} {k : Nat} {A : List Int} (hA : l[k]? = some A) : cP P (l.take (k + 1)) = cP P (l.take k) + bb (P A) := by
  rw [List.take_succ, hA, cP_app]
  rfl
theorem cP_le (P : List Int → Prop) (l : List (List Int)) : cP P l ≤ l.length := by
  induction l with
  | nil => exact Nat.le_refl _
  | cons A l ih =>
    show bb (P A) + cP P l ≤ l.length + 1
    have := bb_le (P A)
    omega
theorem tb_1023 {y : Int} (h0 : 0 ≤ y) (h : y < 10) : tb 1023 y := by
  have := (tb_all (n := 10) (t := y) (by omega) h0).mpr h
  exact this
end
section
/-! Survey.make -/
def f_X3_make (M : xM) (Post : xR) : Prop := wS M ∧ (M 10 4 = 0 ∨ M 10 4 = 1 ∧ stO M (SX M) (LNs (SX M))) ∧ (M 12 7 = 0 ∨ M 12 7 = 1 ∧ M 10 4 = 1 ∧ svO M (SX M)) ∧ ∀ M' : xM, (∀ c, c < 8 → M' c = M c) → M' 10 4 = 1 → stO M' (SX M) (LNs (SX M)) → M' 12 7 = 1 → svO M' (SX M) → Post 0 M'
abbrev sp_X3_make : xT := spV0 12 f_X3_make
set_option maxRecDepth 100000 in
set_option maxHeartbeats 4000000 in
theorem b_X3_make (as : List xV) (M : xM) (Post : xR) (h : sp_X3_make as M Post) : as.length ≤ 4 ∧ ∃ (Inv : xG) (μ : Nat → xL → List xV → xM → Nat) (f0 f1 : Nat), xw LX fldX3 (calX3_make sp_J7_fill_53178 sp_X2_names sp_X0_many sp_X0_code sp_X1_takeUp sp_X3_addLines sp_X3_addWays sp_X3_choosePair) [] 0 Post iX3_make cutX3_make Inv f0 0 (xlv as 4) [] M ∧ ∀ pc lv st M', Inv pc lv st M' → xw LX fldX3 (calX3_make sp_J7_fill_53178 sp_X2_names sp_X0_many sp_X0_code sp_X1_takeUp sp_X3_addLines sp_X3_addWays sp_X3_choosePair) [] 0 Post iX3_make cutX3_make (fun pc2 lv2 st2 M2 => Inv pc2 lv2 st2 M2 ∧ μ pc2 lv2 st2 M2 < μ pc lv st M') f1 pc lv st M' := by
  obtain ⟨rfl, h⟩ := h
  refine ⟨by simp, (fun pc lv st N => ∃ (x : Int) (k : Nat), pc = 57 ∧ lv = [some (.inr 12), some (.inl x), some (.inl (((LNs (SX M)).2.2.length : Nat) : Int)), some (.inl (k : Int))] ∧ st = [] ∧ (0 ≤ x ∧ x < 64) ∧ (∀ n, 0 ≤ n → n < 6 → (tb x n ↔ nmS (SX M) n)) ∧ k ≤ (LNs (SX M)).2.2.length ∧ (∀ c, c < 8 → N c = M c) ∧ N 10 4 = 1 ∧ stO N (SX M) (LNs (SX M)) ∧ N 12 7 = 1 ∧ wV N ∧ (∀ u w, 0 ≤ u → u < 10 → 0 ≤ w → w < 10 → ((tb (N 13 u) w ↔ ∃ A ∈ (LNs (SX M)).2.2.take k, Adj (SX M) all0 (plL (SX M) A) u w) ∧ (tb (N 14 u) w ↔ ∀ A ∈ (LNs (SX M)).2.2.take k, Adj (SX M) all0 (plL (SX M) A) u w))) ∧ (∀ a b d, 0 ≤ a → a < b → b < 6 → -1 ≤ d → d ≤ 9 → tb x a → tb x b → N 15 ((a * 6 + b) * 11 + d + 1) = ((cP (fun A => isD (Adj (SX M) all0 (plL (SX M) A)) (M 5 a) (M 5 b) d) ((LNs (SX M)).2.2.take k) : Nat) : Int)) ∧ ∀ j, 0 ≤ j → j < 396 → 0 ≤ N 15 j ∧ N 15 j ≤ k), (fun pc lv st N => match lv with | [_, _, some (.inl m), some (.inl k)] => (m - k).toNat | _ => 0), 400, 400, Eq.mpr (vcX3_make_0 ..) ?_, ?_⟩
  · obtain ⟨hw, hc, hm, hp⟩ := h
    have g12 : ∀ c, c ≠ 12 → xup M 12 7 1 c = M c := fun c hc => xup_ne hc
    refine ⟨⟨by omega, by omega⟩, fun q => ⟨by omega, 0, Or.inr (Or.inr (Or.inl ⟨rfl, fun M1 a1 b1 => ⟨1023, Or.inr (Or.inr (Or.inr (Or.inl ⟨rfl, fun M2 a2 b2 => ⟨0, Or.inr (Or.inr (Or.inr (Or.inr ⟨rfl, fun M3 a3 b3 => ?_⟩)))⟩⟩)))⟩⟩))⟩, fun q => ?_⟩
    · have fr : ∀ c, c ≠ 12 → c ≠ 13 → c ≠ 14 → c ≠ 15 → M3 c = M c := fun c q1 q2 q3 q4 => by rw [a3 c q4, a2 c q3, a1 c q2]; exact g12 c q1
      have wM : ∀ A : xM, (∀ c, c < 8 → A c = M c) → wS A := fun A hA => by rw [wS_eq (hA 1 (by decide)) (hA 2 (by decide)) (hA 3 (by decide)) (hA 5 (by decide)) (hA 6 (by decide))]; exact hw
      have sM : ∀ A : xM, (∀ c, c < 8 → A c = M c) → SX A = SX M := fun A hA => SX_eq (hA 1 (by decide)) (hA 2 (by decide)) (hA 3 (by decide)) (hA 5 (by decide))
      have f3 : ∀ c, c < 8 → M3 c = M c := fun c hc => fr c (by omega) (by omega) (by omega) (by omega)
      have t7 : M3 12 7 = 1 := by rw [a3 12 (by decide), a2 12 (by decide), a1 12 (by decide)]; simp [xup]
      have e10 : M3 10 = M 10 := fr 10 (by decide) (by decide) (by decide) (by decide)
      have e11 : M3 11 = M 11 := fr 11 (by decide) (by decide) (by decide) (by decide)
      refine ⟨rfl, (wM M3 f3).1, fun x x0 x1 hx => ⟨rfl, wM M3 f3, ?_, fun M5 k1 k2 k3 => ?_⟩⟩
      · rw [sM M3 f3, e10, stO_eq e10 e11]; exact hc
      · rw [sM M3 f3] at k3
        have f5 : ∀ c, c < 8 → M5 c = M c := fun c hc => by rw [k1 c (by omega) (by omega) (by omega) (by omega)]; exact f3 c hc
        have h12 : M5 12 = M3 12 := k1 12 (by decide) (by decide) (by decide) (by decide)
        have h13 : M5 13 = M1 13 := by rw [k1 13 (by decide) (by decide) (by decide) (by decide), a3 13 (by decide), a2 13 (by decide)]
        have h14 : M5 14 = M2 14 := by rw [k1 14 (by decide) (by decide) (by decide) (by decide), a3 14 (by decide)]
        have h15 : M5 15 = M3 15 := k1 15 (by decide) (by decide) (by decide) (by decide)
        have hx' : ∀ n, 0 ≤ n → n < 6 → (tb x n ↔ nmS (SX M) n) := fun n n0 n1 => by rw [hx n n0 n1, nmS_X, sM M3 f3]
        rw [sM M3 f3]
        refine ⟨x, 0, rfl, rfl, rfl, ⟨x0, x1⟩, hx', Nat.zero_le _, f5, k2, k3, by rw [h12]; exact t7, fun u u0 u1 => ?_, fun u w u0 u1 w0 w1 => ?_, fun a b d c0 c1 c2 c3 c4 _ _ => ?_, fun j j0 j1 => ?_⟩
        · rw [h13, h14, b1 u u0 (by omega), b2 u u0 (by omega)]; omega
        · rw [h13, h14, b1 u u0 (by omega), b2 u u0 (by omega)]
          refine ⟨⟨fun z => (tb_0 w z).elim, ?_⟩, ⟨fun _ A hA => ?_, fun _ => tb_1023 w0 w1⟩⟩
          · rintro ⟨A, hA, -⟩
            simp at hA
          · simp at hA
        · rw [h15, b3 _ (by omega) (by omega)]; rfl
        · rw [h15, b3 j j0 (by omega)]; omega
    · rcases hm with hm | ⟨hm1, hm2, hm3⟩
      · omega
      · rcases hc with hc | ⟨hc1, hc2⟩
        · omega
        · exact hp M (fun _ _ => rfl) hc1 hc2 hm1 hm3
  · obtain ⟨hw, hc, hm, hp⟩ := h
    have h369 := LN_369 (wfS_of hw)
    have hm4 := mS_4 (wfS_of hw)
    rintro pc lv st N ⟨x, k, rfl, rfl, rfl, hx, hxn, hk, hf, h4, hst, h7, hV, hbits, hheap, hhb⟩
    have e1 := hf 1 (by decide)
    have e2 := hf 2 (by decide)
    have e3 := hf 3 (by decide)
    have e5 := hf 5 (by decide)
    have e6 := hf 6 (by decide)
    have hwN : wS N := by rw [wS_eq e1 e2 e3 e5 e6]; exact hw
    have eS : SX N = SX M := SX_eq e1 e2 e3 e5
    have main : ∀ K : xG, (∀ N' : xM, k < (LNs (SX M)).2.2.length → (∀ c, c < 8 → N' c = M c) → N' 10 4 = 1 → stO N' (SX M) (LNs (SX M)) → N' 12 7 = 1 → wV N' → (∀ u w, 0 ≤ u → u < 10 → 0 ≤ w → w < 10 → ((tb (N' 13 u) w ↔ ∃ A ∈ (LNs (SX M)).2.2.take (k + 1), Adj (SX M) all0 (plL (SX M) A) u w) ∧ (tb (N' 14 u) w ↔ ∀ A ∈ (LNs (SX M)).2.2.take (k + 1), Adj (SX M) all0 (plL (SX M) A) u w))) → (∀ a b d, 0 ≤ a → a < b → b < 6 → -1 ≤ d → d ≤ 9 → tb x a → tb x b → N' 15 ((a * 6 + b) * 11 + d + 1) = ((cP (fun A => isD (Adj (SX M) all0 (plL (SX M) A)) (M 5 a) (M 5 b) d) ((LNs (SX M)).2.2.take (k + 1)) : Nat) : Int)) → (∀ j, 0 ≤ j → j < 396 → 0 ≤ N' 15 j ∧ N' 15 j ≤ ((k + 1 : Nat) : Int)) → K 57 [some (.inr 12), some (.inl x), some (.inl (((LNs (SX M)).2.2.length : Nat) : Int)), some (.inl ((k : Int) + 1))] [] N') → xw LX fldX3 (calX3_make sp_J7_fill_53178 sp_X2_names sp_X0_many sp_X0_code sp_X1_takeUp sp_X3_addLines sp_X3_addWays sp_X3_choosePair) [] 0 Post iX3_make cutX3_make K 400 57 [some (.inr 12), some (.inl x), some (.inl (((LNs (SX M)).2.2.length : Nat) : Int)), some (.inl (k : Int))] [] N := by
      intro K hK
      refine Eq.mpr (vcX3_make_57 ..) ?_
      refine ⟨⟨by omega, by omega⟩, ⟨by omega, by omega⟩, fun q => ⟨_, rfl, hx, fun j j0 j1 => ?_, fun M' g1 g2 g3 => ?_⟩, fun q => ?_⟩
      · have := hhb j j0 j1; omega
      · have hkl : k = (LNs (SX M)).2.2.length := by omega
        have htk : (LNs (SX M)).2.2.take k = (LNs (SX M)).2.2 := by rw [hkl]; exact List.take_length
        rw [htk] at hbits hheap
        refine hp M' (fun c hc => by rw [g1 c (by omega)]; exact hf c hc) (by rw [g1 10 (by decide)]; exact h4) (by rw [stO_eq (g1 10 (by decide)) (g1 11 (by decide))]; exact hst) (by rw [g2]; exact h7) ⟨?_, ?_, ?_⟩
        · unfold wV; rw [g1 13 (by decide), g1 14 (by decide)]; exact hV
        · rw [g1 13 (by decide), g1 14 (by decide)]; exact hbits
        · have : allB (tb x) (ghM N) 6 = NXT (SX M) := allB_congr hxn (fun a b a0 ab b6 ta tb' => mxI_congr 11 (fun j j0 j1 => by
            have := hheap a b (j - 1) a0 ab b6 (by omega) (by omega) ta tb'
            rw [show (a * 6 + b) * 11 + (j - 1) + 1 = (a * 6 + b) * 11 + j by omega] at this
            exact this)) 6 (by omega)
          rw [← this]; exact g3
      · have hkl : k < (LNs (SX M)).2.2.length := by omega
        obtain ⟨A, hA⟩ : ∃ A, (LNs (SX M)).2.2[k]? = some A := ⟨_, List.getElem?_eq_getElem hkl⟩
        have hAm : A ∈ (LNs (SX M)).2.2 := List.mem_of_getElem? hA
        obtain ⟨c1, c2, c3⟩ := hst.2.2.2 k A hA
        have hFit := (LN_kept (SX M) A hAm).2
        have hplc : ∀ t i, 0 ≤ t → t < (SX M).1 → 0 ≤ i → i < (SX M).2.1 t → Pl (SX M) (bxc (N 11 k)) (offS (SX M)) t i = plL (SX M) A t i := fun t i a1 a2 a3 a4 => Pl_congr c3 ⟨a1, a2⟩ ⟨a3, a4⟩
        have hAdj : ∀ u w, Adj (SX M) all0 (Pl (SX M) (bxc (N 11 k)) (offS (SX M))) u w ↔ Adj (SX M) all0 (plL (SX M) A) u w := Adj_iff rfl (fun _ _ _ => rfl) (fun _ _ _ => Iff.rfl) hplc
        refine ⟨_, rfl, ⟨by omega, by omega⟩, _, rfl, hwN, c1, c2, ?_, fun N1 g1 g2 g3 => ?_⟩
        · rw [eS]; exact (FT_iff rfl (fun _ _ _ => rfl) (fun _ _ _ => Iff.rfl) hplc).mpr hFit
        · rw [eS] at g3
          have hJ1 : JN N1 (Adj (SX M) all0 (plL (SX M) A)) := ⟨g3.1, fun u w a1 a2 a3 a4 => by rw [g3.2 u w a1 a2 a3 a4]; exact hAdj u w⟩
          have hV1 : wV N1 := by unfold wV; rw [g1 13 (by decide) (by decide), g1 14 (by decide) (by decide)]; exact hV
          refine ⟨rfl, _, hJ1, hV1, fun N2 j1 j2 j3 => ⟨_, rfl, Adj (SX M) all0 (plL (SX M) A), ?_, ?_, ?_, hx, fun N3 l1 l2 l3 => ?_⟩⟩
          · unfold JN wJ; rw [j1 9 (by decide) (by decide)]; exact hJ1
          · refine Adj_in10 (fun t i a1 a2 a3 a4 => ?_)
            rw [← hplc t i a1 a2 a3 a4]
            exact Pl_b (wfS_of hw) (fun s b1 b2 => ⟨bxc_0, c2 s b1 (by omega)⟩) ⟨a1, a2⟩ ⟨a3, a4⟩
          · have p5 : N2 5 = M 5 := by rw [j1 5 (by decide) (by decide), g1 5 (by decide) (by decide)]; exact e5
            have p6 : N2 6 = M 6 := by rw [j1 6 (by decide) (by decide), g1 6 (by decide) (by decide)]; exact e6
            unfold wT; rw [p5, p6]; exact hw.2.1
          · have fr : ∀ c, c ≠ 8 → c ≠ 9 → c ≠ 13 → c ≠ 14 → c ≠ 15 → N3 c = N c := fun c q1 q2 q3 q4 q5 => by rw [l1 c q5, j1 c q3 q4]; exact g1 c q1 q2
            have p5 : N2 5 = M 5 := by rw [j1 5 (by decide) (by decide), g1 5 (by decide) (by decide)]; exact e5
            have n13 : N3 13 = N2 13 := l1 13 (by decide)
            have n14 : N3 14 = N2 14 := l1 14 (by decide)
            have m13 : N1 13 = N 13 := g1 13 (by decide) (by decide)
            have m14 : N1 14 = N 14 := g1 14 (by decide) (by decide)
            have m15 : N2 15 = N 15 := by rw [j1 15 (by decide) (by decide), g1 15 (by decide) (by decide)]
            refine hK N3 hkl (fun c hc => by rw [fr c (by omega) (by omega) (by omega) (by omega) (by omega)]; exact hf c hc) (by rw [fr 10 (by decide) (by decide) (by decide) (by decide) (by decide)]; exact h4) (by rw [stO_eq (fr 10 (by decide) (by decide) (by decide) (by decide) (by decide)) (fr 11 (by decide) (by decide) (by decide) (by decide) (by decide))]; exact hst) (by rw [fr 12 (by decide) (by decide) (by decide) (by decide) (by decide)]; exact h7) ?_ (fun u w a1 a2 a3 a4 => ?_) (fun a b d a0 ab b6 d0 d9 ta tb' => ?_) (fun j j0 j1' => ?_)
            · unfold wV; rw [n13, n14]; exact j2
            · rw [n13, n14, (j3 u w a1 a2 a3 a4).1, (j3 u w a1 a2 a3 a4).2, m13, m14, (hbits u w a1 a2 a3 a4).1, (hbits u w a1 a2 a3 a4).2]
              constructor
              · constructor
                · rintro (⟨B, hB, z⟩ | z)
                  · exact ⟨B, (take_mem hA).mpr (Or.inl hB), z⟩
                  · exact ⟨A, (take_mem hA).mpr (Or.inr rfl), z⟩
                · rintro ⟨B, hB, z⟩
                  rcases (take_mem hA).mp hB with hB | rfl
                  · exact Or.inl ⟨B, hB, z⟩
                  · exact Or.inr z
              · constructor
                · rintro ⟨z1, z2⟩ B hB
                  rcases (take_mem hA).mp hB with hB | rfl
                  · exact z1 B hB
                  · exact z2
                · intro z
                  exact ⟨fun B hB => z B ((take_mem hA).mpr (Or.inl hB)), z A ((take_mem hA).mpr (Or.inr rfl))⟩
            · rw [l2 a b d a0 ab b6 d0 d9 ta tb', m15, hheap a b d a0 ab b6 d0 d9 ta tb', p5, cP_take hA, Int.natCast_add]
            · have := l3 j
              rw [m15] at this
              have := hhb j j0 j1'
              omega
    refine main _ (fun N' q0 q1 q2 q3 q4 q5 q6 q7 q8 => ⟨⟨x, k + 1, rfl, rfl, rfl, hx, hxn, by omega, q1, q2, q3, q4, q5, q6, q7, q8⟩, by (change Int.toNat _ < Int.toNat _); omega⟩)
theorem k_X3_make {l : Launch} {D : va_G} {T : Nat → ClassId} {ad : Nat → Nat} (hO : xOk ad LX) : xMet l D T ad LX yX3_make cX3_make 4 none true 11 sp_X3_make :=
  xmet (rt := 0) (fld := fldX3) (cals := (calX3_make sp_J7_fill_53178 sp_X2_names sp_X0_many sp_X0_code sp_X1_takeUp sp_X3_addLines sp_X3_addWays sp_X3_choosePair)) (cst := []) (I := iX3_make) (cut := cutX3_make) hO (by decide +kernel) ⟨by decide, by decide, by decide⟩ oX3_make foX3 (fun _ h => absurd h List.not_mem_nil) (List.forall_mem_cons.mpr ⟨⟨yJ7_fill_53178, cJ7_fill_53178, 4, none, 0, 2, by decide, yoJ7_fill_53178, k_J7_fill_53178 hO, loX3_66, Or.inl ⟨rfl, rfl⟩⟩, List.forall_mem_cons.mpr ⟨⟨yX2_names, cX2_names, 5, (some .int), 1, 0, by decide, yoX2_names, k_X2_names hO, loX3_72, Or.inr ⟨rfl, rfl, 1, 2, [some 2, some 3, none], TX2, 3, rfl, rfl, spV0_r⟩⟩, List.forall_mem_cons.mpr ⟨⟨yX0_many, cX0_many, 1, (some .int), 10, 0, by decide, yoX0_many, k_X0_many hO, loX3_78, Or.inr ⟨rfl, rfl, 10, 0, [some 1, some 4, some 7, some 11, none, none, none, none, none, none], TX0, 10, rfl, rfl, spV0_r⟩⟩, List.forall_mem_cons.mpr ⟨⟨yX0_code, cX0_code, 2, (some .int), 0, 1, by decide, yoX0_code, k_X0_code hO, loX3_83, Or.inr ⟨rfl, rfl, 10, 0, [some 1, some 4, some 7, some 11, none, none, none, none, none, none], TX0, 10, rfl, rfl, spV1_r⟩⟩, List.forall_mem_cons.mpr ⟨⟨yX1_takeUp, cX1_takeUp, 3, none, 4, 1, by decide, yoX1_takeUp, k_X1_takeUp hO, loX3_48, Or.inr ⟨rfl, rfl, 7, 1, [some 1, some 4, some 8, some 9], TX1, 4, rfl, rfl, spV1_r⟩⟩, List.forall_mem_cons.mpr ⟨⟨yX3_addLines, cX3_addLines, 2, none, 2, 0, by decide, yoX3_addLines, k_X3_addLines hO, loX3_87, Or.inr ⟨rfl, rfl, 12, 3, [some 1, some 4, some 7, some 10, some 13, some 14, some 15, none, none, none], TX3, 10, rfl, rfl, spV0_r⟩⟩, List.forall_mem_cons.mpr ⟨⟨yX3_addWays, cX3_addWays, 4, none, 2, 1, by decide, yoX3_addWays, k_X3_addWays hO, loX3_90, Or.inr ⟨rfl, rfl, 12, 3, [some 1, some 4, some 7, some 10, some 13, some 14, some 15, none, none, none], TX3, 10, rfl, rfl, spV1_r⟩⟩, List.forall_mem_cons.mpr ⟨⟨yX3_choosePair, cX3_choosePair, 4, none, 3, 1, by decide, yoX3_choosePair, k_X3_choosePair hO, loX3_93, Or.inr ⟨rfl, rfl, 12, 3, [some 1, some 4, some 7, some 10, some 13, some 14, some 15, none, none, none], TX3, 10, rfl, rfl, spV1_r⟩⟩, fun _ h => absurd h List.not_mem_nil⟩⟩⟩⟩⟩⟩⟩⟩) b_X3_make
end
section
/-! NetShape: the class's invariant, its helpers, its questions -/
def cF (M : xM) : Prop := M 10 4 = 0 ∨ M 10 4 = 1 ∧ stO M (SX M) (LNs (SX M))
def cV (M : xM) : Prop := M 12 7 = 0 ∨ M 12 7 = 1 ∧ M 10 4 = 1 ∧ svO M (SX M)
def hdX (M : xM) : Prop := sS (M 2) (M 3) (M 1 2).toNat + cS (M 2) 36 (M 3 6).toNat ≤ 4
def IX (M : xM) : Prop := wS M ∧ hdX M ∧ cF M ∧ cV M
theorem SX_8 {M N : xM} (h : ∀ c, c < 8 → N c = M c) : SX N = SX M := SX_eq (h 1 (by decide)) (h 2 (by decide)) (h 3 (by decide)) (h 5 (by decide))
theorem IX_8 {M N : xM} (hI : IX M) (h : ∀ c, c < 8 → N c = M c) (h1 : cF N) (h2 : cV N) : IX N := by
  refine ⟨?_, ?_, h1, h2⟩
  · rw [wS_eq (h 1 (by decide)) (h 2 (by decide)) (h 3 (by decide)) (h 5 (by decide)) (h 6 (by decide))]; exact hI.1
  · unfold hdX; rw [h 1 (by decide), h 2 (by decide), h 3 (by decide)]; exact hI.2.1
theorem svO_eq {M N : xM} {S : dS} (h12 : N 12 = M 12) (h13 : N 13 = M 13) (h14 : N 14 = M 14) (h : svO M S) : svO N S := by
  obtain ⟨a, b, c⟩ := h
  refine ⟨?_, ?_, ?_⟩
  · unfold wV; rw [h13, h14]; exact a
  · rw [h13, h14]; exact b
  · revert c
    unfold cbO
    split <;> rw [h12] <;> exact id
/-- LeastNets.many, of an object as it stands -/
theorem many_q {M : xM} {Post : xR} (hI : IX M) (hp : ∀ M' : xM, (∀ c, c < 8 → M' c = M c) → IX M' → M' 10 4 = 1 → stO M' (SX M) (LNs (SX M)) → Post ((LNs (SX M)).2.2.length : Nat) M') : sp_X0_many [.inr 10] M Post := by
  refine ⟨rfl, hI.1, hI.2.2.1, fun M' f h4 hs => ?_⟩
  have f8 : ∀ c, c < 8 → M' c = M c := fun c hc => f c (by omega) (by omega) (by omega) (by omega)
  have eS := SX_8 f8
  refine hp M' f8 (IX_8 hI f8 (Or.inr ⟨h4, by rw [eS]; exact hs⟩) ?_) h4 hs
  have e12 : M' 12 = M 12 := f 12 (by decide) (by decide) (by decide) (by decide)
  rcases hI.2.2.2 with h | ⟨h, h', h''⟩
  · exact Or.inl (by rw [e12]; exact h)
  · exact Or.inr ⟨by rw [e12]; exact h, h4, by rw [eS]; exact svO_eq e12 (f 13 (by decide) (by decide) (by decide) (by decide)) (f 14 (by decide) (by decide) (by decide) (by decide)) h''⟩
theorem make_q {M : xM} {Post : xR} (hI : IX M) (hp : ∀ M' : xM, (∀ c, c < 8 → M' c = M c) → IX M' → svO M' (SX M) → Post 0 M') : sp_X3_make [.inr 12] M Post := by
  refine ⟨rfl, hI.1, hI.2.2.1, hI.2.2.2, fun M' f8 h4 hs h7 hv => ?_⟩
  have eS := SX_8 f8
  exact hp M' f8 (IX_8 hI f8 (Or.inr ⟨h4, by rw [eS]; exact hs⟩) (Or.inr ⟨h7, h4, by rw [eS]; exact hv⟩)) hv
def f_X5_forgetAnswers (M : xM) (Post : xR) : Prop := Post 0 (xup (xup M 10 4 0) 12 7 0)
abbrev sp_X5_forgetAnswers : xT := spV0 0 f_X5_forgetAnswers
set_option maxRecDepth 100000 in
set_option maxHeartbeats 4000000 in
theorem b_X5_forgetAnswers (as : List xV) (M : xM) (Post : xR) (h : sp_X5_forgetAnswers as M Post) : as.length ≤ 1 ∧ xw LX fldX5 (calX5_forgetAnswers sp_X0_forgetFound sp_X3_forgetMade) [] 0 Post iX5_forgetAnswers cutX5_forgetAnswers (fun _ _ _ _ => False) 400 0 (xlv as 1) [] M := by
  obtain ⟨rfl, h⟩ := h
  refine ⟨by simp, ?_⟩
  refine Eq.mpr (vcX5_forgetAnswers_0 ..) ?_
  exact ⟨rfl, rfl, h⟩
theorem k_X5_forgetAnswers {l : Launch} {D : va_G} {T : Nat → ClassId} {ad : Nat → Nat} (hO : xOk ad LX) : xMet l D T ad LX yX5_forgetAnswers cX5_forgetAnswers 1 none true 1 sp_X5_forgetAnswers :=
  xmet0 (rt := 0) (fld := fldX5) (cals := (calX5_forgetAnswers sp_X0_forgetFound sp_X3_forgetMade)) (cst := []) (I := iX5_forgetAnswers) (cut := cutX5_forgetAnswers) hO (by decide +kernel) ⟨by decide, by decide, by decide⟩ oX5_forgetAnswers foX5 (fun _ h => absurd h List.not_mem_nil) (List.forall_mem_cons.mpr ⟨⟨yX0_forgetFound, cX0_forgetFound, 1, none, 0, 0, by decide, yoX0_forgetFound, k_X0_forgetFound hO, loX5_168, Or.inr ⟨rfl, rfl, 10, 0, [some 1, some 4, some 7, some 11, none, none, none, none, none, none], TX0, 10, rfl, rfl, spV0_r⟩⟩, List.forall_mem_cons.mpr ⟨⟨yX3_forgetMade, cX3_forgetMade, 1, none, 0, 0, by decide, yoX3_forgetMade, k_X3_forgetMade hO, loX5_171, Or.inr ⟨rfl, rfl, 12, 3, [some 1, some 4, some 7, some 10, some 13, some 14, some 15, none, none, none], TX3, 10, rfl, rfl, spV0_r⟩⟩, fun _ h => absurd h List.not_mem_nil⟩⟩) b_X5_forgetAnswers
def f_X5_isTrace (t : Int) (M : xM) (Post : xR) : Prop := rg t ∧ (0 ≤ M 1 2 ∧ M 1 2 ≤ 6) ∧ ∀ r, (r = 1 ∧ (0 ≤ t ∧ t < M 1 2) ∨ r = 0 ∧ ¬ (0 ≤ t ∧ t < M 1 2)) → Post r M
abbrev sp_X5_isTrace : xT := spV1 0 f_X5_isTrace
set_option maxRecDepth 100000 in
set_option maxHeartbeats 4000000 in
theorem b_X5_isTrace (as : List xV) (M : xM) (Post : xR) (h : sp_X5_isTrace as M Post) : as.length ≤ 2 ∧ xw LX fldX5 (calX5_isTrace sp_X2_traces) [] 2 Post iX5_isTrace cutX5_isTrace (fun _ _ _ _ => False) 400 0 (xlv as 2) [] M := by
  obtain ⟨v1, rfl, h⟩ := h
  refine ⟨by simp, ?_⟩
  refine Eq.mpr (vcX5_isTrace_0 ..) ?_
  obtain ⟨h1, h2, hp⟩ := h
  exact ⟨h1, fun q => ⟨by omega, hp 0 (by omega)⟩, fun q => ⟨rfl, h1, ⟨by omega, by omega⟩, fun q1 => ⟨by omega, hp 0 (by omega)⟩, fun q1 => ⟨by omega, hp 1 (by omega)⟩⟩⟩
theorem k_X5_isTrace {l : Launch} {D : va_G} {T : Nat → ClassId} {ad : Nat → Nat} (hO : xOk ad LX) : xMet l D T ad LX yX5_isTrace cX5_isTrace 2 (some .boolean) false 1 sp_X5_isTrace :=
  xmet0 (rt := 2) (fld := fldX5) (cals := (calX5_isTrace sp_X2_traces)) (cst := []) (I := iX5_isTrace) (cut := cutX5_isTrace) hO (by decide +kernel) ⟨by decide, by decide, by decide⟩ oX5_isTrace foX5 (fun _ h => absurd h List.not_mem_nil) (List.forall_mem_cons.mpr ⟨⟨yX2_traces, cX2_traces, 1, (some .int), 0, 0, by decide, yoX2_traces, k_X2_traces hO, loX5_73, Or.inr ⟨rfl, rfl, 1, 2, [some 2, some 3, none], TX2, 3, rfl, rfl, spV0_r⟩⟩, fun _ h => absurd h List.not_mem_nil⟩) b_X5_isTrace
def f_X5_isNet (k : Int) (M : xM) (Post : xR) : Prop := rg k ∧ IX M ∧ ∀ (r : Int) (M' : xM), (∀ c, c < 8 → M' c = M c) → IX M' → (M 10 4 = 1 → M' 10 4 = 1) → (r = 1 ∧ (0 ≤ k ∧ k < (LNs (SX M)).2.2.length) ∨ r = 0 ∧ ¬ (0 ≤ k ∧ k < (LNs (SX M)).2.2.length)) → Post r M'
abbrev sp_X5_isNet : xT := spV1 0 f_X5_isNet
set_option maxRecDepth 100000 in
set_option maxHeartbeats 4000000 in
theorem b_X5_isNet (as : List xV) (M : xM) (Post : xR) (h : sp_X5_isNet as M Post) : as.length ≤ 2 ∧ xw LX fldX5 (calX5_isNet sp_X0_many) [] 2 Post iX5_isNet cutX5_isNet (fun _ _ _ _ => False) 400 0 (xlv as 2) [] M := by
  obtain ⟨v1, rfl, h⟩ := h
  refine ⟨by simp, ?_⟩
  refine Eq.mpr (vcX5_isNet_0 ..) ?_
  obtain ⟨h1, hI, hp⟩ := h
  have h369 := LN_369 (wfS_of hI.1)
  exact ⟨h1, fun q => ⟨by omega, hp 0 M (fun _ _ => rfl) hI id (by omega)⟩, fun q => many_q hI (fun M' f8 hI' h4 _ => ⟨h1, ⟨by omega, by omega⟩, fun q1 => ⟨by omega, hp 0 M' f8 hI' (fun _ => h4) (by omega)⟩, fun q1 => ⟨by omega, hp 1 M' f8 hI' (fun _ => h4) (by omega)⟩⟩)⟩
theorem k_X5_isNet {l : Launch} {D : va_G} {T : Nat → ClassId} {ad : Nat → Nat} (hO : xOk ad LX) : xMet l D T ad LX yX5_isNet cX5_isNet 2 (some .boolean) false 11 sp_X5_isNet :=
  xmet0 (rt := 2) (fld := fldX5) (cals := (calX5_isNet sp_X0_many)) (cst := []) (I := iX5_isNet) (cut := cutX5_isNet) hO (by decide +kernel) ⟨by decide, by decide, by decide⟩ oX5_isNet foX5 (fun _ h => absurd h List.not_mem_nil) (List.forall_mem_cons.mpr ⟨⟨yX0_many, cX0_many, 1, (some .int), 10, 0, by decide, yoX0_many, k_X0_many hO, loX5_111, Or.inr ⟨rfl, rfl, 10, 0, [some 1, some 4, some 7, some 11, none, none, none, none, none, none], TX0, 10, rfl, rfl, spV0_r⟩⟩, fun _ h => absurd h List.not_mem_nil⟩) b_X5_isNet
def f_X5_isTraced (n : Int) (M : xM) (Post : xR) : Prop := rg n ∧ wR M ∧ ∀ r, (r = 1 ∧ ((0 ≤ n ∧ n < 6) ∧ nmS (SX M) n) ∨ r = 0 ∧ ¬ ((0 ≤ n ∧ n < 6) ∧ nmS (SX M) n)) → Post r M
abbrev sp_X5_isTraced : xT := spV1 0 f_X5_isTraced
set_option maxRecDepth 100000 in
set_option maxHeartbeats 4000000 in
theorem b_X5_isTraced (as : List xV) (M : xM) (Post : xR) (h : sp_X5_isTraced as M Post) : as.length ≤ 2 ∧ xw LX fldX5 (calX5_isTraced sp_X5_isName sp_X2_names sp_X5_hasBit) [] 2 Post iX5_isTraced cutX5_isTraced (fun _ _ _ _ => False) 400 0 (xlv as 2) [] M := by
  obtain ⟨v1, rfl, h⟩ := h
  refine ⟨by simp, ?_⟩
  refine Eq.mpr (vcX5_isTraced_0 ..) ?_
  obtain ⟨h1, hw, hp⟩ := h
  refine ⟨_, rfl, h1, fun r1 hr1 => ⟨⟨by omega, by omega⟩, fun q => ⟨by omega, hp 0 (Or.inr ⟨rfl, fun z => ?_⟩)⟩, fun q => ⟨rfl, hw, fun x x0 x1 hx => ⟨_, _, rfl, ⟨by omega, by omega⟩, ⟨by omega, by omega⟩, fun r3 hr3 => ⟨⟨by omega, by omega⟩, fun q3 => ⟨by omega, hp 0 (Or.inr ⟨rfl, fun z => ?_⟩)⟩, fun q3 => ⟨by omega, hp 1 (Or.inl ⟨rfl, by omega, ?_⟩)⟩⟩⟩⟩⟩⟩
  · omega
  · have : ¬ tb x v1 := hr3.elim (fun z => by omega) (fun z => z.2)
    exact this ((hx v1 z.1.1 z.1.2).mpr z.2)
  · have : tb x v1 := hr3.elim (fun z => z.2) (fun z => (q3 z.1).elim)
    exact (hx v1 (by omega) (by omega)).mp this
theorem k_X5_isTraced {l : Launch} {D : va_G} {T : Nat → ClassId} {ad : Nat → Nat} (hO : xOk ad LX) : xMet l D T ad LX yX5_isTraced cX5_isTraced 2 (some .boolean) false 2 sp_X5_isTraced :=
  xmet0 (rt := 2) (fld := fldX5) (cals := (calX5_isTraced sp_X5_isName sp_X2_names sp_X5_hasBit)) (cst := []) (I := iX5_isTraced) (cut := cutX5_isTraced) hO (by decide +kernel) ⟨by decide, by decide, by decide⟩ oX5_isTraced foX5 (fun _ h => absurd h List.not_mem_nil) (List.forall_mem_cons.mpr ⟨⟨yX5_isName, cX5_isName, 1, (some .boolean), 0, 1, by decide, yoX5_isName, k_X5_isName hO, loX5_46, Or.inl ⟨rfl, rfl⟩⟩, List.forall_mem_cons.mpr ⟨⟨yX2_names, cX2_names, 5, (some .int), 1, 0, by decide, yoX2_names, k_X2_names hO, loX5_165, Or.inr ⟨rfl, rfl, 1, 2, [some 2, some 3, none], TX2, 3, rfl, rfl, spV0_r⟩⟩, List.forall_mem_cons.mpr ⟨⟨yX5_hasBit, cX5_hasBit, 2, (some .boolean), 0, 2, by decide, yoX5_hasBit, k_X5_hasBit hO, loX5_174, Or.inl ⟨rfl, rfl⟩⟩, fun _ h => absurd h List.not_mem_nil⟩⟩⟩) b_X5_isTraced
noncomputable def nbx (S : dS) : Nat := sm (fun b => bb (thB S (b : Int))) 6
noncomputable def nnm (S : dS) : Nat := sm (fun b => bb (nmS S (b : Int))) 6
theorem pop_6 {y : Int} (hy : 0 ≤ y ∧ y < 64) {P : Int → Prop} (h : ∀ b, 0 ≤ b → b < 6 → (tb y b ↔ P b)) : pop y = ((sm (fun b => bb (P (b : Int))) 6 : Nat) : Int) := by
  rw [pop_sm, show (10 : Nat) = 6 + 4 from rfl, sm_split]
  have e1 : sm (fun i => bb (tb y (i : Int))) 6 = sm (fun b => bb (P (b : Int))) 6 := sm_congr (fun i hi => bb_congr (h i (by omega) (by omega)))
  have e2 : sm (fun i => bb (tb y (((6 + i : Nat)) : Int))) 4 = sm (fun _ => 0) 4 := sm_congr (fun i hi => bb0 (fun z => by
    unfold tb at z
    rw [Int.toNat_natCast, Nat.testBit_lt_two_pow (Nat.lt_of_lt_of_le (m := 2 ^ 6) (by omega) (Nat.pow_le_pow_right (by omega) (by omega)))] at z
    cases z))
  rw [e1, e2]
  rfl
def f_X5_boxesOfNames (M : xM) (Post : xR) : Prop := wS M ∧ Post (nbx (SX M) : Nat) M
abbrev sp_X5_boxesOfNames : xT := spV0 0 f_X5_boxesOfNames
set_option maxRecDepth 100000 in
set_option maxHeartbeats 4000000 in
theorem b_X5_boxesOfNames (as : List xV) (M : xM) (Post : xR) (h : sp_X5_boxesOfNames as M Post) : as.length ≤ 1 ∧ xw LX fldX5 (calX5_boxesOfNames sp_X2_names sp_X4_boxes sp_J6_bitCount_0f7a4) [] 1 Post iX5_boxesOfNames cutX5_boxesOfNames (fun _ _ _ _ => False) 400 0 (xlv as 1) [] M := by
  obtain ⟨rfl, h⟩ := h
  refine ⟨by simp, ?_⟩
  refine Eq.mpr (vcX5_boxesOfNames_0 ..) ?_
  obtain ⟨hw, hp⟩ := h
  refine ⟨rfl, hw.1, fun x x0 x1 hx => ⟨_, rfl, hw.2.1, ⟨x0, x1⟩, fun y y0 y1 hy => ⟨_, rfl, ⟨by omega, by omega⟩, ?_⟩⟩⟩
  rw [pop_6 ⟨y0, y1⟩ (thB_bits hw hx hy)]
  exact hp
theorem k_X5_boxesOfNames {l : Launch} {D : va_G} {T : Nat → ClassId} {ad : Nat → Nat} (hO : xOk ad LX) : xMet l D T ad LX yX5_boxesOfNames cX5_boxesOfNames 1 (some .int) false 2 sp_X5_boxesOfNames :=
  xmet0 (rt := 1) (fld := fldX5) (cals := (calX5_boxesOfNames sp_X2_names sp_X4_boxes sp_J6_bitCount_0f7a4)) (cst := []) (I := iX5_boxesOfNames) (cut := cutX5_boxesOfNames) hO (by decide +kernel) ⟨by decide, by decide, by decide⟩ oX5_boxesOfNames foX5 (fun _ h => absurd h List.not_mem_nil) (List.forall_mem_cons.mpr ⟨⟨yX2_names, cX2_names, 5, (some .int), 1, 0, by decide, yoX2_names, k_X2_names hO, loX5_165, Or.inr ⟨rfl, rfl, 1, 2, [some 2, some 3, none], TX2, 3, rfl, rfl, spV0_r⟩⟩, List.forall_mem_cons.mpr ⟨⟨yX4_boxes, cX4_boxes, 4, (some .int), 1, 1, by decide, yoX4_boxes, k_X4_boxes hO, loX5_177, Or.inr ⟨rfl, rfl, 4, 4, [some 5, some 6, none], TX4, 3, rfl, rfl, spV1_r⟩⟩, List.forall_mem_cons.mpr ⟨⟨yJ6_bitCount_0f7a4, cJ6_bitCount_0f7a4, 1, (some .int), 0, 1, by decide, yoJ6_bitCount_0f7a4, k_J6_bitCount_0f7a4 hO, loX5_151, Or.inl ⟨rfl, rfl⟩⟩, fun _ h => absurd h List.not_mem_nil⟩⟩⟩) b_X5_boxesOfNames
/-- a question: the answer, the object's own cells as they were -/
def qX (M : xM) (Post : xR) (v : Int) : Prop := ∀ M' : xM, (∀ c, c < 8 → M' c = M c) → IX M' → Post v M'
def f_X5_nets (M : xM) (Post : xR) : Prop := IX M ∧ qX M Post ((LNs (SX M)).2.2.length : Nat)
abbrev sp_X5_nets : xT := spV0 0 f_X5_nets
set_option maxRecDepth 100000 in
set_option maxHeartbeats 4000000 in
theorem b_X5_nets (as : List xV) (M : xM) (Post : xR) (h : sp_X5_nets as M Post) : as.length ≤ 1 ∧ xw LX fldX5 (calX5_nets sp_X0_many) [] 1 Post iX5_nets cutX5_nets (fun _ _ _ _ => False) 400 0 (xlv as 1) [] M := by
  obtain ⟨rfl, h⟩ := h
  refine ⟨by simp, ?_⟩
  refine Eq.mpr (vcX5_nets_0 ..) ?_
  obtain ⟨hI, hp⟩ := h
  exact many_q hI (fun M' f8 hI' _ _ => hp M' f8 hI')
theorem k_X5_nets {l : Launch} {D : va_G} {T : Nat → ClassId} {ad : Nat → Nat} (hO : xOk ad LX) : xMet l D T ad LX yX5_nets cX5_nets 1 (some .int) false 11 sp_X5_nets :=
  xmet0 (rt := 1) (fld := fldX5) (cals := (calX5_nets sp_X0_many)) (cst := []) (I := iX5_nets) (cut := cutX5_nets) hO (by decide +kernel) ⟨by decide, by decide, by decide⟩ oX5_nets foX5 (fun _ h => absurd h List.not_mem_nil) (List.forall_mem_cons.mpr ⟨⟨yX0_many, cX0_many, 1, (some .int), 10, 0, by decide, yoX0_many, k_X0_many hO, loX5_111, Or.inr ⟨rfl, rfl, 10, 0, [some 1, some 4, some 7, some 11, none, none, none, none, none, none], TX0, 10, rfl, rfl, spV0_r⟩⟩, fun _ h => absurd h List.not_mem_nil⟩) b_X5_nets
noncomputable def shA (S : dS) (w : Int) : Int := if w ≠ 0 ∧ w ≠ 1 then -2 else if (LNs S).2.2.length = 0 then -6 else if w = 0 then (nbx S : Int) + ((LNs S).1 : Int) else ((LNs S).2.1 : Int)
def f_X5_shape (w : Int) (M : xM) (Post : xR) : Prop := rg w ∧ IX M ∧ qX M Post (shA (SX M) w)
abbrev sp_X5_shape : xT := spV1 0 f_X5_shape
set_option maxRecDepth 100000 in
set_option maxHeartbeats 4000000 in
theorem b_X5_shape (as : List xV) (M : xM) (Post : xR) (h : sp_X5_shape as M Post) : as.length ≤ 2 ∧ xw LX fldX5 (calX5_shape sp_X0_many sp_X5_boxesOfNames sp_X0_newBoxes sp_X0_lines) [] 1 Post iX5_shape cutX5_shape (fun _ _ _ _ => False) 400 0 (xlv as 2) [] M := by
  obtain ⟨v1, rfl, h⟩ := h
  refine ⟨by simp, ?_⟩
  refine Eq.mpr (vcX5_shape_0 ..) ?_
  obtain ⟨h1, hI, hp⟩ := h
  have h369 := LN_369 (wfS_of hI.1)
  have ans : ∀ M' : xM, (∀ c, c < 8 → M' c = M c) → IX M' → ∀ v, shA (SX M) v1 = v → Post v M' := fun M' f8 hI' v e => by rw [← e]; exact hp M' f8 hI'
  refine ⟨h1, fun q => many_q hI (fun M' f8 hI' h4 hs => ⟨⟨by omega, by omega⟩, fun q1 => ⟨h1, fun q2 => by omega, fun _ => ⟨rfl, hI'.1, rfl, ?_⟩⟩, fun q1 => ans M' f8 hI' _ ?_⟩), fun q => ⟨h1, ⟨by omega, by omega⟩, fun q1 => many_q hI (fun M' f8 hI' h4 hs => ⟨⟨by omega, by omega⟩, fun q2 => ⟨h1, fun q3 => ⟨rfl, ?_⟩, fun q3 => by omega⟩, fun q2 => ans M' f8 hI' _ ?_⟩), fun q1 => ans M (fun _ _ => rfl) hI _ ?_⟩⟩
  · refine ans M' f8 hI' _ ?_
    unfold shA
    rw [if_neg (by omega), if_neg (by omega), if_pos q, SX_8 f8, hs.1]
  · unfold shA; rw [if_neg (by omega), if_pos (by omega)]
  · refine ans M' f8 hI' _ ?_
    unfold shA
    rw [if_neg (by omega), if_neg (by omega), if_neg q, hs.2.1]
  · unfold shA; rw [if_neg (by omega), if_pos (by omega)]
  · unfold shA; rw [if_pos ⟨q, q1⟩]
theorem k_X5_shape {l : Launch} {D : va_G} {T : Nat → ClassId} {ad : Nat → Nat} (hO : xOk ad LX) : xMet l D T ad LX yX5_shape cX5_shape 2 (some .int) false 11 sp_X5_shape :=
  xmet0 (rt := 1) (fld := fldX5) (cals := (calX5_shape sp_X0_many sp_X5_boxesOfNames sp_X0_newBoxes sp_X0_lines)) (cst := []) (I := iX5_shape) (cut := cutX5_shape) hO (by decide +kernel) ⟨by decide, by decide, by decide⟩ oX5_shape foX5 (fun _ h => absurd h List.not_mem_nil) (List.forall_mem_cons.mpr ⟨⟨yX0_many, cX0_many, 1, (some .int), 10, 0, by decide, yoX0_many, k_X0_many hO, loX5_111, Or.inr ⟨rfl, rfl, 10, 0, [some 1, some 4, some 7, some 11, none, none, none, none, none, none], TX0, 10, rfl, rfl, spV0_r⟩⟩, List.forall_mem_cons.mpr ⟨⟨yX5_boxesOfNames, cX5_boxesOfNames, 1, (some .int), 2, 0, by decide, yoX5_boxesOfNames, k_X5_boxesOfNames hO, loX5_114, Or.inr ⟨rfl, rfl, 0, 5, [some 1, some 4, some 10, some 12], TX5, 4, rfl, rfl, spV0_r⟩⟩, List.forall_mem_cons.mpr ⟨⟨yX0_newBoxes, cX0_newBoxes, 1, (some .int), 0, 0, by decide, yoX0_newBoxes, k_X0_newBoxes hO, loX5_117, Or.inr ⟨rfl, rfl, 10, 0, [some 1, some 4, some 7, some 11, none, none, none, none, none, none], TX0, 10, rfl, rfl, spV0_r⟩⟩, List.forall_mem_cons.mpr ⟨⟨yX0_lines, cX0_lines, 1, (some .int), 0, 0, by decide, yoX0_lines, k_X0_lines hO, loX5_120, Or.inr ⟨rfl, rfl, 10, 0, [some 1, some 4, some 7, some 11, none, none, none, none, none, none], TX0, 10, rfl, rfl, spV0_r⟩⟩, fun _ h => absurd h List.not_mem_nil⟩⟩⟩⟩) b_X5_shape
noncomputable def bxA (S : dS) (k s : Int) : Int := if (LNs S).2.2.length = 0 then -6 else if 0 ≤ k ∧ k < (LNs S).2.2.length ∧ 0 ≤ s ∧ s < (mS S : Int) then (if lkA ((LNs S).2.2.getD k.toNat []) s < 6 then lkA ((LNs S).2.2.getD k.toNat []) s else lkA ((LNs S).2.2.getD k.toNat []) s + 4) else -2
def f_X5_boxOf (k s : Int) (M : xM) (Post : xR) : Prop := rg k ∧ rg s ∧ IX M ∧ qX M Post (bxA (SX M) k s)
abbrev sp_X5_boxOf : xT := spV2 0 f_X5_boxOf
set_option maxRecDepth 100000 in
set_option maxHeartbeats 4000000 in
theorem b_X5_boxOf (as : List xV) (M : xM) (Post : xR) (h : sp_X5_boxOf as M Post) : as.length ≤ 4 ∧ xw LX fldX5 (calX5_boxOf sp_X0_many sp_X5_isNet sp_X2_silents sp_X0_code sp_X5_boxIn) [] 1 Post iX5_boxOf cutX5_boxOf (fun _ _ _ _ => False) 400 0 (xlv as 4) [] M := by
  obtain ⟨v1, v2, rfl, h⟩ := h
  refine ⟨by simp, ?_⟩
  refine Eq.mpr (vcX5_boxOf_0 ..) ?_
  obtain ⟨hk, hs, hI, hp⟩ := h
  have h369 := LN_369 (wfS_of hI.1)
  have hm4 := mS_4 (wfS_of hI.1)
  have ans : ∀ M' : xM, (∀ c, c < 8 → M' c = M c) → IX M' → ∀ v, bxA (SX M) v1 v2 = v → Post v M' := fun M' f8 hI' v e => by rw [← e]; exact hp M' f8 hI'
  refine many_q hI (fun M1 f1 hI1 h14 hs1 => ⟨⟨by omega, by omega⟩, fun q => ⟨_, rfl, hk, hI1, fun r M2 f2 hI2 h24 hr => ⟨⟨by omega, by omega⟩, fun q2 => ?_, fun q2 => ⟨hs, fun q3 => ?_, fun q3 => ⟨rfl, hI2.1.1, ?_⟩⟩⟩⟩, fun q => ans M1 f1 hI1 _ (by unfold bxA; rw [if_pos (by omega)])⟩)
  · rw [SX_8 f1] at hr
    refine ans M2 (fun c hc => by rw [f2 c hc]; exact f1 c hc) hI2 _ ?_
    unfold bxA; rw [if_neg (by omega), if_neg (by omega)]
  · refine ans M2 (fun c hc => by rw [f2 c hc]; exact f1 c hc) hI2 _ ?_
    unfold bxA; rw [if_neg (by omega), if_neg (by omega)]
  · rw [SX_8 f1] at hr
    have f8 : ∀ c, c < 8 → M2 c = M c := fun c hc => by rw [f2 c hc]; exact f1 c hc
    have eS := SX_8 f8
    have em : sS (M2 2) (M2 3) (M2 1 2).toNat = (mS (SX M) : Nat) := by rw [← eS, mS_c]; rfl
    rw [em]
    refine ⟨hs, ⟨by omega, by omega⟩, fun q4 => ⟨_, rfl, ⟨by omega, by omega⟩, ?_⟩, fun q4 => ans M2 f8 hI2 _ (by unfold bxA; rw [if_neg (by omega), if_neg (by omega)])⟩
    obtain ⟨kn, rfl⟩ : ∃ kn : Nat, v1 = kn := ⟨v1.toNat, by omega⟩
    have hlt : kn < (LNs (SX M)).2.2.length := by omega
    have hst2 : stO M2 (SX M) (LNs (SX M)) := by
      rcases hI2.2.2.1 with z | ⟨-, z⟩
      · have := h24 h14; omega
      · rw [eS] at z; exact z
    obtain ⟨c1, c2, c3⟩ := hst2.2.2.2 kn _ (List.getElem?_eq_getElem hlt)
    have c3' := c3 v2 q3 q4
    have c2' := c2 v2 q3 (by omega)
    have c0 := bxc_0 (x := M2 11 kn) (s := v2)
    refine ⟨_, _, rfl, c1, ⟨by omega, by omega⟩, ⟨by omega, by omega⟩, ⟨by omega, by omega⟩, fun q5 => ?_, fun q5 => ?_⟩
    all_goals
      refine ans M2 f8 hI2 _ ?_
      unfold bxA
      rw [if_neg (by omega), if_pos (by omega), Int.toNat_natCast, List.getD_eq_getElem?_getD, List.getElem?_eq_getElem hlt, Option.getD_some, ← c3']
    · rw [if_neg (by omega)]; omega
    · rw [if_pos q5]
theorem k_X5_boxOf {l : Launch} {D : va_G} {T : Nat → ClassId} {ad : Nat → Nat} (hO : xOk ad LX) : xMet l D T ad LX yX5_boxOf cX5_boxOf 4 (some .int) false 12 sp_X5_boxOf :=
  xmet0 (rt := 1) (fld := fldX5) (cals := (calX5_boxOf sp_X0_many sp_X5_isNet sp_X2_silents sp_X0_code sp_X5_boxIn)) (cst := []) (I := iX5_boxOf) (cut := cutX5_boxOf) hO (by decide +kernel) ⟨by decide, by decide, by decide⟩ oX5_boxOf foX5 (fun _ h => absurd h List.not_mem_nil) (List.forall_mem_cons.mpr ⟨⟨yX0_many, cX0_many, 1, (some .int), 10, 0, by decide, yoX0_many, k_X0_many hO, loX5_111, Or.inr ⟨rfl, rfl, 10, 0, [some 1, some 4, some 7, some 11, none, none, none, none, none, none], TX0, 10, rfl, rfl, spV0_r⟩⟩, List.forall_mem_cons.mpr ⟨⟨yX5_isNet, cX5_isNet, 2, (some .boolean), 11, 1, by decide, yoX5_isNet, k_X5_isNet hO, loX5_123, Or.inr ⟨rfl, rfl, 0, 5, [some 1, some 4, some 10, some 12], TX5, 4, rfl, rfl, spV1_r⟩⟩, List.forall_mem_cons.mpr ⟨⟨yX2_silents, cX2_silents, 3, (some .int), 2, 0, by decide, yoX2_silents, k_X2_silents hO, loX5_58, Or.inr ⟨rfl, rfl, 1, 2, [some 2, some 3, none], TX2, 3, rfl, rfl, spV0_r⟩⟩, List.forall_mem_cons.mpr ⟨⟨yX0_code, cX0_code, 2, (some .int), 0, 1, by decide, yoX0_code, k_X0_code hO, loX5_126, Or.inr ⟨rfl, rfl, 10, 0, [some 1, some 4, some 7, some 11, none, none, none, none, none, none], TX0, 10, rfl, rfl, spV1_r⟩⟩, List.forall_mem_cons.mpr ⟨⟨yX5_boxIn, cX5_boxIn, 2, (some .int), 0, 2, by decide, yoX5_boxIn, k_X5_boxIn hO, loX5_129, Or.inl ⟨rfl, rfl⟩⟩, fun _ h => absurd h List.not_mem_nil⟩⟩⟩⟩⟩) b_X5_boxOf
end
