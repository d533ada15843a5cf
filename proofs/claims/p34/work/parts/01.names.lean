-- ===== PART A: goes FIRST, ahead of the names: the tables' words, and 'selects' of the private methods out of them =====
/-- a private method of a class that the tables say can be made, by its rows of tables_1 -/
def lw_okq (q : MethodName × Nat) : Prop := (q.1.cls ≠ "java/lang/invoke/MethodHandle" ∧ q.1.cls ≠ "java/lang/invoke/VarHandle") ∧ Cond.instantiable q.1.cls q.2 ∈ tables_1 ∧ Cond.privateMethod q.1 ∈ tables_1 ∧ Cond.instanceMethod q.1 ∈ tables_1
theorem lw_p0 : lw_okq (⟨"BookRental$Shop", "hasTitle", "(I)Z"⟩, 18) := ⟨⟨by decide +kernel, by decide +kernel⟩, List.mem_of_getElem? (i := 20) (by decide +kernel), List.mem_of_getElem? (i := 189) (by decide +kernel), List.mem_of_getElem? (i := 190) (by decide +kernel)⟩
theorem lw_p1 : lw_okq (⟨"BookRental$Shop", "copiesIn", "(I)I"⟩, 18) := ⟨⟨by decide +kernel, by decide +kernel⟩, List.mem_of_getElem? (i := 20) (by decide +kernel), List.mem_of_getElem? (i := 229) (by decide +kernel), List.mem_of_getElem? (i := 230) (by decide +kernel)⟩
theorem lw_p2 : lw_okq (⟨"BookRental$Shop", "hasCopy", "(I)Z"⟩, 18) := ⟨⟨by decide +kernel, by decide +kernel⟩, List.mem_of_getElem? (i := 20) (by decide +kernel), List.mem_of_getElem? (i := 241) (by decide +kernel), List.mem_of_getElem? (i := 242) (by decide +kernel)⟩
theorem lw_p3 : lw_okq (⟨"BookRental$Shop", "worthOf", "(I)I"⟩, 18) := ⟨⟨by decide +kernel, by decide +kernel⟩, List.mem_of_getElem? (i := 20) (by decide +kernel), List.mem_of_getElem? (i := 245) (by decide +kernel), List.mem_of_getElem? (i := 246) (by decide +kernel)⟩
theorem lw_p4 : lw_okq (⟨"BookRental$Shop", "worthBy", "(IIII)I"⟩, 18) := ⟨⟨by decide +kernel, by decide +kernel⟩, List.mem_of_getElem? (i := 20) (by decide +kernel), List.mem_of_getElem? (i := 249) (by decide +kernel), List.mem_of_getElem? (i := 250) (by decide +kernel)⟩
theorem lw_p5 : lw_okq (⟨"BookRental$Shop", "rentCost", "(I)I"⟩, 18) := ⟨⟨by decide +kernel, by decide +kernel⟩, List.mem_of_getElem? (i := 20) (by decide +kernel), List.mem_of_getElem? (i := 256) (by decide +kernel), List.mem_of_getElem? (i := 257) (by decide +kernel)⟩
theorem lw_p6 : lw_okq (⟨"BookRental$Shop", "saleCost", "(I)I"⟩, 18) := ⟨⟨by decide +kernel, by decide +kernel⟩, List.mem_of_getElem? (i := 20) (by decide +kernel), List.mem_of_getElem? (i := 260) (by decide +kernel), List.mem_of_getElem? (i := 261) (by decide +kernel)⟩
theorem lw_p7 : lw_okq (⟨"BookRental$Shop", "isOfUse", "(II)Z"⟩, 18) := ⟨⟨by decide +kernel, by decide +kernel⟩, List.mem_of_getElem? (i := 20) (by decide +kernel), List.mem_of_getElem? (i := 264) (by decide +kernel), List.mem_of_getElem? (i := 265) (by decide +kernel)⟩
theorem lw_p8 : lw_okq (⟨"BookRental$Shop", "takes", "(III)Z"⟩, 18) := ⟨⟨by decide +kernel, by decide +kernel⟩, List.mem_of_getElem? (i := 20) (by decide +kernel), List.mem_of_getElem? (i := 268) (by decide +kernel), List.mem_of_getElem? (i := 269) (by decide +kernel)⟩
theorem lw_p9 : lw_okq (⟨"BookRental$Shop", "daysLate", "(I)I"⟩, 18) := ⟨⟨by decide +kernel, by decide +kernel⟩, List.mem_of_getElem? (i := 20) (by decide +kernel), List.mem_of_getElem? (i := 272) (by decide +kernel), List.mem_of_getElem? (i := 273) (by decide +kernel)⟩
theorem lw_p10 : lw_okq (⟨"BookRental$Shop", "putCopy", "(III)V"⟩, 18) := ⟨⟨by decide +kernel, by decide +kernel⟩, List.mem_of_getElem? (i := 20) (by decide +kernel), List.mem_of_getElem? (i := 293) (by decide +kernel), List.mem_of_getElem? (i := 294) (by decide +kernel)⟩
theorem lw_p11 : lw_okq (⟨"BookRental$Shop", "supplyOf", "(I)I"⟩, 18) := ⟨⟨by decide +kernel, by decide +kernel⟩, List.mem_of_getElem? (i := 20) (by decide +kernel), List.mem_of_getElem? (i := 308) (by decide +kernel), List.mem_of_getElem? (i := 309) (by decide +kernel)⟩
theorem lw_p12 : lw_okq (⟨"BookRental$Shop", "demandOf", "(I)I"⟩, 18) := ⟨⟨by decide +kernel, by decide +kernel⟩, List.mem_of_getElem? (i := 20) (by decide +kernel), List.mem_of_getElem? (i := 312) (by decide +kernel), List.mem_of_getElem? (i := 313) (by decide +kernel)⟩
theorem lw_p13 : lw_okq (⟨"BookRental$Shop", "hasCourse", "(I)Z"⟩, 18) := ⟨⟨by decide +kernel, by decide +kernel⟩, List.mem_of_getElem? (i := 20) (by decide +kernel), List.mem_of_getElem? (i := 344) (by decide +kernel), List.mem_of_getElem? (i := 345) (by decide +kernel)⟩
theorem lw_p14 : lw_okq (⟨"BookRental$Shop", "bestFor", "(I)I"⟩, 18) := ⟨⟨by decide +kernel, by decide +kernel⟩, List.mem_of_getElem? (i := 20) (by decide +kernel), List.mem_of_getElem? (i := 348) (by decide +kernel), List.mem_of_getElem? (i := 349) (by decide +kernel)⟩
theorem lw_p15 : lw_okq (⟨"BookRental$Shop", "suits", "(II)Z"⟩, 18) := ⟨⟨by decide +kernel, by decide +kernel⟩, List.mem_of_getElem? (i := 20) (by decide +kernel), List.mem_of_getElem? (i := 352) (by decide +kernel), List.mem_of_getElem? (i := 353) (by decide +kernel)⟩
def lw_privs_1 : List (MethodName × Nat) := [(⟨"BookRental$Shop", "hasTitle", "(I)Z"⟩, 18), (⟨"BookRental$Shop", "copiesIn", "(I)I"⟩, 18), (⟨"BookRental$Shop", "hasCopy", "(I)Z"⟩, 18), (⟨"BookRental$Shop", "worthOf", "(I)I"⟩, 18), (⟨"BookRental$Shop", "worthBy", "(IIII)I"⟩, 18), (⟨"BookRental$Shop", "rentCost", "(I)I"⟩, 18), (⟨"BookRental$Shop", "saleCost", "(I)I"⟩, 18), (⟨"BookRental$Shop", "isOfUse", "(II)Z"⟩, 18), (⟨"BookRental$Shop", "takes", "(III)Z"⟩, 18), (⟨"BookRental$Shop", "daysLate", "(I)I"⟩, 18), (⟨"BookRental$Shop", "putCopy", "(III)V"⟩, 18), (⟨"BookRental$Shop", "supplyOf", "(I)I"⟩, 18), (⟨"BookRental$Shop", "demandOf", "(I)I"⟩, 18), (⟨"BookRental$Shop", "hasCourse", "(I)Z"⟩, 18), (⟨"BookRental$Shop", "bestFor", "(I)I"⟩, 18), (⟨"BookRental$Shop", "suits", "(II)Z"⟩, 18)]
theorem lw_r1 : ∀ q ∈ lw_privs_1, lw_okq q := List.forall_mem_cons.mpr ⟨lw_p0, List.forall_mem_cons.mpr ⟨lw_p1, List.forall_mem_cons.mpr ⟨lw_p2, List.forall_mem_cons.mpr ⟨lw_p3, List.forall_mem_cons.mpr ⟨lw_p4, List.forall_mem_cons.mpr ⟨lw_p5, List.forall_mem_cons.mpr ⟨lw_p6, List.forall_mem_cons.mpr ⟨lw_p7, List.forall_mem_cons.mpr ⟨lw_p8, List.forall_mem_cons.mpr ⟨lw_p9, List.forall_mem_cons.mpr ⟨lw_p10, List.forall_mem_cons.mpr ⟨lw_p11, List.forall_mem_cons.mpr ⟨lw_p12, List.forall_mem_cons.mpr ⟨lw_p13, List.forall_mem_cons.mpr ⟨lw_p14, List.forall_mem_cons.mpr ⟨lw_p15, fun _ h => absurd h List.not_mem_nil⟩⟩⟩⟩⟩⟩⟩⟩⟩⟩⟩⟩⟩⟩⟩⟩
theorem lw_p16 : lw_okq (⟨"BookRental$Shop", "goesAhead", "(II)Z"⟩, 18) := ⟨⟨by decide +kernel, by decide +kernel⟩, List.mem_of_getElem? (i := 20) (by decide +kernel), List.mem_of_getElem? (i := 356) (by decide +kernel), List.mem_of_getElem? (i := 357) (by decide +kernel)⟩
theorem lw_p17 : lw_okq (⟨"BookRental$Shop", "canRent", "(II)Z"⟩, 18) := ⟨⟨by decide +kernel, by decide +kernel⟩, List.mem_of_getElem? (i := 20) (by decide +kernel), List.mem_of_getElem? (i := 360) (by decide +kernel), List.mem_of_getElem? (i := 361) (by decide +kernel)⟩
theorem lw_p18 : lw_okq (⟨"BookRental$Shop", "isRentedBy", "(II)Z"⟩, 18) := ⟨⟨by decide +kernel, by decide +kernel⟩, List.mem_of_getElem? (i := 20) (by decide +kernel), List.mem_of_getElem? (i := 364) (by decide +kernel), List.mem_of_getElem? (i := 365) (by decide +kernel)⟩
theorem lw_p19 : lw_okq (⟨"BookRental$Shop", "rentedBy", "(I)I"⟩, 18) := ⟨⟨by decide +kernel, by decide +kernel⟩, List.mem_of_getElem? (i := 20) (by decide +kernel), List.mem_of_getElem? (i := 368) (by decide +kernel), List.mem_of_getElem? (i := 369) (by decide +kernel)⟩
theorem lw_p20 : lw_okq (⟨"BookRental$Shop", "lateCharge", "(I)I"⟩, 18) := ⟨⟨by decide +kernel, by decide +kernel⟩, List.mem_of_getElem? (i := 20) (by decide +kernel), List.mem_of_getElem? (i := 388) (by decide +kernel), List.mem_of_getElem? (i := 389) (by decide +kernel)⟩
theorem lw_p21 : lw_okq (⟨"BookRental$Shop", "damageCharge", "(II)I"⟩, 18) := ⟨⟨by decide +kernel, by decide +kernel⟩, List.mem_of_getElem? (i := 20) (by decide +kernel), List.mem_of_getElem? (i := 392) (by decide +kernel), List.mem_of_getElem? (i := 393) (by decide +kernel)⟩
theorem lw_p22 : lw_okq (⟨"BookRental$Shop", "isRuinedBy", "(II)Z"⟩, 18) := ⟨⟨by decide +kernel, by decide +kernel⟩, List.mem_of_getElem? (i := 20) (by decide +kernel), List.mem_of_getElem? (i := 396) (by decide +kernel), List.mem_of_getElem? (i := 397) (by decide +kernel)⟩
theorem lw_p23 : lw_okq (⟨"BookRental$Shop", "worthWithGrade", "(II)I"⟩, 18) := ⟨⟨by decide +kernel, by decide +kernel⟩, List.mem_of_getElem? (i := 20) (by decide +kernel), List.mem_of_getElem? (i := 400) (by decide +kernel), List.mem_of_getElem? (i := 401) (by decide +kernel)⟩
theorem lw_p24 : lw_okq (⟨"BookRental$Shop", "isLostOn", "(II)Z"⟩, 18) := ⟨⟨by decide +kernel, by decide +kernel⟩, List.mem_of_getElem? (i := 20) (by decide +kernel), List.mem_of_getElem? (i := 413) (by decide +kernel), List.mem_of_getElem? (i := 414) (by decide +kernel)⟩
theorem lw_p25 : lw_okq (⟨"BookRental$Shop", "copiesOfIn", "(II)I"⟩, 18) := ⟨⟨by decide +kernel, by decide +kernel⟩, List.mem_of_getElem? (i := 20) (by decide +kernel), List.mem_of_getElem? (i := 425) (by decide +kernel), List.mem_of_getElem? (i := 426) (by decide +kernel)⟩
theorem lw_p26 : lw_okq (⟨"BookRental$Shop", "loseSight", "(II)V"⟩, 18) := ⟨⟨by decide +kernel, by decide +kernel⟩, List.mem_of_getElem? (i := 20) (by decide +kernel), List.mem_of_getElem? (i := 429) (by decide +kernel), List.mem_of_getElem? (i := 430) (by decide +kernel)⟩
theorem lw_p27 : lw_okq (⟨"BookRental$Shop", "findAgain", "(II)V"⟩, 18) := ⟨⟨by decide +kernel, by decide +kernel⟩, List.mem_of_getElem? (i := 20) (by decide +kernel), List.mem_of_getElem? (i := 433) (by decide +kernel), List.mem_of_getElem? (i := 434) (by decide +kernel)⟩
theorem lw_p28 : lw_okq (⟨"BookRental$Shop", "lateBy", "(I)I"⟩, 18) := ⟨⟨by decide +kernel, by decide +kernel⟩, List.mem_of_getElem? (i := 20) (by decide +kernel), List.mem_of_getElem? (i := 445) (by decide +kernel), List.mem_of_getElem? (i := 446) (by decide +kernel)⟩
theorem lw_p29 : lw_okq (⟨"BookRental$Shop", "isOwned", "(I)Z"⟩, 18) := ⟨⟨by decide +kernel, by decide +kernel⟩, List.mem_of_getElem? (i := 20) (by decide +kernel), List.mem_of_getElem? (i := 465) (by decide +kernel), List.mem_of_getElem? (i := 466) (by decide +kernel)⟩
theorem lw_p30 : lw_okq (⟨"BookRental$Shop", "servedWith", "(I)I"⟩, 18) := ⟨⟨by decide +kernel, by decide +kernel⟩, List.mem_of_getElem? (i := 20) (by decide +kernel), List.mem_of_getElem? (i := 477) (by decide +kernel), List.mem_of_getElem? (i := 478) (by decide +kernel)⟩
theorem lw_p31 : lw_okq (⟨"BookRental$Shop", "stockOfEdition", "(II)I"⟩, 18) := ⟨⟨by decide +kernel, by decide +kernel⟩, List.mem_of_getElem? (i := 20) (by decide +kernel), List.mem_of_getElem? (i := 481) (by decide +kernel), List.mem_of_getElem? (i := 482) (by decide +kernel)⟩
def lw_privs_2 : List (MethodName × Nat) := [(⟨"BookRental$Shop", "goesAhead", "(II)Z"⟩, 18), (⟨"BookRental$Shop", "canRent", "(II)Z"⟩, 18), (⟨"BookRental$Shop", "isRentedBy", "(II)Z"⟩, 18), (⟨"BookRental$Shop", "rentedBy", "(I)I"⟩, 18), (⟨"BookRental$Shop", "lateCharge", "(I)I"⟩, 18), (⟨"BookRental$Shop", "damageCharge", "(II)I"⟩, 18), (⟨"BookRental$Shop", "isRuinedBy", "(II)Z"⟩, 18), (⟨"BookRental$Shop", "worthWithGrade", "(II)I"⟩, 18), (⟨"BookRental$Shop", "isLostOn", "(II)Z"⟩, 18), (⟨"BookRental$Shop", "copiesOfIn", "(II)I"⟩, 18), (⟨"BookRental$Shop", "loseSight", "(II)V"⟩, 18), (⟨"BookRental$Shop", "findAgain", "(II)V"⟩, 18), (⟨"BookRental$Shop", "lateBy", "(I)I"⟩, 18), (⟨"BookRental$Shop", "isOwned", "(I)Z"⟩, 18), (⟨"BookRental$Shop", "servedWith", "(I)I"⟩, 18), (⟨"BookRental$Shop", "stockOfEdition", "(II)I"⟩, 18)]
theorem lw_r2 : ∀ q ∈ lw_privs_2, lw_okq q := List.forall_mem_cons.mpr ⟨lw_p16, List.forall_mem_cons.mpr ⟨lw_p17, List.forall_mem_cons.mpr ⟨lw_p18, List.forall_mem_cons.mpr ⟨lw_p19, List.forall_mem_cons.mpr ⟨lw_p20, List.forall_mem_cons.mpr ⟨lw_p21, List.forall_mem_cons.mpr ⟨lw_p22, List.forall_mem_cons.mpr ⟨lw_p23, List.forall_mem_cons.mpr ⟨lw_p24, List.forall_mem_cons.mpr ⟨lw_p25, List.forall_mem_cons.mpr ⟨lw_p26, List.forall_mem_cons.mpr ⟨lw_p27, List.forall_mem_cons.mpr ⟨lw_p28, List.forall_mem_cons.mpr ⟨lw_p29, List.forall_mem_cons.mpr ⟨lw_p30, List.forall_mem_cons.mpr ⟨lw_p31, fun _ h => absurd h List.not_mem_nil⟩⟩⟩⟩⟩⟩⟩⟩⟩⟩⟩⟩⟩⟩⟩⟩
theorem lw_p32 : lw_okq (⟨"BookRental$Shop", "studentsFrom", "(II)I"⟩, 18) := ⟨⟨by decide +kernel, by decide +kernel⟩, List.mem_of_getElem? (i := 20) (by decide +kernel), List.mem_of_getElem? (i := 485) (by decide +kernel), List.mem_of_getElem? (i := 486) (by decide +kernel)⟩
theorem lw_p33 : lw_okq (⟨"BookRental$OrderText", "skipBlanks", "()V"⟩, 7) := ⟨⟨by decide +kernel, by decide +kernel⟩, List.mem_of_getElem? (i := 104) (by decide +kernel), List.mem_of_getElem? (i := 513) (by decide +kernel), List.mem_of_getElem? (i := 514) (by decide +kernel)⟩
theorem lw_p34 : lw_okq (⟨"BookRental$OrderText", "readWord", "()I"⟩, 7) := ⟨⟨by decide +kernel, by decide +kernel⟩, List.mem_of_getElem? (i := 104) (by decide +kernel), List.mem_of_getElem? (i := 517) (by decide +kernel), List.mem_of_getElem? (i := 518) (by decide +kernel)⟩
theorem lw_p35 : lw_okq (⟨"BookRental$OrderText", "stands", "(Ljava/lang/String;I)Z"⟩, 7) := ⟨⟨by decide +kernel, by decide +kernel⟩, List.mem_of_getElem? (i := 104) (by decide +kernel), List.mem_of_getElem? (i := 522) (by decide +kernel), List.mem_of_getElem? (i := 523) (by decide +kernel)⟩
theorem lw_p36 : lw_okq (⟨"BookRental$OrderText", "readNumber", "()I"⟩, 7) := ⟨⟨by decide +kernel, by decide +kernel⟩, List.mem_of_getElem? (i := 104) (by decide +kernel), List.mem_of_getElem? (i := 578) (by decide +kernel), List.mem_of_getElem? (i := 579) (by decide +kernel)⟩
theorem lw_p37 : lw_okq (⟨"BookRental$OrderText", "here", "()I"⟩, 7) := ⟨⟨by decide +kernel, by decide +kernel⟩, List.mem_of_getElem? (i := 104) (by decide +kernel), List.mem_of_getElem? (i := 585) (by decide +kernel), List.mem_of_getElem? (i := 586) (by decide +kernel)⟩
theorem lw_p38 : lw_okq (⟨"BookRental$OrderText", "readEndOfOrder", "()I"⟩, 7) := ⟨⟨by decide +kernel, by decide +kernel⟩, List.mem_of_getElem? (i := 104) (by decide +kernel), List.mem_of_getElem? (i := 589) (by decide +kernel), List.mem_of_getElem? (i := 590) (by decide +kernel)⟩
theorem lw_p39 : lw_okq (⟨"BookRental", "carryOut", "()I"⟩, 3) := ⟨⟨by decide +kernel, by decide +kernel⟩, List.mem_of_getElem? (i := 12) (by decide +kernel), List.mem_of_getElem? (i := 599) (by decide +kernel), List.mem_of_getElem? (i := 600) (by decide +kernel)⟩
theorem lw_p40 : lw_okq (⟨"BookRental$Shop", "copiesOf", "(I)I"⟩, 18) := ⟨⟨by decide +kernel, by decide +kernel⟩, List.mem_of_getElem? (i := 20) (by decide +kernel), List.mem_of_getElem? (i := 630) (by decide +kernel), List.mem_of_getElem? (i := 631) (by decide +kernel)⟩
theorem lw_p41 : lw_okq (⟨"BookRental$Shop", "stockFor", "(I)I"⟩, 18) := ⟨⟨by decide +kernel, by decide +kernel⟩, List.mem_of_getElem? (i := 20) (by decide +kernel), List.mem_of_getElem? (i := 638) (by decide +kernel), List.mem_of_getElem? (i := 639) (by decide +kernel)⟩
def lw_privs_3 : List (MethodName × Nat) := [(⟨"BookRental$Shop", "studentsFrom", "(II)I"⟩, 18), (⟨"BookRental$OrderText", "skipBlanks", "()V"⟩, 7), (⟨"BookRental$OrderText", "readWord", "()I"⟩, 7), (⟨"BookRental$OrderText", "stands", "(Ljava/lang/String;I)Z"⟩, 7), (⟨"BookRental$OrderText", "readNumber", "()I"⟩, 7), (⟨"BookRental$OrderText", "here", "()I"⟩, 7), (⟨"BookRental$OrderText", "readEndOfOrder", "()I"⟩, 7), (⟨"BookRental", "carryOut", "()I"⟩, 3), (⟨"BookRental$Shop", "copiesOf", "(I)I"⟩, 18), (⟨"BookRental$Shop", "stockFor", "(I)I"⟩, 18)]
theorem lw_r3 : ∀ q ∈ lw_privs_3, lw_okq q := List.forall_mem_cons.mpr ⟨lw_p32, List.forall_mem_cons.mpr ⟨lw_p33, List.forall_mem_cons.mpr ⟨lw_p34, List.forall_mem_cons.mpr ⟨lw_p35, List.forall_mem_cons.mpr ⟨lw_p36, List.forall_mem_cons.mpr ⟨lw_p37, List.forall_mem_cons.mpr ⟨lw_p38, List.forall_mem_cons.mpr ⟨lw_p39, List.forall_mem_cons.mpr ⟨lw_p40, List.forall_mem_cons.mpr ⟨lw_p41, fun _ h => absurd h List.not_mem_nil⟩⟩⟩⟩⟩⟩⟩⟩⟩⟩
def lw_privs : List (MethodName × Nat) := lw_privs_1 ++ (lw_privs_2 ++ (lw_privs_3))
def lw_tbl : List Cond := k2_sels lw_privs ++ tables_1
theorem lw_privs_ok : ∀ q ∈ lw_privs, lw_okq q := by
  show ∀ q ∈ lw_privs_1 ++ (lw_privs_2 ++ (lw_privs_3)), lw_okq q
  exact List.forall_mem_append.mpr ⟨lw_r1, List.forall_mem_append.mpr ⟨lw_r2, lw_r3⟩⟩
def RX0 : String := "BookRental$History"
def TX0 : u_T := fun k => match k with
  | 0 => ("BookRental$History", "ring", "[LBookRental$Shop;", true)
  | 1 => ("BookRental$History", "spare", "I", false)
  | _ => ("BookRental$History", "kept", "I", false)
def tyX0 : Nat → FieldType := fun k => match k with
  | 0 => .array (.object "BookRental$Shop")
  | 1 => .int
  | _ => .int
abbrev wsX00 : List Cond := u_ws RX0 TX0 3
theorem nmX0 : ∀ a, a < 3 → ∀ b, b < 3 → a ≠ b → (TX0 a).2.1 ≠ (TX0 b).2.1 := by decide +kernel
theorem tyX0_ok : ∀ k, k < 3 → parseFieldDescriptor (TX0 k).2.2.1 = some (tyX0 k) := by decide +kernel
abbrev cX0_init : ByteArray := prog_2_method_1_code
def yX0_init : MethodName := ⟨RX0, "<init>", "()V"⟩
abbrev cX0_prepare : ByteArray := prog_2_method_2_code
def yX0_prepare : MethodName := ⟨RX0, "prepare", "(LBookRental$Shop;)V"⟩
abbrev cX0_settle : ByteArray := prog_2_method_3_code
def yX0_settle : MethodName := ⟨RX0, "settle", "(I)I"⟩
abbrev cX0_restore : ByteArray := prog_2_method_4_code
def yX0_restore : MethodName := ⟨RX0, "restore", "(LBookRental$Shop;)I"⟩
def RX1 : String := "BookRental$OrderText"
def TX1 : u_T := fun k => match k with
  | 0 => ("BookRental$OrderText", "bytes", "[I", true)
  | 1 => ("BookRental$OrderText", "length", "I", false)
  | 2 => ("BookRental$OrderText", "at", "I", false)
  | 3 => ("BookRental$OrderText", "more", "Z", false)
  | 4 => ("BookRental$OrderText", "word", "I", false)
  | 5 => ("BookRental$OrderText", "first", "I", false)
  | _ => ("BookRental$OrderText", "second", "I", false)
def tyX1 : Nat → FieldType := fun k => match k with
  | 0 => .array .int
  | 1 => .int
  | 2 => .int
  | 3 => .boolean
  | 4 => .int
  | 5 => .int
  | _ => .int
abbrev wsX10 : List Cond := u_ws RX1 TX1 7
theorem nmX1 : ∀ a, a < 7 → ∀ b, b < 7 → a ≠ b → (TX1 a).2.1 ≠ (TX1 b).2.1 := by decide +kernel
theorem tyX1_ok : ∀ k, k < 7 → parseFieldDescriptor (TX1 k).2.2.1 = some (tyX1 k) := by decide +kernel
abbrev cX1_init : ByteArray := prog_3_method_1_code
def yX1_init : MethodName := ⟨RX1, "<init>", "()V"⟩
abbrev cX1_faultOf : ByteArray := prog_3_method_4_code
def yX1_faultOf : MethodName := ⟨RX1, "faultOf", "()I"⟩
abbrev cX1_startReading : ByteArray := prog_3_method_5_code
def yX1_startReading : MethodName := ⟨RX1, "startReading", "()V"⟩
abbrev cX1_hasMore : ByteArray := prog_3_method_6_code
def yX1_hasMore : MethodName := ⟨RX1, "hasMore", "()Z"⟩
abbrev cX1_word : ByteArray := prog_3_method_7_code
def yX1_word : MethodName := ⟨RX1, "word", "()I"⟩
abbrev cX1_first : ByteArray := prog_3_method_8_code
def yX1_first : MethodName := ⟨RX1, "first", "()I"⟩
abbrev cX1_second : ByteArray := prog_3_method_9_code
def yX1_second : MethodName := ⟨RX1, "second", "()I"⟩
abbrev cX1_readOrder : ByteArray := prog_3_method_10_code
def yX1_readOrder : MethodName := ⟨RX1, "readOrder", "()I"⟩
abbrev cX1_readEndOfOrder : ByteArray := prog_3_method_11_code
def yX1_readEndOfOrder : MethodName := ⟨RX1, "readEndOfOrder", "()I"⟩
abbrev cX1_readWord : ByteArray := prog_3_method_12_code
def yX1_readWord : MethodName := ⟨RX1, "readWord", "()I"⟩
abbrev cX1_stands : ByteArray := prog_3_method_13_code
def yX1_stands : MethodName := ⟨RX1, "stands", "(Ljava/lang/String;I)Z"⟩
abbrev cX1_takesTwo : ByteArray := prog_3_method_14_code
def yX1_takesTwo : MethodName := ⟨RX1, "takesTwo", "(I)Z"⟩
abbrev cX1_readNumber : ByteArray := prog_3_method_15_code
def yX1_readNumber : MethodName := ⟨RX1, "readNumber", "()I"⟩
abbrev cX1_skipBlanks : ByteArray := prog_3_method_16_code
def yX1_skipBlanks : MethodName := ⟨RX1, "skipBlanks", "()V"⟩
abbrev cX1_here : ByteArray := prog_3_method_17_code
def yX1_here : MethodName := ⟨RX1, "here", "()I"⟩
def RX2 : String := "BookRental$Shop"
def TX2 : u_T := fun k => match k with
  | 0 => ("BookRental$Shop", "day", "I", false)
  | 1 => ("BookRental$Shop", "titles", "I", false)
  | 2 => ("BookRental$Shop", "courses", "I", false)
  | 3 => ("BookRental$Shop", "copies", "I", false)
  | 4 => ("BookRental$Shop", "settings", "[I", true)
  | 5 => ("BookRental$Shop", "price", "[I", true)
  | 6 => ("BookRental$Shop", "currentEdition", "[I", true)
  | 7 => ("BookRental$Shop", "titleOfCourse", "[I", true)
  | 8 => ("BookRental$Shop", "least", "[I", true)
  | 9 => ("BookRental$Shop", "students", "[I", true)
  | 10 => ("BookRental$Shop", "titleOfCopy", "[I", true)
  | 11 => ("BookRental$Shop", "edition", "[I", true)
  | 12 => ("BookRental$Shop", "grade", "[I", true)
  | 13 => ("BookRental$Shop", "state", "[I", true)
  | 14 => ("BookRental$Shop", "renter", "[I", true)
  | 15 => ("BookRental$Shop", "due", "[I", true)
  | 16 => ("BookRental$Shop", "sums", "[I", true)
  | _ => ("BookRental$Shop", "charged", "[I", true)
def tyX2 : Nat → FieldType := fun k => match k with
  | 0 => .int
  | 1 => .int
  | 2 => .int
  | 3 => .int
  | 4 => .array .int
  | 5 => .array .int
  | 6 => .array .int
  | 7 => .array .int
  | 8 => .array .int
  | 9 => .array .int
  | 10 => .array .int
  | 11 => .array .int
  | 12 => .array .int
  | 13 => .array .int
  | 14 => .array .int
  | 15 => .array .int
  | 16 => .array .int
  | _ => .array .int
abbrev wsX20 : List Cond := u_ws RX2 TX2 18
theorem nmX2 : ∀ a, a < 18 → ∀ b, b < 18 → a ≠ b → (TX2 a).2.1 ≠ (TX2 b).2.1 := by decide +kernel
theorem tyX2_ok : ∀ k, k < 18 → parseFieldDescriptor (TX2 k).2.2.1 = some (tyX2 k) := by decide +kernel
abbrev cX2_init : ByteArray := prog_4_method_1_code
def yX2_init : MethodName := ⟨RX2, "<init>", "()V"⟩
abbrev cX2_becomeLike : ByteArray := prog_4_method_2_code
def yX2_becomeLike : MethodName := ⟨RX2, "becomeLike", "(LBookRental$Shop;)V"⟩
abbrev cX2_fill : ByteArray := prog_4_method_3_code
def yX2_fill : MethodName := ⟨RX2, "fill", "([I[I)V"⟩
abbrev cX2_putTitle : ByteArray := prog_4_method_4_code
def yX2_putTitle : MethodName := ⟨RX2, "putTitle", "(II)I"⟩
abbrev cX2_changePrice : ByteArray := prog_4_method_5_code
def yX2_changePrice : MethodName := ⟨RX2, "changePrice", "(II)I"⟩
abbrev cX2_advanceEdition : ByteArray := prog_4_method_6_code
def yX2_advanceEdition : MethodName := ⟨RX2, "advanceEdition", "(I)I"⟩
abbrev cX2_putCourse : ByteArray := prog_4_method_7_code
def yX2_putCourse : MethodName := ⟨RX2, "putCourse", "(III)I"⟩
abbrev cX2_changeCourse : ByteArray := prog_4_method_8_code
def yX2_changeCourse : MethodName := ⟨RX2, "changeCourse", "(III)I"⟩
abbrev cX2_changeSetting : ByteArray := prog_4_method_9_code
def yX2_changeSetting : MethodName := ⟨RX2, "changeSetting", "(II)I"⟩
abbrev cX2_numberOf : ByteArray := prog_4_method_10_code
def yX2_numberOf : MethodName := ⟨RX2, "numberOf", "(I)I"⟩
abbrev cX2_titleProperty : ByteArray := prog_4_method_11_code
def yX2_titleProperty : MethodName := ⟨RX2, "titleProperty", "(II)I"⟩
abbrev cX2_courseProperty : ByteArray := prog_4_method_12_code
def yX2_courseProperty : MethodName := ⟨RX2, "courseProperty", "(II)I"⟩
abbrev cX2_copyProperty : ByteArray := prog_4_method_13_code
def yX2_copyProperty : MethodName := ⟨RX2, "copyProperty", "(II)I"⟩
abbrev cX2_sumOf : ByteArray := prog_4_method_14_code
def yX2_sumOf : MethodName := ⟨RX2, "sumOf", "(I)I"⟩
abbrev cX2_customerNumber : ByteArray := prog_4_method_15_code
def yX2_customerNumber : MethodName := ⟨RX2, "customerNumber", "(II)I"⟩
abbrev cX2_buyNew : ByteArray := prog_4_method_16_code
def yX2_buyNew : MethodName := ⟨RX2, "buyNew", "(II)I"⟩
abbrev cX2_offerFor : ByteArray := prog_4_method_17_code
def yX2_offerFor : MethodName := ⟨RX2, "offerFor", "(III)I"⟩
abbrev cX2_buyUsed : ByteArray := prog_4_method_18_code
def yX2_buyUsed : MethodName := ⟨RX2, "buyUsed", "(III)I"⟩
abbrev cX2_sellCopy : ByteArray := prog_4_method_19_code
def yX2_sellCopy : MethodName := ⟨RX2, "sellCopy", "(I)I"⟩
abbrev cX2_putCopy : ByteArray := prog_4_method_20_code
def yX2_putCopy : MethodName := ⟨RX2, "putCopy", "(III)V"⟩
abbrev cX2_rentCopy : ByteArray := prog_4_method_21_code
def yX2_rentCopy : MethodName := ⟨RX2, "rentCopy", "(II)I"⟩
abbrev cX2_nextCopy : ByteArray := prog_4_method_22_code
def yX2_nextCopy : MethodName := ⟨RX2, "nextCopy", "(I)I"⟩
abbrev cX2_chargeFor : ByteArray := prog_4_method_23_code
def yX2_chargeFor : MethodName := ⟨RX2, "chargeFor", "(III)I"⟩
abbrev cX2_takeBack : ByteArray := prog_4_method_24_code
def yX2_takeBack : MethodName := ⟨RX2, "takeBack", "(II)I"⟩
abbrev cX2_passDays : ByteArray := prog_4_method_25_code
def yX2_passDays : MethodName := ⟨RX2, "passDays", "(I)I"⟩
abbrev cX2_bestFor : ByteArray := prog_4_method_26_code
def yX2_bestFor : MethodName := ⟨RX2, "bestFor", "(I)I"⟩
abbrev cX2_goesAhead : ByteArray := prog_4_method_27_code
def yX2_goesAhead : MethodName := ⟨RX2, "goesAhead", "(II)Z"⟩
abbrev cX2_canRent : ByteArray := prog_4_method_28_code
def yX2_canRent : MethodName := ⟨RX2, "canRent", "(II)Z"⟩
abbrev cX2_lateCharge : ByteArray := prog_4_method_29_code
def yX2_lateCharge : MethodName := ⟨RX2, "lateCharge", "(I)I"⟩
abbrev cX2_damageCharge : ByteArray := prog_4_method_30_code
def yX2_damageCharge : MethodName := ⟨RX2, "damageCharge", "(II)I"⟩
abbrev cX2_isRuinedBy : ByteArray := prog_4_method_31_code
def yX2_isRuinedBy : MethodName := ⟨RX2, "isRuinedBy", "(II)Z"⟩
abbrev cX2_isLostOn : ByteArray := prog_4_method_32_code
def yX2_isLostOn : MethodName := ⟨RX2, "isLostOn", "(II)Z"⟩
abbrev cX2_daysLate : ByteArray := prog_4_method_33_code
def yX2_daysLate : MethodName := ⟨RX2, "daysLate", "(I)I"⟩
abbrev cX2_isRentedBy : ByteArray := prog_4_method_34_code
def yX2_isRentedBy : MethodName := ⟨RX2, "isRentedBy", "(II)Z"⟩
abbrev cX2_rentedBy : ByteArray := prog_4_method_35_code
def yX2_rentedBy : MethodName := ⟨RX2, "rentedBy", "(I)I"⟩
abbrev cX2_lateBy : ByteArray := prog_4_method_36_code
def yX2_lateBy : MethodName := ⟨RX2, "lateBy", "(I)I"⟩
abbrev cX2_countShelf : ByteArray := prog_4_method_37_code
def yX2_countShelf : MethodName := ⟨RX2, "countShelf", "(II)I"⟩
abbrev cX2_loseSight : ByteArray := prog_4_method_38_code
def yX2_loseSight : MethodName := ⟨RX2, "loseSight", "(II)V"⟩
abbrev cX2_findAgain : ByteArray := prog_4_method_39_code
def yX2_findAgain : MethodName := ⟨RX2, "findAgain", "(II)V"⟩
abbrev cX2_lostAfter : ByteArray := prog_4_method_40_code
def yX2_lostAfter : MethodName := ⟨RX2, "lostAfter", "(I)I"⟩
abbrev cX2_agingBy : ByteArray := prog_4_method_41_code
def yX2_agingBy : MethodName := ⟨RX2, "agingBy", "(I)I"⟩
abbrev cX2_servedStudents : ByteArray := prog_4_method_42_code
def yX2_servedStudents : MethodName := ⟨RX2, "servedStudents", "()I"⟩
abbrev cX2_servedWith : ByteArray := prog_4_method_43_code
def yX2_servedWith : MethodName := ⟨RX2, "servedWith", "(I)I"⟩
abbrev cX2_stockOfEdition : ByteArray := prog_4_method_44_code
def yX2_stockOfEdition : MethodName := ⟨RX2, "stockOfEdition", "(II)I"⟩
abbrev cX2_studentsFrom : ByteArray := prog_4_method_45_code
def yX2_studentsFrom : MethodName := ⟨RX2, "studentsFrom", "(II)I"⟩
abbrev cX2_worthOf : ByteArray := prog_4_method_46_code
def yX2_worthOf : MethodName := ⟨RX2, "worthOf", "(I)I"⟩
abbrev cX2_worthWithGrade : ByteArray := prog_4_method_47_code
def yX2_worthWithGrade : MethodName := ⟨RX2, "worthWithGrade", "(II)I"⟩
abbrev cX2_worthBy : ByteArray := prog_4_method_48_code
def yX2_worthBy : MethodName := ⟨RX2, "worthBy", "(IIII)I"⟩
abbrev cX2_rentCost : ByteArray := prog_4_method_49_code
def yX2_rentCost : MethodName := ⟨RX2, "rentCost", "(I)I"⟩
abbrev cX2_saleCost : ByteArray := prog_4_method_50_code
def yX2_saleCost : MethodName := ⟨RX2, "saleCost", "(I)I"⟩
abbrev cX2_demandOf : ByteArray := prog_4_method_51_code
def yX2_demandOf : MethodName := ⟨RX2, "demandOf", "(I)I"⟩
abbrev cX2_supplyOf : ByteArray := prog_4_method_52_code
def yX2_supplyOf : MethodName := ⟨RX2, "supplyOf", "(I)I"⟩
abbrev cX2_isOfUse : ByteArray := prog_4_method_53_code
def yX2_isOfUse : MethodName := ⟨RX2, "isOfUse", "(II)Z"⟩
abbrev cX2_takes : ByteArray := prog_4_method_54_code
def yX2_takes : MethodName := ⟨RX2, "takes", "(III)Z"⟩
abbrev cX2_suits : ByteArray := prog_4_method_55_code
def yX2_suits : MethodName := ⟨RX2, "suits", "(II)Z"⟩
abbrev cX2_stockFor : ByteArray := prog_4_method_56_code
def yX2_stockFor : MethodName := ⟨RX2, "stockFor", "(I)I"⟩
abbrev cX2_copiesIn : ByteArray := prog_4_method_57_code
def yX2_copiesIn : MethodName := ⟨RX2, "copiesIn", "(I)I"⟩
abbrev cX2_copiesOf : ByteArray := prog_4_method_58_code
def yX2_copiesOf : MethodName := ⟨RX2, "copiesOf", "(I)I"⟩
abbrev cX2_copiesOfIn : ByteArray := prog_4_method_59_code
def yX2_copiesOfIn : MethodName := ⟨RX2, "copiesOfIn", "(II)I"⟩
abbrev cX2_isOwned : ByteArray := prog_4_method_60_code
def yX2_isOwned : MethodName := ⟨RX2, "isOwned", "(I)Z"⟩
abbrev cX2_hasTitle : ByteArray := prog_4_method_61_code
def yX2_hasTitle : MethodName := ⟨RX2, "hasTitle", "(I)Z"⟩
abbrev cX2_hasCourse : ByteArray := prog_4_method_62_code
def yX2_hasCourse : MethodName := ⟨RX2, "hasCourse", "(I)Z"⟩
abbrev cX2_hasCopy : ByteArray := prog_4_method_63_code
def yX2_hasCopy : MethodName := ⟨RX2, "hasCopy", "(I)Z"⟩
abbrev cX2_hasCustomer : ByteArray := prog_4_method_64_code
def yX2_hasCustomer : MethodName := ⟨RX2, "hasCustomer", "(I)Z"⟩
abbrev cX2_isPrice : ByteArray := prog_4_method_65_code
def yX2_isPrice : MethodName := ⟨RX2, "isPrice", "(I)Z"⟩
abbrev cX2_isEdition : ByteArray := prog_4_method_66_code
def yX2_isEdition : MethodName := ⟨RX2, "isEdition", "(I)Z"⟩
abbrev cX2_isGrade : ByteArray := prog_4_method_67_code
def yX2_isGrade : MethodName := ⟨RX2, "isGrade", "(I)Z"⟩
abbrev cX2_isBetween : ByteArray := prog_4_method_68_code
def yX2_isBetween : MethodName := ⟨RX2, "isBetween", "(III)Z"⟩
def RX3 : String := "BookRental"
def TX3 : u_T := fun k => match k with
  | 0 => ("BookRental", "shop", "LBookRental$Shop;", true)
  | 1 => ("BookRental", "history", "LBookRental$History;", true)
  | _ => ("BookRental", "text", "LBookRental$OrderText;", true)
def tyX3 : Nat → FieldType := fun k => match k with
  | 0 => .object "BookRental$Shop"
  | 1 => .object "BookRental$History"
  | _ => .object "BookRental$OrderText"
abbrev wsX30 : List Cond := u_ws RX3 TX3 3
theorem nmX3 : ∀ a, a < 3 → ∀ b, b < 3 → a ≠ b → (TX3 a).2.1 ≠ (TX3 b).2.1 := by decide +kernel
theorem tyX3_ok : ∀ k, k < 3 → parseFieldDescriptor (TX3 k).2.2.1 = some (tyX3 k) := by decide +kernel
abbrev cX3_init : ByteArray := prog_1_method_1_code
def yX3_init : MethodName := ⟨RX3, "<init>", "()V"⟩
abbrev cX3_addTitle : ByteArray := prog_1_method_2_code
def yX3_addTitle : MethodName := ⟨RX3, "addTitle", "(II)I"⟩
abbrev cX3_setPrice : ByteArray := prog_1_method_3_code
def yX3_setPrice : MethodName := ⟨RX3, "setPrice", "(II)I"⟩
abbrev cX3_newEdition : ByteArray := prog_1_method_4_code
def yX3_newEdition : MethodName := ⟨RX3, "newEdition", "(I)I"⟩
abbrev cX3_addCourse : ByteArray := prog_1_method_5_code
def yX3_addCourse : MethodName := ⟨RX3, "addCourse", "(III)I"⟩
abbrev cX3_setCourse : ByteArray := prog_1_method_6_code
def yX3_setCourse : MethodName := ⟨RX3, "setCourse", "(III)I"⟩
abbrev cX3_set : ByteArray := prog_1_method_7_code
def yX3_set : MethodName := ⟨RX3, "set", "(II)I"⟩
abbrev cX3_count : ByteArray := prog_1_method_8_code
def yX3_count : MethodName := ⟨RX3, "count", "(I)I"⟩
abbrev cX3_title : ByteArray := prog_1_method_9_code
def yX3_title : MethodName := ⟨RX3, "title", "(II)I"⟩
abbrev cX3_course : ByteArray := prog_1_method_10_code
def yX3_course : MethodName := ⟨RX3, "course", "(II)I"⟩
abbrev cX3_copy : ByteArray := prog_1_method_11_code
def yX3_copy : MethodName := ⟨RX3, "copy", "(II)I"⟩
abbrev cX3_book : ByteArray := prog_1_method_12_code
def yX3_book : MethodName := ⟨RX3, "book", "(I)I"⟩
abbrev cX3_buy : ByteArray := prog_1_method_13_code
def yX3_buy : MethodName := ⟨RX3, "buy", "(II)I"⟩
abbrev cX3_offer : ByteArray := prog_1_method_14_code
def yX3_offer : MethodName := ⟨RX3, "offer", "(III)I"⟩
abbrev cX3_buyBack : ByteArray := prog_1_method_15_code
def yX3_buyBack : MethodName := ⟨RX3, "buyBack", "(III)I"⟩
abbrev cX3_sell : ByteArray := prog_1_method_16_code
def yX3_sell : MethodName := ⟨RX3, "sell", "(I)I"⟩
abbrev cX3_rent : ByteArray := prog_1_method_17_code
def yX3_rent : MethodName := ⟨RX3, "rent", "(II)I"⟩
abbrev cX3_next : ByteArray := prog_1_method_18_code
def yX3_next : MethodName := ⟨RX3, "next", "(I)I"⟩
abbrev cX3_giveBack : ByteArray := prog_1_method_19_code
def yX3_giveBack : MethodName := ⟨RX3, "giveBack", "(II)I"⟩
abbrev cX3_charge : ByteArray := prog_1_method_20_code
def yX3_charge : MethodName := ⟨RX3, "charge", "(III)I"⟩
abbrev cX3_pass : ByteArray := prog_1_method_21_code
def yX3_pass : MethodName := ⟨RX3, "pass", "(I)I"⟩
abbrev cX3_shelf : ByteArray := prog_1_method_22_code
def yX3_shelf : MethodName := ⟨RX3, "shelf", "(II)I"⟩
abbrev cX3_customer : ByteArray := prog_1_method_23_code
def yX3_customer : MethodName := ⟨RX3, "customer", "(II)I"⟩
abbrev cX3_lostIn : ByteArray := prog_1_method_24_code
def yX3_lostIn : MethodName := ⟨RX3, "lostIn", "(I)I"⟩
abbrev cX3_agingOf : ByteArray := prog_1_method_25_code
def yX3_agingOf : MethodName := ⟨RX3, "agingOf", "(I)I"⟩
abbrev cX3_served : ByteArray := prog_1_method_26_code
def yX3_served : MethodName := ⟨RX3, "served", "()I"⟩
abbrev cX3_undo : ByteArray := prog_1_method_27_code
def yX3_undo : MethodName := ⟨RX3, "undo", "()I"⟩
abbrev cX3_orders : ByteArray := prog_1_method_31_code
def yX3_orders : MethodName := ⟨RX3, "orders", "()I"⟩
abbrev cX3_digest : ByteArray := prog_1_method_32_code
def yX3_digest : MethodName := ⟨RX3, "digest", "()J"⟩
abbrev cX3_carryOut : ByteArray := prog_1_method_33_code
def yX3_carryOut : MethodName := ⟨RX3, "carryOut", "()I"⟩
def RX4 : String := "BookRentalModel"
def TX4 : u_T := fun k => match k with
  | _ => ("", "", "", false)
def tyX4 : Nat → FieldType := fun k => match k with
  | _ => .int
abbrev wsX40 : List Cond := u_ws RX4 TX4 0
theorem nmX4 : ∀ a, a < 0 → ∀ b, b < 0 → a ≠ b → (TX4 a).2.1 ≠ (TX4 b).2.1 := by decide +kernel
theorem tyX4_ok : ∀ k, k < 0 → parseFieldDescriptor (TX4 k).2.2.1 = some (tyX4 k) := by decide +kernel
def RJ9 : String := "java/lang/Math"
def TJ9 : u_T := fun k => match k with
  | _ => ("", "", "", false)
def tyJ9 : Nat → FieldType := fun k => match k with
  | _ => .int
abbrev wsJ90 : List Cond := u_ws RJ9 TJ9 0
theorem nmJ9 : ∀ a, a < 0 → ∀ b, b < 0 → a ≠ b → (TJ9 a).2.1 ≠ (TJ9 b).2.1 := by decide +kernel
theorem tyJ9_ok : ∀ k, k < 0 → parseFieldDescriptor (TJ9 k).2.2.1 = some (tyJ9 k) := by decide +kernel
abbrev cJ9_max_7cf53 : ByteArray := prog_7_method_65_code
def yJ9_max_7cf53 : MethodName := ⟨RJ9, "max", "(II)I"⟩
abbrev cJ9_min_7cf53 : ByteArray := prog_7_method_69_code
def yJ9_min_7cf53 : MethodName := ⟨RJ9, "min", "(II)I"⟩
def RJ0 : String := "java/lang/String"
def TJ0 : u_T := fun k => match k with
  | _ => ("", "", "", false)
def tyJ0 : Nat → FieldType := fun k => match k with
  | _ => .int
abbrev wsJ00 : List Cond := u_ws RJ0 TJ0 0
theorem nmJ0 : ∀ a, a < 0 → ∀ b, b < 0 → a ≠ b → (TJ0 a).2.1 ≠ (TJ0 b).2.1 := by decide +kernel
theorem tyJ0_ok : ∀ k, k < 0 → parseFieldDescriptor (TJ0 k).2.2.1 = some (tyJ0 k) := by decide +kernel
abbrev cJ0_length_8abf5 : ByteArray := prog_8_method_54_code
def yJ0_length_8abf5 : MethodName := ⟨RJ0, "length", "()I"⟩
abbrev cJ0_charAt_5068e : ByteArray := prog_8_method_56_code
def yJ0_charAt_5068e : MethodName := ⟨RJ0, "charAt", "(I)C"⟩
abbrev cJ0_coder_7d493 : ByteArray := prog_8_method_152_code
def yJ0_coder_7d493 : MethodName := ⟨RJ0, "coder", "()B"⟩
abbrev cJ0_isLatin1_aae02 : ByteArray := prog_8_method_154_code
def yJ0_isLatin1_aae02 : MethodName := ⟨RJ0, "isLatin1", "()Z"⟩
abbrev cJ0_checkIndex_df160 : ByteArray := prog_8_method_155_code
def yJ0_checkIndex_df160 : MethodName := ⟨RJ0, "checkIndex", "(II)V"⟩
def RJ1 : String := "java/lang/StringLatin1"
def TJ1 : u_T := fun k => match k with
  | _ => ("", "", "", false)
def tyJ1 : Nat → FieldType := fun k => match k with
  | _ => .int
abbrev wsJ10 : List Cond := u_ws RJ1 TJ1 0
theorem nmJ1 : ∀ a, a < 0 → ∀ b, b < 0 → a ≠ b → (TJ1 a).2.1 ≠ (TJ1 b).2.1 := by decide +kernel
theorem tyJ1_ok : ∀ k, k < 0 → parseFieldDescriptor (TJ1 k).2.2.1 = some (tyJ1 k) := by decide +kernel
abbrev cJ1_charAt_3b067 : ByteArray := prog_9_method_2_code
def yJ1_charAt_3b067 : MethodName := ⟨RJ1, "charAt", "([BI)C"⟩
def RJ2 : String := "java/lang/StringUTF16"
def TJ2 : u_T := fun k => match k with
  | _ => ("", "", "", false)
def tyJ2 : Nat → FieldType := fun k => match k with
  | _ => .int
abbrev wsJ20 : List Cond := u_ws RJ2 TJ2 0
theorem nmJ2 : ∀ a, a < 0 → ∀ b, b < 0 → a ≠ b → (TJ2 a).2.1 ≠ (TJ2 b).2.1 := by decide +kernel
theorem tyJ2_ok : ∀ k, k < 0 → parseFieldDescriptor (TJ2 k).2.2.1 = some (tyJ2 k) := by decide +kernel
abbrev cJ2_getChar_3b067 : ByteArray := prog_10_method_5_code
def yJ2_getChar_3b067 : MethodName := ⟨RJ2, "getChar", "([BI)C"⟩
abbrev cJ2_length_9d52b : ByteArray := prog_10_method_6_code
def yJ2_length_9d52b : MethodName := ⟨RJ2, "length", "([B)I"⟩
abbrev cJ2_charAt_3b067 : ByteArray := prog_10_method_83_code
def yJ2_charAt_3b067 : MethodName := ⟨RJ2, "charAt", "([BI)C"⟩
abbrev cJ2_checkIndex_2214a : ByteArray := prog_10_method_91_code
def yJ2_checkIndex_2214a : MethodName := ⟨RJ2, "checkIndex", "(I[B)V"⟩
def RJ10 : String := "java/lang/System"
def TJ10 : u_T := fun k => match k with
  | _ => ("", "", "", false)
def tyJ10 : Nat → FieldType := fun k => match k with
  | _ => .int
abbrev wsJ100 : List Cond := u_ws RJ10 TJ10 0
theorem nmJ10 : ∀ a, a < 0 → ∀ b, b < 0 → a ≠ b → (TJ10 a).2.1 ≠ (TJ10 b).2.1 := by decide +kernel
theorem tyJ10_ok : ∀ k, k < 0 → parseFieldDescriptor (TJ10 k).2.2.1 = some (tyJ10 k) := by decide +kernel
def RJ3 : String := "jdk/internal/util/Preconditions"
def TJ3 : u_T := fun k => match k with
  | _ => ("", "", "", false)
def tyJ3 : Nat → FieldType := fun k => match k with
  | _ => .int
abbrev wsJ30 : List Cond := u_ws RJ3 TJ3 0
theorem nmJ3 : ∀ a, a < 0 → ∀ b, b < 0 → a ≠ b → (TJ3 a).2.1 ≠ (TJ3 b).2.1 := by decide +kernel
theorem tyJ3_ok : ∀ k, k < 0 → parseFieldDescriptor (TJ3 k).2.2.1 = some (tyJ3 k) := by decide +kernel
abbrev cJ3_checkIndex_8e157 : ByteArray := prog_12_method_11_code
def yJ3_checkIndex_8e157 : MethodName := ⟨RJ3, "checkIndex", "(IILjava/util/function/BiFunction;)I"⟩
def RL : String := "BookRentalLaw"
abbrev cL_cell : ByteArray := method_2_code
def yL_cell : MethodName := ⟨RL, "cell", "([II)I"⟩
abbrev cL_low : ByteArray := method_3_code
def yL_low : MethodName := ⟨RL, "low", "(II)I"⟩
abbrev cL_isSound : ByteArray := method_4_code
def yL_isSound : MethodName := ⟨RL, "isSound", "(LBookRental;)Z"⟩
abbrev cL_isGivingTold : ByteArray := method_5_code
def yL_isGivingTold : MethodName := ⟨RL, "isGivingTold", "(LBookRental;II)Z"⟩
abbrev cL_changes : ByteArray := method_6_code
def yL_changes : MethodName := ⟨RL, "changes", "(LBookRental;I)I"⟩
abbrev cL_law : ByteArray := code
def yL_law : MethodName := ⟨RL, "law", "([I)Z"⟩
abbrev vwCl : List vw_C := [(RX0, TX0, 3), (RX1, TX1, 7), (RX2, TX2, 18), (RX3, TX3, 3)]
