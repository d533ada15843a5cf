-- ===== PART A: goes FIRST, ahead of the names: the tables' words, and 'selects' of the private methods out of them =====
/-- a private method of a class that the tables say can be made, by its rows of tables_1 -/
def lw_okq (q : MethodName × Nat) : Prop := (q.1.cls ≠ "java/lang/invoke/MethodHandle" ∧ q.1.cls ≠ "java/lang/invoke/VarHandle") ∧ Cond.instantiable q.1.cls q.2 ∈ tables_1 ∧ Cond.privateMethod q.1 ∈ tables_1 ∧ Cond.instanceMethod q.1 ∈ tables_1
theorem lw_p0 : lw_okq (⟨"BookRental$Shop", "hasTitle", "(I)Z"⟩, 18) := ⟨⟨by decide +kernel, by decide +kernel⟩, List.mem_of_getElem? (i := 21) (by decide +kernel), List.mem_of_getElem? (i := 190) (by decide +kernel), List.mem_of_getElem? (i := 191) (by decide +kernel)⟩
theorem lw_p1 : lw_okq (⟨"BookRental$Shop", "hasCourse", "(I)Z"⟩, 18) := ⟨⟨by decide +kernel, by decide +kernel⟩, List.mem_of_getElem? (i := 21) (by decide +kernel), List.mem_of_getElem? (i := 218) (by decide +kernel), List.mem_of_getElem? (i := 219) (by decide +kernel)⟩
theorem lw_p2 : lw_okq (⟨"BookRental$Shop", "copiesIn", "(I)I"⟩, 18) := ⟨⟨by decide +kernel, by decide +kernel⟩, List.mem_of_getElem? (i := 21) (by decide +kernel), List.mem_of_getElem? (i := 242) (by decide +kernel), List.mem_of_getElem? (i := 243) (by decide +kernel)⟩
theorem lw_p3 : lw_okq (⟨"BookRental$Shop", "demandOf", "(I)I"⟩, 18) := ⟨⟨by decide +kernel, by decide +kernel⟩, List.mem_of_getElem? (i := 21) (by decide +kernel), List.mem_of_getElem? (i := 254) (by decide +kernel), List.mem_of_getElem? (i := 255) (by decide +kernel)⟩
theorem lw_p4 : lw_okq (⟨"BookRental$Shop", "supplyOf", "(I)I"⟩, 18) := ⟨⟨by decide +kernel, by decide +kernel⟩, List.mem_of_getElem? (i := 21) (by decide +kernel), List.mem_of_getElem? (i := 258) (by decide +kernel), List.mem_of_getElem? (i := 259) (by decide +kernel)⟩
theorem lw_p5 : lw_okq (⟨"BookRental$Shop", "isOfUse", "(II)Z"⟩, 18) := ⟨⟨by decide +kernel, by decide +kernel⟩, List.mem_of_getElem? (i := 21) (by decide +kernel), List.mem_of_getElem? (i := 262) (by decide +kernel), List.mem_of_getElem? (i := 263) (by decide +kernel)⟩
theorem lw_p6 : lw_okq (⟨"BookRental$Shop", "takes", "(III)Z"⟩, 18) := ⟨⟨by decide +kernel, by decide +kernel⟩, List.mem_of_getElem? (i := 21) (by decide +kernel), List.mem_of_getElem? (i := 266) (by decide +kernel), List.mem_of_getElem? (i := 267) (by decide +kernel)⟩
theorem lw_p7 : lw_okq (⟨"BookRental$Shop", "copiesOf", "(I)I"⟩, 18) := ⟨⟨by decide +kernel, by decide +kernel⟩, List.mem_of_getElem? (i := 21) (by decide +kernel), List.mem_of_getElem? (i := 273) (by decide +kernel), List.mem_of_getElem? (i := 274) (by decide +kernel)⟩
theorem lw_p8 : lw_okq (⟨"BookRental$Shop", "copiesOfIn", "(II)I"⟩, 18) := ⟨⟨by decide +kernel, by decide +kernel⟩, List.mem_of_getElem? (i := 21) (by decide +kernel), List.mem_of_getElem? (i := 277) (by decide +kernel), List.mem_of_getElem? (i := 278) (by decide +kernel)⟩
theorem lw_p9 : lw_okq (⟨"BookRental$Shop", "stockFor", "(I)I"⟩, 18) := ⟨⟨by decide +kernel, by decide +kernel⟩, List.mem_of_getElem? (i := 21) (by decide +kernel), List.mem_of_getElem? (i := 289) (by decide +kernel), List.mem_of_getElem? (i := 290) (by decide +kernel)⟩
theorem lw_p10 : lw_okq (⟨"BookRental$Shop", "suits", "(II)Z"⟩, 18) := ⟨⟨by decide +kernel, by decide +kernel⟩, List.mem_of_getElem? (i := 21) (by decide +kernel), List.mem_of_getElem? (i := 293) (by decide +kernel), List.mem_of_getElem? (i := 294) (by decide +kernel)⟩
theorem lw_p11 : lw_okq (⟨"BookRental$Shop", "hasCopy", "(I)Z"⟩, 18) := ⟨⟨by decide +kernel, by decide +kernel⟩, List.mem_of_getElem? (i := 21) (by decide +kernel), List.mem_of_getElem? (i := 305) (by decide +kernel), List.mem_of_getElem? (i := 306) (by decide +kernel)⟩
theorem lw_p12 : lw_okq (⟨"BookRental$Shop", "worthOf", "(I)I"⟩, 18) := ⟨⟨by decide +kernel, by decide +kernel⟩, List.mem_of_getElem? (i := 21) (by decide +kernel), List.mem_of_getElem? (i := 309) (by decide +kernel), List.mem_of_getElem? (i := 310) (by decide +kernel)⟩
theorem lw_p13 : lw_okq (⟨"BookRental$Shop", "worthBy", "(IIII)I"⟩, 18) := ⟨⟨by decide +kernel, by decide +kernel⟩, List.mem_of_getElem? (i := 21) (by decide +kernel), List.mem_of_getElem? (i := 313) (by decide +kernel), List.mem_of_getElem? (i := 314) (by decide +kernel)⟩
theorem lw_p14 : lw_okq (⟨"BookRental$Shop", "rentCost", "(I)I"⟩, 18) := ⟨⟨by decide +kernel, by decide +kernel⟩, List.mem_of_getElem? (i := 21) (by decide +kernel), List.mem_of_getElem? (i := 317) (by decide +kernel), List.mem_of_getElem? (i := 318) (by decide +kernel)⟩
theorem lw_p15 : lw_okq (⟨"BookRental$Shop", "saleCost", "(I)I"⟩, 18) := ⟨⟨by decide +kernel, by decide +kernel⟩, List.mem_of_getElem? (i := 21) (by decide +kernel), List.mem_of_getElem? (i := 321) (by decide +kernel), List.mem_of_getElem? (i := 322) (by decide +kernel)⟩
def lw_privs_1 : List (MethodName × Nat) := [(⟨"BookRental$Shop", "hasTitle", "(I)Z"⟩, 18), (⟨"BookRental$Shop", "hasCourse", "(I)Z"⟩, 18), (⟨"BookRental$Shop", "copiesIn", "(I)I"⟩, 18), (⟨"BookRental$Shop", "demandOf", "(I)I"⟩, 18), (⟨"BookRental$Shop", "supplyOf", "(I)I"⟩, 18), (⟨"BookRental$Shop", "isOfUse", "(II)Z"⟩, 18), (⟨"BookRental$Shop", "takes", "(III)Z"⟩, 18), (⟨"BookRental$Shop", "copiesOf", "(I)I"⟩, 18), (⟨"BookRental$Shop", "copiesOfIn", "(II)I"⟩, 18), (⟨"BookRental$Shop", "stockFor", "(I)I"⟩, 18), (⟨"BookRental$Shop", "suits", "(II)Z"⟩, 18), (⟨"BookRental$Shop", "hasCopy", "(I)Z"⟩, 18), (⟨"BookRental$Shop", "worthOf", "(I)I"⟩, 18), (⟨"BookRental$Shop", "worthBy", "(IIII)I"⟩, 18), (⟨"BookRental$Shop", "rentCost", "(I)I"⟩, 18), (⟨"BookRental$Shop", "saleCost", "(I)I"⟩, 18)]
theorem lw_r1 : ∀ q ∈ lw_privs_1, lw_okq q := List.forall_mem_cons.mpr ⟨lw_p0, List.forall_mem_cons.mpr ⟨lw_p1, List.forall_mem_cons.mpr ⟨lw_p2, List.forall_mem_cons.mpr ⟨lw_p3, List.forall_mem_cons.mpr ⟨lw_p4, List.forall_mem_cons.mpr ⟨lw_p5, List.forall_mem_cons.mpr ⟨lw_p6, List.forall_mem_cons.mpr ⟨lw_p7, List.forall_mem_cons.mpr ⟨lw_p8, List.forall_mem_cons.mpr ⟨lw_p9, List.forall_mem_cons.mpr ⟨lw_p10, List.forall_mem_cons.mpr ⟨lw_p11, List.forall_mem_cons.mpr ⟨lw_p12, List.forall_mem_cons.mpr ⟨lw_p13, List.forall_mem_cons.mpr ⟨lw_p14, List.forall_mem_cons.mpr ⟨lw_p15, fun _ h => absurd h List.not_mem_nil⟩⟩⟩⟩⟩⟩⟩⟩⟩⟩⟩⟩⟩⟩⟩⟩
theorem lw_p16 : lw_okq (⟨"BookRental$Shop", "daysLate", "(I)I"⟩, 18) := ⟨⟨by decide +kernel, by decide +kernel⟩, List.mem_of_getElem? (i := 21) (by decide +kernel), List.mem_of_getElem? (i := 325) (by decide +kernel), List.mem_of_getElem? (i := 326) (by decide +kernel)⟩
theorem lw_p17 : lw_okq (⟨"BookRental$Shop", "putCopy", "(III)V"⟩, 18) := ⟨⟨by decide +kernel, by decide +kernel⟩, List.mem_of_getElem? (i := 21) (by decide +kernel), List.mem_of_getElem? (i := 346) (by decide +kernel), List.mem_of_getElem? (i := 347) (by decide +kernel)⟩
theorem lw_p18 : lw_okq (⟨"BookRental$Shop", "bestFor", "(I)I"⟩, 18) := ⟨⟨by decide +kernel, by decide +kernel⟩, List.mem_of_getElem? (i := 21) (by decide +kernel), List.mem_of_getElem? (i := 389) (by decide +kernel), List.mem_of_getElem? (i := 390) (by decide +kernel)⟩
theorem lw_p19 : lw_okq (⟨"BookRental$Shop", "goesAhead", "(II)Z"⟩, 18) := ⟨⟨by decide +kernel, by decide +kernel⟩, List.mem_of_getElem? (i := 21) (by decide +kernel), List.mem_of_getElem? (i := 393) (by decide +kernel), List.mem_of_getElem? (i := 394) (by decide +kernel)⟩
theorem lw_p20 : lw_okq (⟨"BookRental$Shop", "canRent", "(II)Z"⟩, 18) := ⟨⟨by decide +kernel, by decide +kernel⟩, List.mem_of_getElem? (i := 21) (by decide +kernel), List.mem_of_getElem? (i := 397) (by decide +kernel), List.mem_of_getElem? (i := 398) (by decide +kernel)⟩
theorem lw_p21 : lw_okq (⟨"BookRental$Shop", "isRentedBy", "(II)Z"⟩, 18) := ⟨⟨by decide +kernel, by decide +kernel⟩, List.mem_of_getElem? (i := 21) (by decide +kernel), List.mem_of_getElem? (i := 401) (by decide +kernel), List.mem_of_getElem? (i := 402) (by decide +kernel)⟩
theorem lw_p22 : lw_okq (⟨"BookRental$Shop", "rentedBy", "(I)I"⟩, 18) := ⟨⟨by decide +kernel, by decide +kernel⟩, List.mem_of_getElem? (i := 21) (by decide +kernel), List.mem_of_getElem? (i := 405) (by decide +kernel), List.mem_of_getElem? (i := 406) (by decide +kernel)⟩
theorem lw_p23 : lw_okq (⟨"BookRental$Shop", "lateCharge", "(I)I"⟩, 18) := ⟨⟨by decide +kernel, by decide +kernel⟩, List.mem_of_getElem? (i := 21) (by decide +kernel), List.mem_of_getElem? (i := 425) (by decide +kernel), List.mem_of_getElem? (i := 426) (by decide +kernel)⟩
theorem lw_p24 : lw_okq (⟨"BookRental$Shop", "damageCharge", "(II)I"⟩, 18) := ⟨⟨by decide +kernel, by decide +kernel⟩, List.mem_of_getElem? (i := 21) (by decide +kernel), List.mem_of_getElem? (i := 429) (by decide +kernel), List.mem_of_getElem? (i := 430) (by decide +kernel)⟩
theorem lw_p25 : lw_okq (⟨"BookRental$Shop", "isRuinedBy", "(II)Z"⟩, 18) := ⟨⟨by decide +kernel, by decide +kernel⟩, List.mem_of_getElem? (i := 21) (by decide +kernel), List.mem_of_getElem? (i := 433) (by decide +kernel), List.mem_of_getElem? (i := 434) (by decide +kernel)⟩
theorem lw_p26 : lw_okq (⟨"BookRental$Shop", "worthWithGrade", "(II)I"⟩, 18) := ⟨⟨by decide +kernel, by decide +kernel⟩, List.mem_of_getElem? (i := 21) (by decide +kernel), List.mem_of_getElem? (i := 437) (by decide +kernel), List.mem_of_getElem? (i := 438) (by decide +kernel)⟩
theorem lw_p27 : lw_okq (⟨"BookRental$Shop", "isLostOn", "(II)Z"⟩, 18) := ⟨⟨by decide +kernel, by decide +kernel⟩, List.mem_of_getElem? (i := 21) (by decide +kernel), List.mem_of_getElem? (i := 458) (by decide +kernel), List.mem_of_getElem? (i := 459) (by decide +kernel)⟩
theorem lw_p28 : lw_okq (⟨"BookRental$Shop", "loseSight", "(II)V"⟩, 18) := ⟨⟨by decide +kernel, by decide +kernel⟩, List.mem_of_getElem? (i := 21) (by decide +kernel), List.mem_of_getElem? (i := 470) (by decide +kernel), List.mem_of_getElem? (i := 471) (by decide +kernel)⟩
theorem lw_p29 : lw_okq (⟨"BookRental$Shop", "findAgain", "(II)V"⟩, 18) := ⟨⟨by decide +kernel, by decide +kernel⟩, List.mem_of_getElem? (i := 21) (by decide +kernel), List.mem_of_getElem? (i := 474) (by decide +kernel), List.mem_of_getElem? (i := 475) (by decide +kernel)⟩
theorem lw_p30 : lw_okq (⟨"BookRental$Shop", "lateBy", "(I)I"⟩, 18) := ⟨⟨by decide +kernel, by decide +kernel⟩, List.mem_of_getElem? (i := 21) (by decide +kernel), List.mem_of_getElem? (i := 486) (by decide +kernel), List.mem_of_getElem? (i := 487) (by decide +kernel)⟩
theorem lw_p31 : lw_okq (⟨"BookRental$Shop", "isOwned", "(I)Z"⟩, 18) := ⟨⟨by decide +kernel, by decide +kernel⟩, List.mem_of_getElem? (i := 21) (by decide +kernel), List.mem_of_getElem? (i := 506) (by decide +kernel), List.mem_of_getElem? (i := 507) (by decide +kernel)⟩
def lw_privs_2 : List (MethodName × Nat) := [(⟨"BookRental$Shop", "daysLate", "(I)I"⟩, 18), (⟨"BookRental$Shop", "putCopy", "(III)V"⟩, 18), (⟨"BookRental$Shop", "bestFor", "(I)I"⟩, 18), (⟨"BookRental$Shop", "goesAhead", "(II)Z"⟩, 18), (⟨"BookRental$Shop", "canRent", "(II)Z"⟩, 18), (⟨"BookRental$Shop", "isRentedBy", "(II)Z"⟩, 18), (⟨"BookRental$Shop", "rentedBy", "(I)I"⟩, 18), (⟨"BookRental$Shop", "lateCharge", "(I)I"⟩, 18), (⟨"BookRental$Shop", "damageCharge", "(II)I"⟩, 18), (⟨"BookRental$Shop", "isRuinedBy", "(II)Z"⟩, 18), (⟨"BookRental$Shop", "worthWithGrade", "(II)I"⟩, 18), (⟨"BookRental$Shop", "isLostOn", "(II)Z"⟩, 18), (⟨"BookRental$Shop", "loseSight", "(II)V"⟩, 18), (⟨"BookRental$Shop", "findAgain", "(II)V"⟩, 18), (⟨"BookRental$Shop", "lateBy", "(I)I"⟩, 18), (⟨"BookRental$Shop", "isOwned", "(I)Z"⟩, 18)]
theorem lw_r2 : ∀ q ∈ lw_privs_2, lw_okq q := List.forall_mem_cons.mpr ⟨lw_p16, List.forall_mem_cons.mpr ⟨lw_p17, List.forall_mem_cons.mpr ⟨lw_p18, List.forall_mem_cons.mpr ⟨lw_p19, List.forall_mem_cons.mpr ⟨lw_p20, List.forall_mem_cons.mpr ⟨lw_p21, List.forall_mem_cons.mpr ⟨lw_p22, List.forall_mem_cons.mpr ⟨lw_p23, List.forall_mem_cons.mpr ⟨lw_p24, List.forall_mem_cons.mpr ⟨lw_p25, List.forall_mem_cons.mpr ⟨lw_p26, List.forall_mem_cons.mpr ⟨lw_p27, List.forall_mem_cons.mpr ⟨lw_p28, List.forall_mem_cons.mpr ⟨lw_p29, List.forall_mem_cons.mpr ⟨lw_p30, List.forall_mem_cons.mpr ⟨lw_p31, fun _ h => absurd h List.not_mem_nil⟩⟩⟩⟩⟩⟩⟩⟩⟩⟩⟩⟩⟩⟩⟩⟩
theorem lw_p32 : lw_okq (⟨"BookRental$Shop", "servedWith", "(I)I"⟩, 18) := ⟨⟨by decide +kernel, by decide +kernel⟩, List.mem_of_getElem? (i := 21) (by decide +kernel), List.mem_of_getElem? (i := 518) (by decide +kernel), List.mem_of_getElem? (i := 519) (by decide +kernel)⟩
theorem lw_p33 : lw_okq (⟨"BookRental$Shop", "stockOfEdition", "(II)I"⟩, 18) := ⟨⟨by decide +kernel, by decide +kernel⟩, List.mem_of_getElem? (i := 21) (by decide +kernel), List.mem_of_getElem? (i := 522) (by decide +kernel), List.mem_of_getElem? (i := 523) (by decide +kernel)⟩
theorem lw_p34 : lw_okq (⟨"BookRental$Shop", "studentsFrom", "(II)I"⟩, 18) := ⟨⟨by decide +kernel, by decide +kernel⟩, List.mem_of_getElem? (i := 21) (by decide +kernel), List.mem_of_getElem? (i := 526) (by decide +kernel), List.mem_of_getElem? (i := 527) (by decide +kernel)⟩
theorem lw_p35 : lw_okq (⟨"BookRental$OrderText", "skipBlanks", "()V"⟩, 7) := ⟨⟨by decide +kernel, by decide +kernel⟩, List.mem_of_getElem? (i := 105) (by decide +kernel), List.mem_of_getElem? (i := 570) (by decide +kernel), List.mem_of_getElem? (i := 571) (by decide +kernel)⟩
theorem lw_p36 : lw_okq (⟨"BookRental$OrderText", "readWord", "()I"⟩, 7) := ⟨⟨by decide +kernel, by decide +kernel⟩, List.mem_of_getElem? (i := 105) (by decide +kernel), List.mem_of_getElem? (i := 574) (by decide +kernel), List.mem_of_getElem? (i := 575) (by decide +kernel)⟩
theorem lw_p37 : lw_okq (⟨"BookRental$OrderText", "stands", "(Ljava/lang/String;I)Z"⟩, 7) := ⟨⟨by decide +kernel, by decide +kernel⟩, List.mem_of_getElem? (i := 105) (by decide +kernel), List.mem_of_getElem? (i := 579) (by decide +kernel), List.mem_of_getElem? (i := 580) (by decide +kernel)⟩
theorem lw_p38 : lw_okq (⟨"BookRental$OrderText", "readNumber", "()I"⟩, 7) := ⟨⟨by decide +kernel, by decide +kernel⟩, List.mem_of_getElem? (i := 105) (by decide +kernel), List.mem_of_getElem? (i := 635) (by decide +kernel), List.mem_of_getElem? (i := 636) (by decide +kernel)⟩
theorem lw_p39 : lw_okq (⟨"BookRental$OrderText", "here", "()I"⟩, 7) := ⟨⟨by decide +kernel, by decide +kernel⟩, List.mem_of_getElem? (i := 105) (by decide +kernel), List.mem_of_getElem? (i := 642) (by decide +kernel), List.mem_of_getElem? (i := 643) (by decide +kernel)⟩
theorem lw_p40 : lw_okq (⟨"BookRental$OrderText", "readEndOfOrder", "()I"⟩, 7) := ⟨⟨by decide +kernel, by decide +kernel⟩, List.mem_of_getElem? (i := 105) (by decide +kernel), List.mem_of_getElem? (i := 646) (by decide +kernel), List.mem_of_getElem? (i := 647) (by decide +kernel)⟩
theorem lw_p41 : lw_okq (⟨"BookRental", "carryOut", "()I"⟩, 3) := ⟨⟨by decide +kernel, by decide +kernel⟩, List.mem_of_getElem? (i := 13) (by decide +kernel), List.mem_of_getElem? (i := 661) (by decide +kernel), List.mem_of_getElem? (i := 662) (by decide +kernel)⟩
theorem lw_p42 : lw_okq (⟨"BookRentalModel", "saves", "()V"⟩, 11) := ⟨⟨by decide +kernel, by decide +kernel⟩, List.mem_of_getElem? (i := 683) (by decide +kernel), List.mem_of_getElem? (i := 730) (by decide +kernel), List.mem_of_getElem? (i := 731) (by decide +kernel)⟩
theorem lw_p43 : lw_okq (⟨"BookRentalModel", "copies", "(II)V"⟩, 11) := ⟨⟨by decide +kernel, by decide +kernel⟩, List.mem_of_getElem? (i := 683) (by decide +kernel), List.mem_of_getElem? (i := 734) (by decide +kernel), List.mem_of_getElem? (i := 735) (by decide +kernel)⟩
theorem lw_p44 : lw_okq (⟨"BookRentalModel", "isTitle", "(I)Z"⟩, 11) := ⟨⟨by decide +kernel, by decide +kernel⟩, List.mem_of_getElem? (i := 683) (by decide +kernel), List.mem_of_getElem? (i := 742) (by decide +kernel), List.mem_of_getElem? (i := 743) (by decide +kernel)⟩
theorem lw_p45 : lw_okq (⟨"BookRentalModel", "price", "(I)I"⟩, 11) := ⟨⟨by decide +kernel, by decide +kernel⟩, List.mem_of_getElem? (i := 683) (by decide +kernel), List.mem_of_getElem? (i := 746) (by decide +kernel), List.mem_of_getElem? (i := 747) (by decide +kernel)⟩
theorem lw_p46 : lw_okq (⟨"BookRentalModel", "current", "(I)I"⟩, 11) := ⟨⟨by decide +kernel, by decide +kernel⟩, List.mem_of_getElem? (i := 683) (by decide +kernel), List.mem_of_getElem? (i := 754) (by decide +kernel), List.mem_of_getElem? (i := 755) (by decide +kernel)⟩
theorem lw_p47 : lw_okq (⟨"BookRentalModel", "isCourse", "(I)Z"⟩, 11) := ⟨⟨by decide +kernel, by decide +kernel⟩, List.mem_of_getElem? (i := 683) (by decide +kernel), List.mem_of_getElem? (i := 769) (by decide +kernel), List.mem_of_getElem? (i := 770) (by decide +kernel)⟩
def lw_privs_3 : List (MethodName × Nat) := [(⟨"BookRental$Shop", "servedWith", "(I)I"⟩, 18), (⟨"BookRental$Shop", "stockOfEdition", "(II)I"⟩, 18), (⟨"BookRental$Shop", "studentsFrom", "(II)I"⟩, 18), (⟨"BookRental$OrderText", "skipBlanks", "()V"⟩, 7), (⟨"BookRental$OrderText", "readWord", "()I"⟩, 7), (⟨"BookRental$OrderText", "stands", "(Ljava/lang/String;I)Z"⟩, 7), (⟨"BookRental$OrderText", "readNumber", "()I"⟩, 7), (⟨"BookRental$OrderText", "here", "()I"⟩, 7), (⟨"BookRental$OrderText", "readEndOfOrder", "()I"⟩, 7), (⟨"BookRental", "carryOut", "()I"⟩, 3), (⟨"BookRentalModel", "saves", "()V"⟩, 11), (⟨"BookRentalModel", "copies", "(II)V"⟩, 11), (⟨"BookRentalModel", "isTitle", "(I)Z"⟩, 11), (⟨"BookRentalModel", "price", "(I)I"⟩, 11), (⟨"BookRentalModel", "current", "(I)I"⟩, 11), (⟨"BookRentalModel", "isCourse", "(I)Z"⟩, 11)]
theorem lw_r3 : ∀ q ∈ lw_privs_3, lw_okq q := List.forall_mem_cons.mpr ⟨lw_p32, List.forall_mem_cons.mpr ⟨lw_p33, List.forall_mem_cons.mpr ⟨lw_p34, List.forall_mem_cons.mpr ⟨lw_p35, List.forall_mem_cons.mpr ⟨lw_p36, List.forall_mem_cons.mpr ⟨lw_p37, List.forall_mem_cons.mpr ⟨lw_p38, List.forall_mem_cons.mpr ⟨lw_p39, List.forall_mem_cons.mpr ⟨lw_p40, List.forall_mem_cons.mpr ⟨lw_p41, List.forall_mem_cons.mpr ⟨lw_p42, List.forall_mem_cons.mpr ⟨lw_p43, List.forall_mem_cons.mpr ⟨lw_p44, List.forall_mem_cons.mpr ⟨lw_p45, List.forall_mem_cons.mpr ⟨lw_p46, List.forall_mem_cons.mpr ⟨lw_p47, fun _ h => absurd h List.not_mem_nil⟩⟩⟩⟩⟩⟩⟩⟩⟩⟩⟩⟩⟩⟩⟩⟩
theorem lw_p48 : lw_okq (⟨"BookRentalModel", "ofCourse", "(II)I"⟩, 11) := ⟨⟨by decide +kernel, by decide +kernel⟩, List.mem_of_getElem? (i := 683) (by decide +kernel), List.mem_of_getElem? (i := 773) (by decide +kernel), List.mem_of_getElem? (i := 774) (by decide +kernel)⟩
theorem lw_p49 : lw_okq (⟨"BookRentalModel", "number", "(I)I"⟩, 11) := ⟨⟨by decide +kernel, by decide +kernel⟩, List.mem_of_getElem? (i := 683) (by decide +kernel), List.mem_of_getElem? (i := 785) (by decide +kernel), List.mem_of_getElem? (i := 786) (by decide +kernel)⟩
theorem lw_p50 : lw_okq (⟨"BookRentalModel", "inState", "(I)I"⟩, 11) := ⟨⟨by decide +kernel, by decide +kernel⟩, List.mem_of_getElem? (i := 683) (by decide +kernel), List.mem_of_getElem? (i := 789) (by decide +kernel), List.mem_of_getElem? (i := 790) (by decide +kernel)⟩
theorem lw_p51 : lw_okq (⟨"BookRentalModel", "is", "(II)Z"⟩, 11) := ⟨⟨by decide +kernel, by decide +kernel⟩, List.mem_of_getElem? (i := 683) (by decide +kernel), List.mem_of_getElem? (i := 793) (by decide +kernel), List.mem_of_getElem? (i := 794) (by decide +kernel)⟩
theorem lw_p52 : lw_okq (⟨"BookRentalModel", "of", "(II)I"⟩, 11) := ⟨⟨by decide +kernel, by decide +kernel⟩, List.mem_of_getElem? (i := 683) (by decide +kernel), List.mem_of_getElem? (i := 797) (by decide +kernel), List.mem_of_getElem? (i := 798) (by decide +kernel)⟩
theorem lw_p53 : lw_okq (⟨"BookRentalModel", "titleNow", "(II)I"⟩, 11) := ⟨⟨by decide +kernel, by decide +kernel⟩, List.mem_of_getElem? (i := 683) (by decide +kernel), List.mem_of_getElem? (i := 805) (by decide +kernel), List.mem_of_getElem? (i := 806) (by decide +kernel)⟩
theorem lw_p54 : lw_okq (⟨"BookRentalModel", "demand", "(I)I"⟩, 11) := ⟨⟨by decide +kernel, by decide +kernel⟩, List.mem_of_getElem? (i := 683) (by decide +kernel), List.mem_of_getElem? (i := 809) (by decide +kernel), List.mem_of_getElem? (i := 810) (by decide +kernel)⟩
theorem lw_p55 : lw_okq (⟨"BookRentalModel", "supply", "(I)I"⟩, 11) := ⟨⟨by decide +kernel, by decide +kernel⟩, List.mem_of_getElem? (i := 683) (by decide +kernel), List.mem_of_getElem? (i := 813) (by decide +kernel), List.mem_of_getElem? (i := 814) (by decide +kernel)⟩
theorem lw_p56 : lw_okq (⟨"BookRentalModel", "isOfUse", "(II)Z"⟩, 11) := ⟨⟨by decide +kernel, by decide +kernel⟩, List.mem_of_getElem? (i := 683) (by decide +kernel), List.mem_of_getElem? (i := 817) (by decide +kernel), List.mem_of_getElem? (i := 818) (by decide +kernel)⟩
theorem lw_p57 : lw_okq (⟨"BookRentalModel", "ofTitle", "(II)I"⟩, 11) := ⟨⟨by decide +kernel, by decide +kernel⟩, List.mem_of_getElem? (i := 683) (by decide +kernel), List.mem_of_getElem? (i := 821) (by decide +kernel), List.mem_of_getElem? (i := 822) (by decide +kernel)⟩
theorem lw_p58 : lw_okq (⟨"BookRentalModel", "courseNow", "(II)I"⟩, 11) := ⟨⟨by decide +kernel, by decide +kernel⟩, List.mem_of_getElem? (i := 683) (by decide +kernel), List.mem_of_getElem? (i := 829) (by decide +kernel), List.mem_of_getElem? (i := 830) (by decide +kernel)⟩
theorem lw_p59 : lw_okq (⟨"BookRentalModel", "takes", "(II)Z"⟩, 11) := ⟨⟨by decide +kernel, by decide +kernel⟩, List.mem_of_getElem? (i := 683) (by decide +kernel), List.mem_of_getElem? (i := 833) (by decide +kernel), List.mem_of_getElem? (i := 834) (by decide +kernel)⟩
theorem lw_p60 : lw_okq (⟨"BookRentalModel", "isCopy", "(I)Z"⟩, 11) := ⟨⟨by decide +kernel, by decide +kernel⟩, List.mem_of_getElem? (i := 683) (by decide +kernel), List.mem_of_getElem? (i := 841) (by decide +kernel), List.mem_of_getElem? (i := 842) (by decide +kernel)⟩
theorem lw_p61 : lw_okq (⟨"BookRentalModel", "copyNow", "(II)I"⟩, 11) := ⟨⟨by decide +kernel, by decide +kernel⟩, List.mem_of_getElem? (i := 683) (by decide +kernel), List.mem_of_getElem? (i := 845) (by decide +kernel), List.mem_of_getElem? (i := 846) (by decide +kernel)⟩
theorem lw_p62 : lw_okq (⟨"BookRentalModel", "worthOf", "(I)I"⟩, 11) := ⟨⟨by decide +kernel, by decide +kernel⟩, List.mem_of_getElem? (i := 683) (by decide +kernel), List.mem_of_getElem? (i := 849) (by decide +kernel), List.mem_of_getElem? (i := 850) (by decide +kernel)⟩
theorem lw_p63 : lw_okq (⟨"BookRentalModel", "worth", "(III)I"⟩, 11) := ⟨⟨by decide +kernel, by decide +kernel⟩, List.mem_of_getElem? (i := 683) (by decide +kernel), List.mem_of_getElem? (i := 853) (by decide +kernel), List.mem_of_getElem? (i := 854) (by decide +kernel)⟩
def lw_privs_4 : List (MethodName × Nat) := [(⟨"BookRentalModel", "ofCourse", "(II)I"⟩, 11), (⟨"BookRentalModel", "number", "(I)I"⟩, 11), (⟨"BookRentalModel", "inState", "(I)I"⟩, 11), (⟨"BookRentalModel", "is", "(II)Z"⟩, 11), (⟨"BookRentalModel", "of", "(II)I"⟩, 11), (⟨"BookRentalModel", "titleNow", "(II)I"⟩, 11), (⟨"BookRentalModel", "demand", "(I)I"⟩, 11), (⟨"BookRentalModel", "supply", "(I)I"⟩, 11), (⟨"BookRentalModel", "isOfUse", "(II)Z"⟩, 11), (⟨"BookRentalModel", "ofTitle", "(II)I"⟩, 11), (⟨"BookRentalModel", "courseNow", "(II)I"⟩, 11), (⟨"BookRentalModel", "takes", "(II)Z"⟩, 11), (⟨"BookRentalModel", "isCopy", "(I)Z"⟩, 11), (⟨"BookRentalModel", "copyNow", "(II)I"⟩, 11), (⟨"BookRentalModel", "worthOf", "(I)I"⟩, 11), (⟨"BookRentalModel", "worth", "(III)I"⟩, 11)]
theorem lw_r4 : ∀ q ∈ lw_privs_4, lw_okq q := List.forall_mem_cons.mpr ⟨lw_p48, List.forall_mem_cons.mpr ⟨lw_p49, List.forall_mem_cons.mpr ⟨lw_p50, List.forall_mem_cons.mpr ⟨lw_p51, List.forall_mem_cons.mpr ⟨lw_p52, List.forall_mem_cons.mpr ⟨lw_p53, List.forall_mem_cons.mpr ⟨lw_p54, List.forall_mem_cons.mpr ⟨lw_p55, List.forall_mem_cons.mpr ⟨lw_p56, List.forall_mem_cons.mpr ⟨lw_p57, List.forall_mem_cons.mpr ⟨lw_p58, List.forall_mem_cons.mpr ⟨lw_p59, List.forall_mem_cons.mpr ⟨lw_p60, List.forall_mem_cons.mpr ⟨lw_p61, List.forall_mem_cons.mpr ⟨lw_p62, List.forall_mem_cons.mpr ⟨lw_p63, fun _ h => absurd h List.not_mem_nil⟩⟩⟩⟩⟩⟩⟩⟩⟩⟩⟩⟩⟩⟩⟩⟩
theorem lw_p64 : lw_okq (⟨"BookRentalModel", "late", "(I)I"⟩, 11) := ⟨⟨by decide +kernel, by decide +kernel⟩, List.mem_of_getElem? (i := 683) (by decide +kernel), List.mem_of_getElem? (i := 860) (by decide +kernel), List.mem_of_getElem? (i := 861) (by decide +kernel)⟩
theorem lw_p65 : lw_okq (⟨"BookRentalModel", "sum", "(I)I"⟩, 11) := ⟨⟨by decide +kernel, by decide +kernel⟩, List.mem_of_getElem? (i := 683) (by decide +kernel), List.mem_of_getElem? (i := 868) (by decide +kernel), List.mem_of_getElem? (i := 869) (by decide +kernel)⟩
theorem lw_p66 : lw_okq (⟨"BookRentalModel", "cannotBuy", "(II)I"⟩, 11) := ⟨⟨by decide +kernel, by decide +kernel⟩, List.mem_of_getElem? (i := 683) (by decide +kernel), List.mem_of_getElem? (i := 877) (by decide +kernel), List.mem_of_getElem? (i := 878) (by decide +kernel)⟩
theorem lw_p67 : lw_okq (⟨"BookRentalModel", "buys", "(II)I"⟩, 11) := ⟨⟨by decide +kernel, by decide +kernel⟩, List.mem_of_getElem? (i := 683) (by decide +kernel), List.mem_of_getElem? (i := 881) (by decide +kernel), List.mem_of_getElem? (i := 882) (by decide +kernel)⟩
theorem lw_p68 : lw_okq (⟨"BookRentalModel", "comes", "(III)V"⟩, 11) := ⟨⟨by decide +kernel, by decide +kernel⟩, List.mem_of_getElem? (i := 683) (by decide +kernel), List.mem_of_getElem? (i := 885) (by decide +kernel), List.mem_of_getElem? (i := 886) (by decide +kernel)⟩
theorem lw_p69 : lw_okq (⟨"BookRentalModel", "sets", "(III)V"⟩, 11) := ⟨⟨by decide +kernel, by decide +kernel⟩, List.mem_of_getElem? (i := 683) (by decide +kernel), List.mem_of_getElem? (i := 889) (by decide +kernel), List.mem_of_getElem? (i := 890) (by decide +kernel)⟩
theorem lw_p70 : lw_okq (⟨"BookRentalModel", "cannotOffer", "(III)I"⟩, 11) := ⟨⟨by decide +kernel, by decide +kernel⟩, List.mem_of_getElem? (i := 683) (by decide +kernel), List.mem_of_getElem? (i := 897) (by decide +kernel), List.mem_of_getElem? (i := 898) (by decide +kernel)⟩
theorem lw_p71 : lw_okq (⟨"BookRentalModel", "offered", "(III)I"⟩, 11) := ⟨⟨by decide +kernel, by decide +kernel⟩, List.mem_of_getElem? (i := 683) (by decide +kernel), List.mem_of_getElem? (i := 901) (by decide +kernel), List.mem_of_getElem? (i := 902) (by decide +kernel)⟩
theorem lw_p72 : lw_okq (⟨"BookRentalModel", "cannotSell", "(I)I"⟩, 11) := ⟨⟨by decide +kernel, by decide +kernel⟩, List.mem_of_getElem? (i := 683) (by decide +kernel), List.mem_of_getElem? (i := 913) (by decide +kernel), List.mem_of_getElem? (i := 914) (by decide +kernel)⟩
theorem lw_p73 : lw_okq (⟨"BookRentalModel", "sells", "(I)I"⟩, 11) := ⟨⟨by decide +kernel, by decide +kernel⟩, List.mem_of_getElem? (i := 683) (by decide +kernel), List.mem_of_getElem? (i := 917) (by decide +kernel), List.mem_of_getElem? (i := 918) (by decide +kernel)⟩
theorem lw_p74 : lw_okq (⟨"BookRentalModel", "goes", "(II)V"⟩, 11) := ⟨⟨by decide +kernel, by decide +kernel⟩, List.mem_of_getElem? (i := 683) (by decide +kernel), List.mem_of_getElem? (i := 921) (by decide +kernel), List.mem_of_getElem? (i := 922) (by decide +kernel)⟩
theorem lw_p75 : lw_okq (⟨"BookRentalModel", "cannotRent", "(II)I"⟩, 11) := ⟨⟨by decide +kernel, by decide +kernel⟩, List.mem_of_getElem? (i := 683) (by decide +kernel), List.mem_of_getElem? (i := 929) (by decide +kernel), List.mem_of_getElem? (i := 930) (by decide +kernel)⟩
theorem lw_p76 : lw_okq (⟨"BookRentalModel", "canRent", "(II)Z"⟩, 11) := ⟨⟨by decide +kernel, by decide +kernel⟩, List.mem_of_getElem? (i := 683) (by decide +kernel), List.mem_of_getElem? (i := 936) (by decide +kernel), List.mem_of_getElem? (i := 937) (by decide +kernel)⟩
theorem lw_p77 : lw_okq (⟨"BookRentalModel", "nextOf", "(I)I"⟩, 11) := ⟨⟨by decide +kernel, by decide +kernel⟩, List.mem_of_getElem? (i := 683) (by decide +kernel), List.mem_of_getElem? (i := 940) (by decide +kernel), List.mem_of_getElem? (i := 941) (by decide +kernel)⟩
theorem lw_p78 : lw_okq (⟨"BookRentalModel", "rents", "(II)I"⟩, 11) := ⟨⟨by decide +kernel, by decide +kernel⟩, List.mem_of_getElem? (i := 683) (by decide +kernel), List.mem_of_getElem? (i := 944) (by decide +kernel), List.mem_of_getElem? (i := 945) (by decide +kernel)⟩
theorem lw_p79 : lw_okq (⟨"BookRentalModel", "charges", "(III)V"⟩, 11) := ⟨⟨by decide +kernel, by decide +kernel⟩, List.mem_of_getElem? (i := 683) (by decide +kernel), List.mem_of_getElem? (i := 948) (by decide +kernel), List.mem_of_getElem? (i := 949) (by decide +kernel)⟩
def lw_privs_5 : List (MethodName × Nat) := [(⟨"BookRentalModel", "late", "(I)I"⟩, 11), (⟨"BookRentalModel", "sum", "(I)I"⟩, 11), (⟨"BookRentalModel", "cannotBuy", "(II)I"⟩, 11), (⟨"BookRentalModel", "buys", "(II)I"⟩, 11), (⟨"BookRentalModel", "comes", "(III)V"⟩, 11), (⟨"BookRentalModel", "sets", "(III)V"⟩, 11), (⟨"BookRentalModel", "cannotOffer", "(III)I"⟩, 11), (⟨"BookRentalModel", "offered", "(III)I"⟩, 11), (⟨"BookRentalModel", "cannotSell", "(I)I"⟩, 11), (⟨"BookRentalModel", "sells", "(I)I"⟩, 11), (⟨"BookRentalModel", "goes", "(II)V"⟩, 11), (⟨"BookRentalModel", "cannotRent", "(II)I"⟩, 11), (⟨"BookRentalModel", "canRent", "(II)Z"⟩, 11), (⟨"BookRentalModel", "nextOf", "(I)I"⟩, 11), (⟨"BookRentalModel", "rents", "(II)I"⟩, 11), (⟨"BookRentalModel", "charges", "(III)V"⟩, 11)]
theorem lw_r5 : ∀ q ∈ lw_privs_5, lw_okq q := List.forall_mem_cons.mpr ⟨lw_p64, List.forall_mem_cons.mpr ⟨lw_p65, List.forall_mem_cons.mpr ⟨lw_p66, List.forall_mem_cons.mpr ⟨lw_p67, List.forall_mem_cons.mpr ⟨lw_p68, List.forall_mem_cons.mpr ⟨lw_p69, List.forall_mem_cons.mpr ⟨lw_p70, List.forall_mem_cons.mpr ⟨lw_p71, List.forall_mem_cons.mpr ⟨lw_p72, List.forall_mem_cons.mpr ⟨lw_p73, List.forall_mem_cons.mpr ⟨lw_p74, List.forall_mem_cons.mpr ⟨lw_p75, List.forall_mem_cons.mpr ⟨lw_p76, List.forall_mem_cons.mpr ⟨lw_p77, List.forall_mem_cons.mpr ⟨lw_p78, List.forall_mem_cons.mpr ⟨lw_p79, fun _ h => absurd h List.not_mem_nil⟩⟩⟩⟩⟩⟩⟩⟩⟩⟩⟩⟩⟩⟩⟩⟩
theorem lw_p80 : lw_okq (⟨"BookRentalModel", "cannotGive", "(II)I"⟩, 11) := ⟨⟨by decide +kernel, by decide +kernel⟩, List.mem_of_getElem? (i := 683) (by decide +kernel), List.mem_of_getElem? (i := 960) (by decide +kernel), List.mem_of_getElem? (i := 961) (by decide +kernel)⟩
theorem lw_p81 : lw_okq (⟨"BookRentalModel", "gives", "(II)I"⟩, 11) := ⟨⟨by decide +kernel, by decide +kernel⟩, List.mem_of_getElem? (i := 683) (by decide +kernel), List.mem_of_getElem? (i := 964) (by decide +kernel), List.mem_of_getElem? (i := 965) (by decide +kernel)⟩
theorem lw_p82 : lw_okq (⟨"BookRentalModel", "lateCharge", "(I)I"⟩, 11) := ⟨⟨by decide +kernel, by decide +kernel⟩, List.mem_of_getElem? (i := 683) (by decide +kernel), List.mem_of_getElem? (i := 968) (by decide +kernel), List.mem_of_getElem? (i := 969) (by decide +kernel)⟩
theorem lw_p83 : lw_okq (⟨"BookRentalModel", "damageCharge", "(II)I"⟩, 11) := ⟨⟨by decide +kernel, by decide +kernel⟩, List.mem_of_getElem? (i := 683) (by decide +kernel), List.mem_of_getElem? (i := 972) (by decide +kernel), List.mem_of_getElem? (i := 973) (by decide +kernel)⟩
theorem lw_p84 : lw_okq (⟨"BookRentalModel", "cannotPass", "(I)I"⟩, 11) := ⟨⟨by decide +kernel, by decide +kernel⟩, List.mem_of_getElem? (i := 683) (by decide +kernel), List.mem_of_getElem? (i := 984) (by decide +kernel), List.mem_of_getElem? (i := 985) (by decide +kernel)⟩
theorem lw_p85 : lw_okq (⟨"BookRentalModel", "passes", "(I)I"⟩, 11) := ⟨⟨by decide +kernel, by decide +kernel⟩, List.mem_of_getElem? (i := 683) (by decide +kernel), List.mem_of_getElem? (i := 989) (by decide +kernel), List.mem_of_getElem? (i := 990) (by decide +kernel)⟩
theorem lw_p86 : lw_okq (⟨"BookRentalModel", "customerNow", "(II)I"⟩, 11) := ⟨⟨by decide +kernel, by decide +kernel⟩, List.mem_of_getElem? (i := 683) (by decide +kernel), List.mem_of_getElem? (i := 1001) (by decide +kernel), List.mem_of_getElem? (i := 1002) (by decide +kernel)⟩
theorem lw_p87 : lw_okq (⟨"BookRentalModel", "owned", "(I)I"⟩, 11) := ⟨⟨by decide +kernel, by decide +kernel⟩, List.mem_of_getElem? (i := 683) (by decide +kernel), List.mem_of_getElem? (i := 1013) (by decide +kernel), List.mem_of_getElem? (i := 1014) (by decide +kernel)⟩
theorem lw_p88 : lw_okq (⟨"BookRentalModel", "servedOf", "(I)I"⟩, 11) := ⟨⟨by decide +kernel, by decide +kernel⟩, List.mem_of_getElem? (i := 683) (by decide +kernel), List.mem_of_getElem? (i := 1021) (by decide +kernel), List.mem_of_getElem? (i := 1022) (by decide +kernel)⟩
theorem lw_p89 : lw_okq (⟨"BookRentalModel", "stockFrom", "(II)I"⟩, 11) := ⟨⟨by decide +kernel, by decide +kernel⟩, List.mem_of_getElem? (i := 683) (by decide +kernel), List.mem_of_getElem? (i := 1025) (by decide +kernel), List.mem_of_getElem? (i := 1026) (by decide +kernel)⟩
theorem lw_p90 : lw_okq (⟨"BookRentalModel", "readsText", "(Z)Z"⟩, 11) := ⟨⟨by decide +kernel, by decide +kernel⟩, List.mem_of_getElem? (i := 683) (by decide +kernel), List.mem_of_getElem? (i := 1045) (by decide +kernel), List.mem_of_getElem? (i := 1046) (by decide +kernel)⟩
theorem lw_p91 : lw_okq (⟨"BookRentalModel", "readsOrder", "(Z)Z"⟩, 11) := ⟨⟨by decide +kernel, by decide +kernel⟩, List.mem_of_getElem? (i := 683) (by decide +kernel), List.mem_of_getElem? (i := 1049) (by decide +kernel), List.mem_of_getElem? (i := 1050) (by decide +kernel)⟩
theorem lw_p92 : lw_okq (⟨"BookRentalModel", "order", "()I"⟩, 11) := ⟨⟨by decide +kernel, by decide +kernel⟩, List.mem_of_getElem? (i := 683) (by decide +kernel), List.mem_of_getElem? (i := 1053) (by decide +kernel), List.mem_of_getElem? (i := 1054) (by decide +kernel)⟩
theorem lw_p93 : lw_okq (⟨"BookRentalModel", "word", "()I"⟩, 11) := ⟨⟨by decide +kernel, by decide +kernel⟩, List.mem_of_getElem? (i := 683) (by decide +kernel), List.mem_of_getElem? (i := 1057) (by decide +kernel), List.mem_of_getElem? (i := 1058) (by decide +kernel)⟩
theorem lw_p94 : lw_okq (⟨"BookRentalModel", "here", "()I"⟩, 11) := ⟨⟨by decide +kernel, by decide +kernel⟩, List.mem_of_getElem? (i := 683) (by decide +kernel), List.mem_of_getElem? (i := 1061) (by decide +kernel), List.mem_of_getElem? (i := 1062) (by decide +kernel)⟩
theorem lw_p95 : lw_okq (⟨"BookRentalModel", "reads", "()Z"⟩, 11) := ⟨⟨by decide +kernel, by decide +kernel⟩, List.mem_of_getElem? (i := 683) (by decide +kernel), List.mem_of_getElem? (i := 1068) (by decide +kernel), List.mem_of_getElem? (i := 1069) (by decide +kernel)⟩
def lw_privs_6 : List (MethodName × Nat) := [(⟨"BookRentalModel", "cannotGive", "(II)I"⟩, 11), (⟨"BookRentalModel", "gives", "(II)I"⟩, 11), (⟨"BookRentalModel", "lateCharge", "(I)I"⟩, 11), (⟨"BookRentalModel", "damageCharge", "(II)I"⟩, 11), (⟨"BookRentalModel", "cannotPass", "(I)I"⟩, 11), (⟨"BookRentalModel", "passes", "(I)I"⟩, 11), (⟨"BookRentalModel", "customerNow", "(II)I"⟩, 11), (⟨"BookRentalModel", "owned", "(I)I"⟩, 11), (⟨"BookRentalModel", "servedOf", "(I)I"⟩, 11), (⟨"BookRentalModel", "stockFrom", "(II)I"⟩, 11), (⟨"BookRentalModel", "readsText", "(Z)Z"⟩, 11), (⟨"BookRentalModel", "readsOrder", "(Z)Z"⟩, 11), (⟨"BookRentalModel", "order", "()I"⟩, 11), (⟨"BookRentalModel", "word", "()I"⟩, 11), (⟨"BookRentalModel", "here", "()I"⟩, 11), (⟨"BookRentalModel", "reads", "()Z"⟩, 11)]
theorem lw_r6 : ∀ q ∈ lw_privs_6, lw_okq q := List.forall_mem_cons.mpr ⟨lw_p80, List.forall_mem_cons.mpr ⟨lw_p81, List.forall_mem_cons.mpr ⟨lw_p82, List.forall_mem_cons.mpr ⟨lw_p83, List.forall_mem_cons.mpr ⟨lw_p84, List.forall_mem_cons.mpr ⟨lw_p85, List.forall_mem_cons.mpr ⟨lw_p86, List.forall_mem_cons.mpr ⟨lw_p87, List.forall_mem_cons.mpr ⟨lw_p88, List.forall_mem_cons.mpr ⟨lw_p89, List.forall_mem_cons.mpr ⟨lw_p90, List.forall_mem_cons.mpr ⟨lw_p91, List.forall_mem_cons.mpr ⟨lw_p92, List.forall_mem_cons.mpr ⟨lw_p93, List.forall_mem_cons.mpr ⟨lw_p94, List.forall_mem_cons.mpr ⟨lw_p95, fun _ h => absurd h List.not_mem_nil⟩⟩⟩⟩⟩⟩⟩⟩⟩⟩⟩⟩⟩⟩⟩⟩
theorem lw_p96 : lw_okq (⟨"BookRentalModel", "carries", "(III)I"⟩, 11) := ⟨⟨by decide +kernel, by decide +kernel⟩, List.mem_of_getElem? (i := 683) (by decide +kernel), List.mem_of_getElem? (i := 1072) (by decide +kernel), List.mem_of_getElem? (i := 1073) (by decide +kernel)⟩
theorem lw_p97 : lw_okq (⟨"BookRentalModel", "note", "(I)V"⟩, 11) := ⟨⟨by decide +kernel, by decide +kernel⟩, List.mem_of_getElem? (i := 683) (by decide +kernel), List.mem_of_getElem? (i := 1085) (by decide +kernel), List.mem_of_getElem? (i := 1086) (by decide +kernel)⟩
def lw_privs_7 : List (MethodName × Nat) := [(⟨"BookRentalModel", "carries", "(III)I"⟩, 11), (⟨"BookRentalModel", "note", "(I)V"⟩, 11)]
theorem lw_r7 : ∀ q ∈ lw_privs_7, lw_okq q := List.forall_mem_cons.mpr ⟨lw_p96, List.forall_mem_cons.mpr ⟨lw_p97, fun _ h => absurd h List.not_mem_nil⟩⟩
def lw_privs : List (MethodName × Nat) := lw_privs_1 ++ (lw_privs_2 ++ (lw_privs_3 ++ (lw_privs_4 ++ (lw_privs_5 ++ (lw_privs_6 ++ (lw_privs_7))))))
def lw_tbl : List Cond := k2_sels lw_privs ++ tables_1
theorem lw_privs_ok : ∀ q ∈ lw_privs, lw_okq q := by
  show ∀ q ∈ lw_privs_1 ++ (lw_privs_2 ++ (lw_privs_3 ++ (lw_privs_4 ++ (lw_privs_5 ++ (lw_privs_6 ++ (lw_privs_7)))))), lw_okq q
  exact List.forall_mem_append.mpr ⟨lw_r1, List.forall_mem_append.mpr ⟨lw_r2, List.forall_mem_append.mpr ⟨lw_r3, List.forall_mem_append.mpr ⟨lw_r4, List.forall_mem_append.mpr ⟨lw_r5, List.forall_mem_append.mpr ⟨lw_r6, lw_r7⟩⟩⟩⟩⟩⟩
def RX0 : String := "BookRental$History"
def TX0 : u_T := fun k => match k with
  | 0 => ("BookRental$History", "ring", "[LBookRental$Shop;", true)
  | 1 => ("BookRental$History", "spare", "I", false)
  | _ => ("BookRental$History", "kept", "I", false)
def tyX0 : Nat → FieldType := fun k => match k with
  | 0 => .array (.object "BookRental$Shop")
  | 1 => .int
  | _ => .int
abbrev wsX00 : List Cond := u_ws RX0 TX0 3
theorem nmX0 : ∀ a, a < 3 → ∀ b, b < 3 → a ≠ b → (TX0 a).2.1 ≠ (TX0 b).2.1 := by decide +kernel
theorem tyX0_ok : ∀ k, k < 3 → parseFieldDescriptor (TX0 k).2.2.1 = some (tyX0 k) := by decide +kernel
abbrev cX0_init : ByteArray := prog_2_method_1_code
def yX0_init : MethodName := ⟨RX0, "<init>", "()V"⟩
abbrev cX0_prepare : ByteArray := prog_2_method_2_code
def yX0_prepare : MethodName := ⟨RX0, "prepare", "(LBookRental$Shop;)V"⟩
abbrev cX0_settle : ByteArray := prog_2_method_3_code
def yX0_settle : MethodName := ⟨RX0, "settle", "(I)I"⟩
abbrev cX0_restore : ByteArray := prog_2_method_4_code
def yX0_restore : MethodName := ⟨RX0, "restore", "(LBookRental$Shop;)I"⟩
def RX1 : String := "BookRental$OrderText"
def TX1 : u_T := fun k => match k with
  | 0 => ("BookRental$OrderText", "bytes", "[I", true)
  | 1 => ("BookRental$OrderText", "length", "I", false)
  | 2 => ("BookRental$OrderText", "at", "I", false)
  | 3 => ("BookRental$OrderText", "more", "Z", false)
  | 4 => ("BookRental$OrderText", "word", "I", false)
  | 5 => ("BookRental$OrderText", "first", "I", false)
  | _ => ("BookRental$OrderText", "second", "I", false)
def tyX1 : Nat → FieldType := fun k => match k with
  | 0 => .array .int
  | 1 => .int
  | 2 => .int
  | 3 => .boolean
  | 4 => .int
  | 5 => .int
  | _ => .int
abbrev wsX10 : List Cond := u_ws RX1 TX1 7
theorem nmX1 : ∀ a, a < 7 → ∀ b, b < 7 → a ≠ b → (TX1 a).2.1 ≠ (TX1 b).2.1 := by decide +kernel
theorem tyX1_ok : ∀ k, k < 7 → parseFieldDescriptor (TX1 k).2.2.1 = some (tyX1 k) := by decide +kernel
abbrev cX1_init : ByteArray := prog_3_method_1_code
def yX1_init : MethodName := ⟨RX1, "<init>", "()V"⟩
abbrev cX1_append : ByteArray := prog_3_method_2_code
def yX1_append : MethodName := ⟨RX1, "append", "(I)I"⟩
abbrev cX1_empty : ByteArray := prog_3_method_3_code
def yX1_empty : MethodName := ⟨RX1, "empty", "()I"⟩
abbrev cX1_faultOf : ByteArray := prog_3_method_4_code
def yX1_faultOf : MethodName := ⟨RX1, "faultOf", "()I"⟩
abbrev cX1_startReading : ByteArray := prog_3_method_5_code
def yX1_startReading : MethodName := ⟨RX1, "startReading", "()V"⟩
abbrev cX1_hasMore : ByteArray := prog_3_method_6_code
def yX1_hasMore : MethodName := ⟨RX1, "hasMore", "()Z"⟩
abbrev cX1_word : ByteArray := prog_3_method_7_code
def yX1_word : MethodName := ⟨RX1, "word", "()I"⟩
abbrev cX1_first : ByteArray := prog_3_method_8_code
def yX1_first : MethodName := ⟨RX1, "first", "()I"⟩
abbrev cX1_second : ByteArray := prog_3_method_9_code
def yX1_second : MethodName := ⟨RX1, "second", "()I"⟩
abbrev cX1_readOrder : ByteArray := prog_3_method_10_code
def yX1_readOrder : MethodName := ⟨RX1, "readOrder", "()I"⟩
abbrev cX1_readEndOfOrder : ByteArray := prog_3_method_11_code
def yX1_readEndOfOrder : MethodName := ⟨RX1, "readEndOfOrder", "()I"⟩
abbrev cX1_readWord : ByteArray := prog_3_method_12_code
def yX1_readWord : MethodName := ⟨RX1, "readWord", "()I"⟩
abbrev cX1_stands : ByteArray := prog_3_method_13_code
def yX1_stands : MethodName := ⟨RX1, "stands", "(Ljava/lang/String;I)Z"⟩
abbrev cX1_takesTwo : ByteArray := prog_3_method_14_code
def yX1_takesTwo : MethodName := ⟨RX1, "takesTwo", "(I)Z"⟩
abbrev cX1_readNumber : ByteArray := prog_3_method_15_code
def yX1_readNumber : MethodName := ⟨RX1, "readNumber", "()I"⟩
abbrev cX1_skipBlanks : ByteArray := prog_3_method_16_code
def yX1_skipBlanks : MethodName := ⟨RX1, "skipBlanks", "()V"⟩
abbrev cX1_here : ByteArray := prog_3_method_17_code
def yX1_here : MethodName := ⟨RX1, "here", "()I"⟩
def RX2 : String := "BookRental$Shop"
def TX2 : u_T := fun k => match k with
  | 0 => ("BookRental$Shop", "day", "I", false)
  | 1 => ("BookRental$Shop", "titles", "I", false)
  | 2 => ("BookRental$Shop", "courses", "I", false)
  | 3 => ("BookRental$Shop", "copies", "I", false)
  | 4 => ("BookRental$Shop", "settings", "[I", true)
  | 5 => ("BookRental$Shop", "price", "[I", true)
  | 6 => ("BookRental$Shop", "currentEdition", "[I", true)
  | 7 => ("BookRental$Shop", "titleOfCourse", "[I", true)
  | 8 => ("BookRental$Shop", "least", "[I", true)
  | 9 => ("BookRental$Shop", "students", "[I", true)
  | 10 => ("BookRental$Shop", "titleOfCopy", "[I", true)
  | 11 => ("BookRental$Shop", "edition", "[I", true)
  | 12 => ("BookRental$Shop", "grade", "[I", true)
  | 13 => ("BookRental$Shop", "state", "[I", true)
  | 14 => ("BookRental$Shop", "renter", "[I", true)
  | 15 => ("BookRental$Shop", "due", "[I", true)
  | 16 => ("BookRental$Shop", "sums", "[I", true)
  | _ => ("BookRental$Shop", "charged", "[I", true)
def tyX2 : Nat → FieldType := fun k => match k with
  | 0 => .int
  | 1 => .int
  | 2 => .int
  | 3 => .int
  | 4 => .array .int
  | 5 => .array .int
  | 6 => .array .int
  | 7 => .array .int
  | 8 => .array .int
  | 9 => .array .int
  | 10 => .array .int
  | 11 => .array .int
  | 12 => .array .int
  | 13 => .array .int
  | 14 => .array .int
  | 15 => .array .int
  | 16 => .array .int
  | _ => .array .int
abbrev wsX20 : List Cond := u_ws RX2 TX2 18
theorem nmX2 : ∀ a, a < 18 → ∀ b, b < 18 → a ≠ b → (TX2 a).2.1 ≠ (TX2 b).2.1 := by decide +kernel
theorem tyX2_ok : ∀ k, k < 18 → parseFieldDescriptor (TX2 k).2.2.1 = some (tyX2 k) := by decide +kernel
abbrev cX2_init : ByteArray := prog_4_method_1_code
def yX2_init : MethodName := ⟨RX2, "<init>", "()V"⟩
abbrev cX2_becomeLike : ByteArray := prog_4_method_2_code
def yX2_becomeLike : MethodName := ⟨RX2, "becomeLike", "(LBookRental$Shop;)V"⟩
abbrev cX2_fill : ByteArray := prog_4_method_3_code
def yX2_fill : MethodName := ⟨RX2, "fill", "([I[I)V"⟩
abbrev cX2_putTitle : ByteArray := prog_4_method_4_code
def yX2_putTitle : MethodName := ⟨RX2, "putTitle", "(II)I"⟩
abbrev cX2_changePrice : ByteArray := prog_4_method_5_code
def yX2_changePrice : MethodName := ⟨RX2, "changePrice", "(II)I"⟩
abbrev cX2_advanceEdition : ByteArray := prog_4_method_6_code
def yX2_advanceEdition : MethodName := ⟨RX2, "advanceEdition", "(I)I"⟩
abbrev cX2_putCourse : ByteArray := prog_4_method_7_code
def yX2_putCourse : MethodName := ⟨RX2, "putCourse", "(III)I"⟩
abbrev cX2_changeCourse : ByteArray := prog_4_method_8_code
def yX2_changeCourse : MethodName := ⟨RX2, "changeCourse", "(III)I"⟩
abbrev cX2_changeSetting : ByteArray := prog_4_method_9_code
def yX2_changeSetting : MethodName := ⟨RX2, "changeSetting", "(II)I"⟩
abbrev cX2_numberOf : ByteArray := prog_4_method_10_code
def yX2_numberOf : MethodName := ⟨RX2, "numberOf", "(I)I"⟩
abbrev cX2_titleProperty : ByteArray := prog_4_method_11_code
def yX2_titleProperty : MethodName := ⟨RX2, "titleProperty", "(II)I"⟩
abbrev cX2_courseProperty : ByteArray := prog_4_method_12_code
def yX2_courseProperty : MethodName := ⟨RX2, "courseProperty", "(II)I"⟩
abbrev cX2_copyProperty : ByteArray := prog_4_method_13_code
def yX2_copyProperty : MethodName := ⟨RX2, "copyProperty", "(II)I"⟩
abbrev cX2_sumOf : ByteArray := prog_4_method_14_code
def yX2_sumOf : MethodName := ⟨RX2, "sumOf", "(I)I"⟩
abbrev cX2_customerNumber : ByteArray := prog_4_method_15_code
def yX2_customerNumber : MethodName := ⟨RX2, "customerNumber", "(II)I"⟩
abbrev cX2_buyNew : ByteArray := prog_4_method_16_code
def yX2_buyNew : MethodName := ⟨RX2, "buyNew", "(II)I"⟩
abbrev cX2_offerFor : ByteArray := prog_4_method_17_code
def yX2_offerFor : MethodName := ⟨RX2, "offerFor", "(III)I"⟩
abbrev cX2_buyUsed : ByteArray := prog_4_method_18_code
def yX2_buyUsed : MethodName := ⟨RX2, "buyUsed", "(III)I"⟩
abbrev cX2_sellCopy : ByteArray := prog_4_method_19_code
def yX2_sellCopy : MethodName := ⟨RX2, "sellCopy", "(I)I"⟩
abbrev cX2_putCopy : ByteArray := prog_4_method_20_code
def yX2_putCopy : MethodName := ⟨RX2, "putCopy", "(III)V"⟩
abbrev cX2_rentCopy : ByteArray := prog_4_method_21_code
def yX2_rentCopy : MethodName := ⟨RX2, "rentCopy", "(II)I"⟩
abbrev cX2_nextCopy : ByteArray := prog_4_method_22_code
def yX2_nextCopy : MethodName := ⟨RX2, "nextCopy", "(I)I"⟩
abbrev cX2_chargeFor : ByteArray := prog_4_method_23_code
def yX2_chargeFor : MethodName := ⟨RX2, "chargeFor", "(III)I"⟩
abbrev cX2_takeBack : ByteArray := prog_4_method_24_code
def yX2_takeBack : MethodName := ⟨RX2, "takeBack", "(II)I"⟩
abbrev cX2_passDays : ByteArray := prog_4_method_25_code
def yX2_passDays : MethodName := ⟨RX2, "passDays", "(I)I"⟩
abbrev cX2_bestFor : ByteArray := prog_4_method_26_code
def yX2_bestFor : MethodName := ⟨RX2, "bestFor", "(I)I"⟩
abbrev cX2_goesAhead : ByteArray := prog_4_method_27_code
def yX2_goesAhead : MethodName := ⟨RX2, "goesAhead", "(II)Z"⟩
abbrev cX2_canRent : ByteArray := prog_4_method_28_code
def yX2_canRent : MethodName := ⟨RX2, "canRent", "(II)Z"⟩
abbrev cX2_lateCharge : ByteArray := prog_4_method_29_code
def yX2_lateCharge : MethodName := ⟨RX2, "lateCharge", "(I)I"⟩
abbrev cX2_damageCharge : ByteArray := prog_4_method_30_code
def yX2_damageCharge : MethodName := ⟨RX2, "damageCharge", "(II)I"⟩
abbrev cX2_isRuinedBy : ByteArray := prog_4_method_31_code
def yX2_isRuinedBy : MethodName := ⟨RX2, "isRuinedBy", "(II)Z"⟩
abbrev cX2_isLostOn : ByteArray := prog_4_method_32_code
def yX2_isLostOn : MethodName := ⟨RX2, "isLostOn", "(II)Z"⟩
abbrev cX2_daysLate : ByteArray := prog_4_method_33_code
def yX2_daysLate : MethodName := ⟨RX2, "daysLate", "(I)I"⟩
abbrev cX2_isRentedBy : ByteArray := prog_4_method_34_code
def yX2_isRentedBy : MethodName := ⟨RX2, "isRentedBy", "(II)Z"⟩
abbrev cX2_rentedBy : ByteArray := prog_4_method_35_code
def yX2_rentedBy : MethodName := ⟨RX2, "rentedBy", "(I)I"⟩
abbrev cX2_lateBy : ByteArray := prog_4_method_36_code
def yX2_lateBy : MethodName := ⟨RX2, "lateBy", "(I)I"⟩
abbrev cX2_countShelf : ByteArray := prog_4_method_37_code
def yX2_countShelf : MethodName := ⟨RX2, "countShelf", "(II)I"⟩
abbrev cX2_loseSight : ByteArray := prog_4_method_38_code
def yX2_loseSight : MethodName := ⟨RX2, "loseSight", "(II)V"⟩
abbrev cX2_findAgain : ByteArray := prog_4_method_39_code
def yX2_findAgain : MethodName := ⟨RX2, "findAgain", "(II)V"⟩
abbrev cX2_lostAfter : ByteArray := prog_4_method_40_code
def yX2_lostAfter : MethodName := ⟨RX2, "lostAfter", "(I)I"⟩
abbrev cX2_agingBy : ByteArray := prog_4_method_41_code
def yX2_agingBy : MethodName := ⟨RX2, "agingBy", "(I)I"⟩
abbrev cX2_servedStudents : ByteArray := prog_4_method_42_code
def yX2_servedStudents : MethodName := ⟨RX2, "servedStudents", "()I"⟩
abbrev cX2_servedWith : ByteArray := prog_4_method_43_code
def yX2_servedWith : MethodName := ⟨RX2, "servedWith", "(I)I"⟩
abbrev cX2_stockOfEdition : ByteArray := prog_4_method_44_code
def yX2_stockOfEdition : MethodName := ⟨RX2, "stockOfEdition", "(II)I"⟩
abbrev cX2_studentsFrom : ByteArray := prog_4_method_45_code
def yX2_studentsFrom : MethodName := ⟨RX2, "studentsFrom", "(II)I"⟩
abbrev cX2_worthOf : ByteArray := prog_4_method_46_code
def yX2_worthOf : MethodName := ⟨RX2, "worthOf", "(I)I"⟩
abbrev cX2_worthWithGrade : ByteArray := prog_4_method_47_code
def yX2_worthWithGrade : MethodName := ⟨RX2, "worthWithGrade", "(II)I"⟩
abbrev cX2_worthBy : ByteArray := prog_4_method_48_code
def yX2_worthBy : MethodName := ⟨RX2, "worthBy", "(IIII)I"⟩
abbrev cX2_rentCost : ByteArray := prog_4_method_49_code
def yX2_rentCost : MethodName := ⟨RX2, "rentCost", "(I)I"⟩
abbrev cX2_saleCost : ByteArray := prog_4_method_50_code
def yX2_saleCost : MethodName := ⟨RX2, "saleCost", "(I)I"⟩
abbrev cX2_demandOf : ByteArray := prog_4_method_51_code
def yX2_demandOf : MethodName := ⟨RX2, "demandOf", "(I)I"⟩
abbrev cX2_supplyOf : ByteArray := prog_4_method_52_code
def yX2_supplyOf : MethodName := ⟨RX2, "supplyOf", "(I)I"⟩
abbrev cX2_isOfUse : ByteArray := prog_4_method_53_code
def yX2_isOfUse : MethodName := ⟨RX2, "isOfUse", "(II)Z"⟩
abbrev cX2_takes : ByteArray := prog_4_method_54_code
def yX2_takes : MethodName := ⟨RX2, "takes", "(III)Z"⟩
abbrev cX2_suits : ByteArray := prog_4_method_55_code
def yX2_suits : MethodName := ⟨RX2, "suits", "(II)Z"⟩
abbrev cX2_stockFor : ByteArray := prog_4_method_56_code
def yX2_stockFor : MethodName := ⟨RX2, "stockFor", "(I)I"⟩
abbrev cX2_copiesIn : ByteArray := prog_4_method_57_code
def yX2_copiesIn : MethodName := ⟨RX2, "copiesIn", "(I)I"⟩
abbrev cX2_copiesOf : ByteArray := prog_4_method_58_code
def yX2_copiesOf : MethodName := ⟨RX2, "copiesOf", "(I)I"⟩
abbrev cX2_copiesOfIn : ByteArray := prog_4_method_59_code
def yX2_copiesOfIn : MethodName := ⟨RX2, "copiesOfIn", "(II)I"⟩
abbrev cX2_isOwned : ByteArray := prog_4_method_60_code
def yX2_isOwned : MethodName := ⟨RX2, "isOwned", "(I)Z"⟩
abbrev cX2_hasTitle : ByteArray := prog_4_method_61_code
def yX2_hasTitle : MethodName := ⟨RX2, "hasTitle", "(I)Z"⟩
abbrev cX2_hasCourse : ByteArray := prog_4_method_62_code
def yX2_hasCourse : MethodName := ⟨RX2, "hasCourse", "(I)Z"⟩
abbrev cX2_hasCopy : ByteArray := prog_4_method_63_code
def yX2_hasCopy : MethodName := ⟨RX2, "hasCopy", "(I)Z"⟩
abbrev cX2_hasCustomer : ByteArray := prog_4_method_64_code
def yX2_hasCustomer : MethodName := ⟨RX2, "hasCustomer", "(I)Z"⟩
abbrev cX2_isPrice : ByteArray := prog_4_method_65_code
def yX2_isPrice : MethodName := ⟨RX2, "isPrice", "(I)Z"⟩
abbrev cX2_isEdition : ByteArray := prog_4_method_66_code
def yX2_isEdition : MethodName := ⟨RX2, "isEdition", "(I)Z"⟩
abbrev cX2_isGrade : ByteArray := prog_4_method_67_code
def yX2_isGrade : MethodName := ⟨RX2, "isGrade", "(I)Z"⟩
abbrev cX2_isBetween : ByteArray := prog_4_method_68_code
def yX2_isBetween : MethodName := ⟨RX2, "isBetween", "(III)Z"⟩
def RX3 : String := "BookRental"
def TX3 : u_T := fun k => match k with
  | 0 => ("BookRental", "shop", "LBookRental$Shop;", true)
  | 1 => ("BookRental", "history", "LBookRental$History;", true)
  | _ => ("BookRental", "text", "LBookRental$OrderText;", true)
def tyX3 : Nat → FieldType := fun k => match k with
  | 0 => .object "BookRental$Shop"
  | 1 => .object "BookRental$History"
  | _ => .object "BookRental$OrderText"
abbrev wsX30 : List Cond := u_ws RX3 TX3 3
theorem nmX3 : ∀ a, a < 3 → ∀ b, b < 3 → a ≠ b → (TX3 a).2.1 ≠ (TX3 b).2.1 := by decide +kernel
theorem tyX3_ok : ∀ k, k < 3 → parseFieldDescriptor (TX3 k).2.2.1 = some (tyX3 k) := by decide +kernel
abbrev cX3_init : ByteArray := prog_1_method_1_code
def yX3_init : MethodName := ⟨RX3, "<init>", "()V"⟩
abbrev cX3_addTitle : ByteArray := prog_1_method_2_code
def yX3_addTitle : MethodName := ⟨RX3, "addTitle", "(II)I"⟩
abbrev cX3_setPrice : ByteArray := prog_1_method_3_code
def yX3_setPrice : MethodName := ⟨RX3, "setPrice", "(II)I"⟩
abbrev cX3_newEdition : ByteArray := prog_1_method_4_code
def yX3_newEdition : MethodName := ⟨RX3, "newEdition", "(I)I"⟩
abbrev cX3_addCourse : ByteArray := prog_1_method_5_code
def yX3_addCourse : MethodName := ⟨RX3, "addCourse", "(III)I"⟩
abbrev cX3_setCourse : ByteArray := prog_1_method_6_code
def yX3_setCourse : MethodName := ⟨RX3, "setCourse", "(III)I"⟩
abbrev cX3_set : ByteArray := prog_1_method_7_code
def yX3_set : MethodName := ⟨RX3, "set", "(II)I"⟩
abbrev cX3_count : ByteArray := prog_1_method_8_code
def yX3_count : MethodName := ⟨RX3, "count", "(I)I"⟩
abbrev cX3_title : ByteArray := prog_1_method_9_code
def yX3_title : MethodName := ⟨RX3, "title", "(II)I"⟩
abbrev cX3_course : ByteArray := prog_1_method_10_code
def yX3_course : MethodName := ⟨RX3, "course", "(II)I"⟩
abbrev cX3_copy : ByteArray := prog_1_method_11_code
def yX3_copy : MethodName := ⟨RX3, "copy", "(II)I"⟩
abbrev cX3_book : ByteArray := prog_1_method_12_code
def yX3_book : MethodName := ⟨RX3, "book", "(I)I"⟩
abbrev cX3_buy : ByteArray := prog_1_method_13_code
def yX3_buy : MethodName := ⟨RX3, "buy", "(II)I"⟩
abbrev cX3_offer : ByteArray := prog_1_method_14_code
def yX3_offer : MethodName := ⟨RX3, "offer", "(III)I"⟩
abbrev cX3_buyBack : ByteArray := prog_1_method_15_code
def yX3_buyBack : MethodName := ⟨RX3, "buyBack", "(III)I"⟩
abbrev cX3_sell : ByteArray := prog_1_method_16_code
def yX3_sell : MethodName := ⟨RX3, "sell", "(I)I"⟩
abbrev cX3_rent : ByteArray := prog_1_method_17_code
def yX3_rent : MethodName := ⟨RX3, "rent", "(II)I"⟩
abbrev cX3_next : ByteArray := prog_1_method_18_code
def yX3_next : MethodName := ⟨RX3, "next", "(I)I"⟩
abbrev cX3_giveBack : ByteArray := prog_1_method_19_code
def yX3_giveBack : MethodName := ⟨RX3, "giveBack", "(II)I"⟩
abbrev cX3_charge : ByteArray := prog_1_method_20_code
def yX3_charge : MethodName := ⟨RX3, "charge", "(III)I"⟩
abbrev cX3_pass : ByteArray := prog_1_method_21_code
def yX3_pass : MethodName := ⟨RX3, "pass", "(I)I"⟩
abbrev cX3_shelf : ByteArray := prog_1_method_22_code
def yX3_shelf : MethodName := ⟨RX3, "shelf", "(II)I"⟩
abbrev cX3_customer : ByteArray := prog_1_method_23_code
def yX3_customer : MethodName := ⟨RX3, "customer", "(II)I"⟩
abbrev cX3_lostIn : ByteArray := prog_1_method_24_code
def yX3_lostIn : MethodName := ⟨RX3, "lostIn", "(I)I"⟩
abbrev cX3_agingOf : ByteArray := prog_1_method_25_code
def yX3_agingOf : MethodName := ⟨RX3, "agingOf", "(I)I"⟩
abbrev cX3_served : ByteArray := prog_1_method_26_code
def yX3_served : MethodName := ⟨RX3, "served", "()I"⟩
abbrev cX3_undo : ByteArray := prog_1_method_27_code
def yX3_undo : MethodName := ⟨RX3, "undo", "()I"⟩
abbrev cX3_type : ByteArray := prog_1_method_28_code
def yX3_type : MethodName := ⟨RX3, "type", "(I)I"⟩
abbrev cX3_clearText : ByteArray := prog_1_method_29_code
def yX3_clearText : MethodName := ⟨RX3, "clearText", "()I"⟩
abbrev cX3_textFault : ByteArray := prog_1_method_30_code
def yX3_textFault : MethodName := ⟨RX3, "textFault", "()I"⟩
abbrev cX3_orders : ByteArray := prog_1_method_31_code
def yX3_orders : MethodName := ⟨RX3, "orders", "()I"⟩
abbrev cX3_digest : ByteArray := prog_1_method_32_code
def yX3_digest : MethodName := ⟨RX3, "digest", "()J"⟩
abbrev cX3_carryOut : ByteArray := prog_1_method_33_code
def yX3_carryOut : MethodName := ⟨RX3, "carryOut", "()I"⟩
def RX4 : String := "BookRentalModel"
def TX4 : u_T := fun k => match k with
  | 0 => ("BookRentalModel", "row", "[I", true)
  | 1 => ("BookRentalModel", "saved", "I", false)
  | 2 => ("BookRentalModel", "least", "[I", true)
  | 3 => ("BookRentalModel", "most", "[I", true)
  | 4 => ("BookRentalModel", "text", "[I", true)
  | 5 => ("BookRentalModel", "length", "I", false)
  | 6 => ("BookRentalModel", "at", "I", false)
  | 7 => ("BookRentalModel", "read", "I", false)
  | 8 => ("BookRentalModel", "done", "I", false)
  | 9 => ("BookRentalModel", "goesOn", "Z", false)
  | _ => ("BookRentalModel", "h", "J", false)
def tyX4 : Nat → FieldType := fun k => match k with
  | 0 => .array .int
  | 1 => .int
  | 2 => .array .int
  | 3 => .array .int
  | 4 => .array .int
  | 5 => .int
  | 6 => .int
  | 7 => .int
  | 8 => .int
  | 9 => .boolean
  | _ => .long
abbrev wsX40 : List Cond := u_ws RX4 TX4 11
theorem nmX4 : ∀ a, a < 11 → ∀ b, b < 11 → a ≠ b → (TX4 a).2.1 ≠ (TX4 b).2.1 := by decide +kernel
theorem tyX4_ok : ∀ k, k < 11 → parseFieldDescriptor (TX4 k).2.2.1 = some (tyX4 k) := by decide +kernel
abbrev cX4_init : ByteArray := prog_6_method_1_code
def yX4_init : MethodName := ⟨RX4, "<init>", "()V"⟩
abbrev cX4_in : ByteArray := prog_6_method_2_code
def yX4_in : MethodName := ⟨RX4, "in", "(III)Z"⟩
abbrev cX4_lesser : ByteArray := prog_6_method_3_code
def yX4_lesser : MethodName := ⟨RX4, "lesser", "(II)I"⟩
abbrev cX4_copies : ByteArray := prog_6_method_4_code
def yX4_copies : MethodName := ⟨RX4, "copies", "(II)V"⟩
abbrev cX4_saves : ByteArray := prog_6_method_5_code
def yX4_saves : MethodName := ⟨RX4, "saves", "()V"⟩
abbrev cX4_isTitle : ByteArray := prog_6_method_6_code
def yX4_isTitle : MethodName := ⟨RX4, "isTitle", "(I)Z"⟩
abbrev cX4_isCourse : ByteArray := prog_6_method_7_code
def yX4_isCourse : MethodName := ⟨RX4, "isCourse", "(I)Z"⟩
abbrev cX4_isCopy : ByteArray := prog_6_method_8_code
def yX4_isCopy : MethodName := ⟨RX4, "isCopy", "(I)Z"⟩
abbrev cX4_isCustomer : ByteArray := prog_6_method_9_code
def yX4_isCustomer : MethodName := ⟨RX4, "isCustomer", "(I)Z"⟩
abbrev cX4_price : ByteArray := prog_6_method_10_code
def yX4_price : MethodName := ⟨RX4, "price", "(I)I"⟩
abbrev cX4_current : ByteArray := prog_6_method_11_code
def yX4_current : MethodName := ⟨RX4, "current", "(I)I"⟩
abbrev cX4_ofCourse : ByteArray := prog_6_method_12_code
def yX4_ofCourse : MethodName := ⟨RX4, "ofCourse", "(II)I"⟩
abbrev cX4_of : ByteArray := prog_6_method_13_code
def yX4_of : MethodName := ⟨RX4, "of", "(II)I"⟩
abbrev cX4_sets : ByteArray := prog_6_method_14_code
def yX4_sets : MethodName := ⟨RX4, "sets", "(III)V"⟩
abbrev cX4_is : ByteArray := prog_6_method_15_code
def yX4_is : MethodName := ⟨RX4, "is", "(II)Z"⟩
abbrev cX4_worth : ByteArray := prog_6_method_16_code
def yX4_worth : MethodName := ⟨RX4, "worth", "(III)I"⟩
abbrev cX4_worthOf : ByteArray := prog_6_method_17_code
def yX4_worthOf : MethodName := ⟨RX4, "worthOf", "(I)I"⟩
abbrev cX4_isOfUse : ByteArray := prog_6_method_18_code
def yX4_isOfUse : MethodName := ⟨RX4, "isOfUse", "(II)Z"⟩
abbrev cX4_demand : ByteArray := prog_6_method_19_code
def yX4_demand : MethodName := ⟨RX4, "demand", "(I)I"⟩
abbrev cX4_supply : ByteArray := prog_6_method_20_code
def yX4_supply : MethodName := ⟨RX4, "supply", "(I)I"⟩
abbrev cX4_inState : ByteArray := prog_6_method_21_code
def yX4_inState : MethodName := ⟨RX4, "inState", "(I)I"⟩
abbrev cX4_ofTitle : ByteArray := prog_6_method_22_code
def yX4_ofTitle : MethodName := ⟨RX4, "ofTitle", "(II)I"⟩
abbrev cX4_addTitle : ByteArray := prog_6_method_23_code
def yX4_addTitle : MethodName := ⟨RX4, "addTitle", "(II)I"⟩
abbrev cX4_setPrice : ByteArray := prog_6_method_24_code
def yX4_setPrice : MethodName := ⟨RX4, "setPrice", "(II)I"⟩
abbrev cX4_newEdition : ByteArray := prog_6_method_25_code
def yX4_newEdition : MethodName := ⟨RX4, "newEdition", "(I)I"⟩
abbrev cX4_isCourseLike : ByteArray := prog_6_method_26_code
def yX4_isCourseLike : MethodName := ⟨RX4, "isCourseLike", "(II)Z"⟩
abbrev cX4_addCourse : ByteArray := prog_6_method_27_code
def yX4_addCourse : MethodName := ⟨RX4, "addCourse", "(III)I"⟩
abbrev cX4_setCourse : ByteArray := prog_6_method_28_code
def yX4_setCourse : MethodName := ⟨RX4, "setCourse", "(III)I"⟩
abbrev cX4_set : ByteArray := prog_6_method_29_code
def yX4_set : MethodName := ⟨RX4, "set", "(II)I"⟩
abbrev cX4_number : ByteArray := prog_6_method_30_code
def yX4_number : MethodName := ⟨RX4, "number", "(I)I"⟩
abbrev cX4_count : ByteArray := prog_6_method_31_code
def yX4_count : MethodName := ⟨RX4, "count", "(I)I"⟩
abbrev cX4_titleNow : ByteArray := prog_6_method_32_code
def yX4_titleNow : MethodName := ⟨RX4, "titleNow", "(II)I"⟩
abbrev cX4_title : ByteArray := prog_6_method_33_code
def yX4_title : MethodName := ⟨RX4, "title", "(II)I"⟩
abbrev cX4_takes : ByteArray := prog_6_method_34_code
def yX4_takes : MethodName := ⟨RX4, "takes", "(II)Z"⟩
abbrev cX4_courseNow : ByteArray := prog_6_method_35_code
def yX4_courseNow : MethodName := ⟨RX4, "courseNow", "(II)I"⟩
abbrev cX4_course : ByteArray := prog_6_method_36_code
def yX4_course : MethodName := ⟨RX4, "course", "(II)I"⟩
abbrev cX4_late : ByteArray := prog_6_method_37_code
def yX4_late : MethodName := ⟨RX4, "late", "(I)I"⟩
abbrev cX4_copyNow : ByteArray := prog_6_method_38_code
def yX4_copyNow : MethodName := ⟨RX4, "copyNow", "(II)I"⟩
abbrev cX4_copy : ByteArray := prog_6_method_39_code
def yX4_copy : MethodName := ⟨RX4, "copy", "(II)I"⟩
abbrev cX4_sum : ByteArray := prog_6_method_40_code
def yX4_sum : MethodName := ⟨RX4, "sum", "(I)I"⟩
abbrev cX4_book : ByteArray := prog_6_method_41_code
def yX4_book : MethodName := ⟨RX4, "book", "(I)I"⟩
abbrev cX4_comes : ByteArray := prog_6_method_42_code
def yX4_comes : MethodName := ⟨RX4, "comes", "(III)V"⟩
abbrev cX4_goes : ByteArray := prog_6_method_43_code
def yX4_goes : MethodName := ⟨RX4, "goes", "(II)V"⟩
abbrev cX4_cannotBuy : ByteArray := prog_6_method_44_code
def yX4_cannotBuy : MethodName := ⟨RX4, "cannotBuy", "(II)I"⟩
abbrev cX4_buys : ByteArray := prog_6_method_45_code
def yX4_buys : MethodName := ⟨RX4, "buys", "(II)I"⟩
abbrev cX4_buy : ByteArray := prog_6_method_46_code
def yX4_buy : MethodName := ⟨RX4, "buy", "(II)I"⟩
abbrev cX4_offered : ByteArray := prog_6_method_47_code
def yX4_offered : MethodName := ⟨RX4, "offered", "(III)I"⟩
abbrev cX4_cannotOffer : ByteArray := prog_6_method_48_code
def yX4_cannotOffer : MethodName := ⟨RX4, "cannotOffer", "(III)I"⟩
abbrev cX4_offer : ByteArray := prog_6_method_49_code
def yX4_offer : MethodName := ⟨RX4, "offer", "(III)I"⟩
abbrev cX4_buyBack : ByteArray := prog_6_method_50_code
def yX4_buyBack : MethodName := ⟨RX4, "buyBack", "(III)I"⟩
abbrev cX4_cannotSell : ByteArray := prog_6_method_51_code
def yX4_cannotSell : MethodName := ⟨RX4, "cannotSell", "(I)I"⟩
abbrev cX4_sells : ByteArray := prog_6_method_52_code
def yX4_sells : MethodName := ⟨RX4, "sells", "(I)I"⟩
abbrev cX4_sell : ByteArray := prog_6_method_53_code
def yX4_sell : MethodName := ⟨RX4, "sell", "(I)I"⟩
abbrev cX4_nextOf : ByteArray := prog_6_method_54_code
def yX4_nextOf : MethodName := ⟨RX4, "nextOf", "(I)I"⟩
abbrev cX4_canRent : ByteArray := prog_6_method_55_code
def yX4_canRent : MethodName := ⟨RX4, "canRent", "(II)Z"⟩
abbrev cX4_cannotRent : ByteArray := prog_6_method_56_code
def yX4_cannotRent : MethodName := ⟨RX4, "cannotRent", "(II)I"⟩
abbrev cX4_charges : ByteArray := prog_6_method_57_code
def yX4_charges : MethodName := ⟨RX4, "charges", "(III)V"⟩
abbrev cX4_rents : ByteArray := prog_6_method_58_code
def yX4_rents : MethodName := ⟨RX4, "rents", "(II)I"⟩
abbrev cX4_rent : ByteArray := prog_6_method_59_code
def yX4_rent : MethodName := ⟨RX4, "rent", "(II)I"⟩
abbrev cX4_next : ByteArray := prog_6_method_60_code
def yX4_next : MethodName := ⟨RX4, "next", "(I)I"⟩
abbrev cX4_lateCharge : ByteArray := prog_6_method_61_code
def yX4_lateCharge : MethodName := ⟨RX4, "lateCharge", "(I)I"⟩
abbrev cX4_damageCharge : ByteArray := prog_6_method_62_code
def yX4_damageCharge : MethodName := ⟨RX4, "damageCharge", "(II)I"⟩
abbrev cX4_cannotGive : ByteArray := prog_6_method_63_code
def yX4_cannotGive : MethodName := ⟨RX4, "cannotGive", "(II)I"⟩
abbrev cX4_gives : ByteArray := prog_6_method_64_code
def yX4_gives : MethodName := ⟨RX4, "gives", "(II)I"⟩
abbrev cX4_giveBack : ByteArray := prog_6_method_65_code
def yX4_giveBack : MethodName := ⟨RX4, "giveBack", "(II)I"⟩
abbrev cX4_charge : ByteArray := prog_6_method_66_code
def yX4_charge : MethodName := ⟨RX4, "charge", "(III)I"⟩
abbrev cX4_cannotPass : ByteArray := prog_6_method_67_code
def yX4_cannotPass : MethodName := ⟨RX4, "cannotPass", "(I)I"⟩
abbrev cX4_passes : ByteArray := prog_6_method_68_code
def yX4_passes : MethodName := ⟨RX4, "passes", "(I)I"⟩
abbrev cX4_pass : ByteArray := prog_6_method_69_code
def yX4_pass : MethodName := ⟨RX4, "pass", "(I)I"⟩
abbrev cX4_shelf : ByteArray := prog_6_method_70_code
def yX4_shelf : MethodName := ⟨RX4, "shelf", "(II)I"⟩
abbrev cX4_customerNow : ByteArray := prog_6_method_71_code
def yX4_customerNow : MethodName := ⟨RX4, "customerNow", "(II)I"⟩
abbrev cX4_customer : ByteArray := prog_6_method_72_code
def yX4_customer : MethodName := ⟨RX4, "customer", "(II)I"⟩
abbrev cX4_lostIn : ByteArray := prog_6_method_73_code
def yX4_lostIn : MethodName := ⟨RX4, "lostIn", "(I)I"⟩
abbrev cX4_owned : ByteArray := prog_6_method_74_code
def yX4_owned : MethodName := ⟨RX4, "owned", "(I)I"⟩
abbrev cX4_agingOf : ByteArray := prog_6_method_75_code
def yX4_agingOf : MethodName := ⟨RX4, "agingOf", "(I)I"⟩
abbrev cX4_stockFrom : ByteArray := prog_6_method_76_code
def yX4_stockFrom : MethodName := ⟨RX4, "stockFrom", "(II)I"⟩
abbrev cX4_servedOf : ByteArray := prog_6_method_77_code
def yX4_servedOf : MethodName := ⟨RX4, "servedOf", "(I)I"⟩
abbrev cX4_served : ByteArray := prog_6_method_78_code
def yX4_served : MethodName := ⟨RX4, "served", "()I"⟩
abbrev cX4_undo : ByteArray := prog_6_method_79_code
def yX4_undo : MethodName := ⟨RX4, "undo", "()I"⟩
abbrev cX4_type : ByteArray := prog_6_method_80_code
def yX4_type : MethodName := ⟨RX4, "type", "(I)I"⟩
abbrev cX4_clearText : ByteArray := prog_6_method_81_code
def yX4_clearText : MethodName := ⟨RX4, "clearText", "()I"⟩
abbrev cX4_here : ByteArray := prog_6_method_82_code
def yX4_here : MethodName := ⟨RX4, "here", "()I"⟩
abbrev cX4_reads : ByteArray := prog_6_method_83_code
def yX4_reads : MethodName := ⟨RX4, "reads", "()Z"⟩
abbrev cX4_word : ByteArray := prog_6_method_84_code
def yX4_word : MethodName := ⟨RX4, "word", "()I"⟩
abbrev cX4_spelt : ByteArray := prog_6_method_85_code
def yX4_spelt : MethodName := ⟨RX4, "spelt", "(IIII)I"⟩
abbrev cX4_order : ByteArray := prog_6_method_86_code
def yX4_order : MethodName := ⟨RX4, "order", "()I"⟩
abbrev cX4_carries : ByteArray := prog_6_method_87_code
def yX4_carries : MethodName := ⟨RX4, "carries", "(III)I"⟩
abbrev cX4_readsOrder : ByteArray := prog_6_method_88_code
def yX4_readsOrder : MethodName := ⟨RX4, "readsOrder", "(Z)Z"⟩
abbrev cX4_readsText : ByteArray := prog_6_method_89_code
def yX4_readsText : MethodName := ⟨RX4, "readsText", "(Z)Z"⟩
abbrev cX4_textFault : ByteArray := prog_6_method_90_code
def yX4_textFault : MethodName := ⟨RX4, "textFault", "()I"⟩
abbrev cX4_orders : ByteArray := prog_6_method_91_code
def yX4_orders : MethodName := ⟨RX4, "orders", "()I"⟩
abbrev cX4_note : ByteArray := prog_6_method_92_code
def yX4_note : MethodName := ⟨RX4, "note", "(I)V"⟩
abbrev cX4_digest : ByteArray := prog_6_method_93_code
def yX4_digest : MethodName := ⟨RX4, "digest", "()J"⟩
def RJ9 : String := "java/lang/Math"
def TJ9 : u_T := fun k => match k with
  | _ => ("", "", "", false)
def tyJ9 : Nat → FieldType := fun k => match k with
  | _ => .int
abbrev wsJ90 : List Cond := u_ws RJ9 TJ9 0
theorem nmJ9 : ∀ a, a < 0 → ∀ b, b < 0 → a ≠ b → (TJ9 a).2.1 ≠ (TJ9 b).2.1 := by decide +kernel
theorem tyJ9_ok : ∀ k, k < 0 → parseFieldDescriptor (TJ9 k).2.2.1 = some (tyJ9 k) := by decide +kernel
abbrev cJ9_max_7cf53 : ByteArray := prog_7_method_65_code
def yJ9_max_7cf53 : MethodName := ⟨RJ9, "max", "(II)I"⟩
abbrev cJ9_min_7cf53 : ByteArray := prog_7_method_69_code
def yJ9_min_7cf53 : MethodName := ⟨RJ9, "min", "(II)I"⟩
def RJ0 : String := "java/lang/String"
def TJ0 : u_T := fun k => match k with
  | _ => ("", "", "", false)
def tyJ0 : Nat → FieldType := fun k => match k with
  | _ => .int
abbrev wsJ00 : List Cond := u_ws RJ0 TJ0 0
theorem nmJ0 : ∀ a, a < 0 → ∀ b, b < 0 → a ≠ b → (TJ0 a).2.1 ≠ (TJ0 b).2.1 := by decide +kernel
theorem tyJ0_ok : ∀ k, k < 0 → parseFieldDescriptor (TJ0 k).2.2.1 = some (tyJ0 k) := by decide +kernel
abbrev cJ0_length_8abf5 : ByteArray := prog_8_method_54_code
def yJ0_length_8abf5 : MethodName := ⟨RJ0, "length", "()I"⟩
abbrev cJ0_charAt_5068e : ByteArray := prog_8_method_56_code
def yJ0_charAt_5068e : MethodName := ⟨RJ0, "charAt", "(I)C"⟩
abbrev cJ0_coder_7d493 : ByteArray := prog_8_method_152_code
def yJ0_coder_7d493 : MethodName := ⟨RJ0, "coder", "()B"⟩
abbrev cJ0_isLatin1_aae02 : ByteArray := prog_8_method_154_code
def yJ0_isLatin1_aae02 : MethodName := ⟨RJ0, "isLatin1", "()Z"⟩
abbrev cJ0_checkIndex_df160 : ByteArray := prog_8_method_155_code
def yJ0_checkIndex_df160 : MethodName := ⟨RJ0, "checkIndex", "(II)V"⟩
def RJ1 : String := "java/lang/StringLatin1"
def TJ1 : u_T := fun k => match k with
  | _ => ("", "", "", false)
def tyJ1 : Nat → FieldType := fun k => match k with
  | _ => .int
abbrev wsJ10 : List Cond := u_ws RJ1 TJ1 0
theorem nmJ1 : ∀ a, a < 0 → ∀ b, b < 0 → a ≠ b → (TJ1 a).2.1 ≠ (TJ1 b).2.1 := by decide +kernel
theorem tyJ1_ok : ∀ k, k < 0 → parseFieldDescriptor (TJ1 k).2.2.1 = some (tyJ1 k) := by decide +kernel
abbrev cJ1_charAt_3b067 : ByteArray := prog_9_method_2_code
def yJ1_charAt_3b067 : MethodName := ⟨RJ1, "charAt", "([BI)C"⟩
def RJ2 : String := "java/lang/StringUTF16"
def TJ2 : u_T := fun k => match k with
  | _ => ("", "", "", false)
def tyJ2 : Nat → FieldType := fun k => match k with
  | _ => .int
abbrev wsJ20 : List Cond := u_ws RJ2 TJ2 0
theorem nmJ2 : ∀ a, a < 0 → ∀ b, b < 0 → a ≠ b → (TJ2 a).2.1 ≠ (TJ2 b).2.1 := by decide +kernel
theorem tyJ2_ok : ∀ k, k < 0 → parseFieldDescriptor (TJ2 k).2.2.1 = some (tyJ2 k) := by decide +kernel
abbrev cJ2_getChar_3b067 : ByteArray := prog_10_method_5_code
def yJ2_getChar_3b067 : MethodName := ⟨RJ2, "getChar", "([BI)C"⟩
abbrev cJ2_length_9d52b : ByteArray := prog_10_method_6_code
def yJ2_length_9d52b : MethodName := ⟨RJ2, "length", "([B)I"⟩
abbrev cJ2_charAt_3b067 : ByteArray := prog_10_method_83_code
def yJ2_charAt_3b067 : MethodName := ⟨RJ2, "charAt", "([BI)C"⟩
abbrev cJ2_checkIndex_2214a : ByteArray := prog_10_method_91_code
def yJ2_checkIndex_2214a : MethodName := ⟨RJ2, "checkIndex", "(I[B)V"⟩
def RJ10 : String := "java/lang/System"
def TJ10 : u_T := fun k => match k with
  | _ => ("", "", "", false)
def tyJ10 : Nat → FieldType := fun k => match k with
  | _ => .int
abbrev wsJ100 : List Cond := u_ws RJ10 TJ10 0
theorem nmJ10 : ∀ a, a < 0 → ∀ b, b < 0 → a ≠ b → (TJ10 a).2.1 ≠ (TJ10 b).2.1 := by decide +kernel
theorem tyJ10_ok : ∀ k, k < 0 → parseFieldDescriptor (TJ10 k).2.2.1 = some (tyJ10 k) := by decide +kernel
def RJ3 : String := "jdk/internal/util/Preconditions"
def TJ3 : u_T := fun k => match k with
  | _ => ("", "", "", false)
def tyJ3 : Nat → FieldType := fun k => match k with
  | _ => .int
abbrev wsJ30 : List Cond := u_ws RJ3 TJ3 0
theorem nmJ3 : ∀ a, a < 0 → ∀ b, b < 0 → a ≠ b → (TJ3 a).2.1 ≠ (TJ3 b).2.1 := by decide +kernel
theorem tyJ3_ok : ∀ k, k < 0 → parseFieldDescriptor (TJ3 k).2.2.1 = some (tyJ3 k) := by decide +kernel
abbrev cJ3_checkIndex_8e157 : ByteArray := prog_12_method_11_code
def yJ3_checkIndex_8e157 : MethodName := ⟨RJ3, "checkIndex", "(IILjava/util/function/BiFunction;)I"⟩
def RL : String := "BookRentalLaw"
abbrev cL_law : ByteArray := code
def yL_law : MethodName := ⟨RL, "law", "([I)Z"⟩
abbrev vwCl : List vw_C := [(RX0, TX0, 3), (RX1, TX1, 7), (RX2, TX2, 18), (RX3, TX3, 3), (RX4, TX4, 11)]
