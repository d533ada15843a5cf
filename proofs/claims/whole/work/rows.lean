section
-- ===== PART A: goes FIRST, ahead of the names: the tables' words, and 'selects' of the private methods out of them =====
/-- a private method of a class that the tables say can be made, by its rows of tables_1 -/
def lw_okq (q : MethodName × Nat) : Prop := (q.1.cls ≠ "java/lang/invoke/MethodHandle" ∧ q.1.cls ≠ "java/lang/invoke/VarHandle") ∧ Cond.instantiable q.1.cls q.2 ∈ tables_1 ∧ Cond.privateMethod q.1 ∈ tables_1 ∧ Cond.instanceMethod q.1 ∈ tables_1
theorem lw_p0 : lw_okq (⟨"BookRental$Shop", "hasTitle", "(I)Z"⟩, 18) := ⟨⟨by decide +kernel, by decide +kernel⟩, List.mem_of_getElem? (i := 21) (by decide +kernel), List.mem_of_getElem? (i := 190) (by decide +kernel), List.mem_of_getElem? (i := 191) (by decide +kernel)⟩
theorem lw_p1 : lw_okq (⟨"BookRental$Shop", "hasCourse", "(I)Z"⟩, 18) := ⟨⟨by decide +kernel, by decide +kernel⟩, List.mem_of_getElem? (i := 21) (by decide +kernel), List.mem_of_getElem? (i := 218) (by decide +kernel), List.mem_of_getElem? (i := 219) (by decide +kernel)⟩
theorem lw_p2 : lw_okq (⟨"BookRental$Shop", "copiesIn", "(I)I"⟩, 18) := ⟨⟨by decide +kernel, by decide +kernel⟩, List.mem_of_getElem? (i := 21) (by decide +kernel), List.mem_of_getElem? (i := 242) (by decide +kernel), List.mem_of_getElem? (i := 243) (by decide +kernel)⟩
theorem lw_p3 : lw_okq (⟨"BookRental$Shop", "demandOf", "(I)I"⟩, 18) := ⟨⟨by decide +kernel, by decide +kernel⟩, List.mem_of_getElem? (i := 21) (by decide +kernel), List.mem_of_getElem? (i := 254) (by decide +kernel), List.mem_of_getElem? (i := 255) (by decide +kernel)⟩
theorem lw_p4 : lw_okq (⟨"BookRental$Shop", "supplyOf", "(I)I"⟩, 18) := ⟨⟨by decide +kernel, by decide +kernel⟩, List.mem_of_getElem? (i := 21) (by decide +kernel), List.mem_of_getElem? (i := 258) (by decide +kernel), List.mem_of_getElem? (i := 259) (by decide +kernel)⟩
theorem lw_p5 : lw_okq (⟨"BookRental$Shop", "isOfUse", "(II)Z"⟩, 18) := ⟨⟨by decide +kernel, by decide +kernel⟩, List.mem_of_getElem? (i := 21) (by decide +kernel), List.mem_of_getElem? (i := 262) (by decide +kernel), List.mem_of_getElem? (i := 263) (by decide +kernel)⟩
theorem lw_p6 : lw_okq (⟨"BookRental$Shop", "takes", "(III)Z"⟩, 18) := ⟨⟨by decide +kernel, by decide +kernel⟩, List.mem_of_getElem? (i := 21) (by decide +kernel), List.mem_of_getElem? (i := 266) (by decide +kernel), List.mem_of_getElem? (i := 267) (by decide +kernel)⟩
theorem lw_p7 : lw_okq (⟨"BookRental$Shop", "copiesOf", "(I)I"⟩, 18) := ⟨⟨by decide +kernel, by decide +kernel⟩, List.mem_of_getElem? (i := 21) (by decide +kernel), List.mem_of_getElem? (i := 273) (by decide +kernel), List.mem_of_getElem? (i := 274) (by decide +kernel)⟩
theorem lw_p8 : lw_okq (⟨"BookRental$Shop", "copiesOfIn", "(II)I"⟩, 18) := ⟨⟨by decide +kernel, by decide +kernel⟩, List.mem_of_getElem? (i := 21) (by decide +kernel), List.mem_of_getElem? (i := 277) (by decide +kernel), List.mem_of_getElem? (i := 278) (by decide +kernel)⟩
theorem lw_p9 : lw_okq (⟨"BookRental$Shop", "stockFor", "(I)I"⟩, 18) := ⟨⟨by decide +kernel, by decide +kernel⟩, List.mem_of_getElem? (i := 21) (by decide +kernel), List.mem_of_getElem? (i := 289) (by decide +kernel), List.mem_of_getElem? (i := 290) (by decide +kernel)⟩
theorem lw_p10 : lw_okq (⟨"BookRental$Shop", "suits", "(II)Z"⟩, 18) := ⟨⟨by decide +kernel, by decide +kernel⟩, List.mem_of_getElem? (i := 21) (by decide +kernel), List.mem_of_getElem? (i := 293) (by decide +kernel), List.mem_of_getElem? (i := 294) (by decide +kernel)⟩
theorem lw_p11 : lw_okq (⟨"BookRental$Shop", "hasCopy", "(I)Z"⟩, 18) := ⟨⟨by decide +kernel, by decide +kernel⟩, List.mem_of_getElem? (i := 21) (by decide +kernel), List.mem_of_getElem? (i := 305) (by decide +kernel), List.mem_of_getElem? (i := 306) (by decide +kernel)⟩
theorem lw_p12 : lw_okq (⟨"BookRental$Shop", "worthOf", "(I)I"⟩, 18) := ⟨⟨by decide +kernel, by decide +kernel⟩, List.mem_of_getElem? (i := 21) (by decide +kernel), List.mem_of_getElem? (i := 309) (by decide +kernel), List.mem_of_getElem? (i := 310) (by decide +kernel)⟩
theorem lw_p13 : lw_okq (⟨"BookRental$Shop", "worthBy", "(IIII)I"⟩, 18) := ⟨⟨by decide +kernel, by decide +kernel⟩, List.mem_of_getElem? (i := 21) (by decide +kernel), List.mem_of_getElem? (i := 313) (by decide +kernel), List.mem_of_getElem? (i := 314) (by decide +kernel)⟩
theorem lw_p14 : lw_okq (⟨"BookRental$Shop", "rentCost", "(I)I"⟩, 18) := ⟨⟨by decide +kernel, by decide +kernel⟩, List.mem_of_getElem? (i := 21) (by decide +kernel), List.mem_of_getElem? (i := 317) (by decide +kernel), List.mem_of_getElem? (i := 318) (by decide +kernel)⟩
theorem lw_p15 : lw_okq (⟨"BookRental$Shop", "saleCost", "(I)I"⟩, 18) := ⟨⟨by decide +kernel, by decide +kernel⟩, List.mem_of_getElem? (i := 21) (by decide +kernel), List.mem_of_getElem? (i := 321) (by decide +kernel), List.mem_of_getElem? (i := 322) (by decide +kernel)⟩
def lw_privs_1 : List (MethodName × Nat) := [(⟨"BookRental$Shop", "hasTitle", "(I)Z"⟩, 18), (⟨"BookRental$Shop", "hasCourse", "(I)Z"⟩, 18), (⟨"BookRental$Shop", "copiesIn", "(I)I"⟩, 18), (⟨"BookRental$Shop", "demandOf", "(I)I"⟩, 18), (⟨"BookRental$Shop", "supplyOf", "(I)I"⟩, 18), (⟨"BookRental$Shop", "isOfUse", "(II)Z"⟩, 18), (⟨"BookRental$Shop", "takes", "(III)Z"⟩, 18), (⟨"BookRental$Shop", "copiesOf", "(I)I"⟩, 18), (⟨"BookRental$Shop", "copiesOfIn", "(II)I"⟩, 18), (⟨"BookRental$Shop", "stockFor", "(I)I"⟩, 18), (⟨"BookRental$Shop", "suits", "(II)Z"⟩, 18), (⟨"BookRental$Shop", "hasCopy", "(I)Z"⟩, 18), (⟨"BookRental$Shop", "worthOf", "(I)I"⟩, 18), (⟨"BookRental$Shop", "worthBy", "(IIII)I"⟩, 18), (⟨"BookRental$Shop", "rentCost", "(I)I"⟩, 18), (⟨"BookRental$Shop", "saleCost", "(I)I"⟩, 18)]
theorem lw_r1 : ∀ q ∈ lw_privs_1, lw_okq q := List.forall_mem_cons.mpr ⟨lw_p0, List.forall_mem_cons.mpr ⟨lw_p1, List.forall_mem_cons.mpr ⟨lw_p2, List.forall_mem_cons.mpr ⟨lw_p3, List.forall_mem_cons.mpr ⟨lw_p4, List.forall_mem_cons.mpr ⟨lw_p5, List.forall_mem_cons.mpr ⟨lw_p6, List.forall_mem_cons.mpr ⟨lw_p7, List.forall_mem_cons.mpr ⟨lw_p8, List.forall_mem_cons.mpr ⟨lw_p9, List.forall_mem_cons.mpr ⟨lw_p10, List.forall_mem_cons.mpr ⟨lw_p11, List.forall_mem_cons.mpr ⟨lw_p12, List.forall_mem_cons.mpr ⟨lw_p13, List.forall_mem_cons.mpr ⟨lw_p14, List.forall_mem_cons.mpr ⟨lw_p15, fun _ h => absurd h List.not_mem_nil⟩⟩⟩⟩⟩⟩⟩⟩⟩⟩⟩⟩⟩⟩⟩⟩
theorem lw_p16 : lw_okq (⟨"BookRental$Shop", "daysLate", "(I)I"⟩, 18) := ⟨⟨by decide +kernel, by decide +kernel⟩, List.mem_of_getElem? (i := 21) (by decide +kernel), List.mem_of_getElem? (i := 325) (by decide +kernel), List.mem_of_getElem? (i := 326) (by decide +kernel)⟩
theorem lw_p17 : lw_okq (⟨"BookRental$Shop", "putCopy", "(III)V"⟩, 18) := ⟨⟨by decide +kernel, by decide +kernel⟩, List.mem_of_getElem? (i := 21) (by decide +kernel), List.mem_of_getElem? (i := 346) (by decide +kernel), List.mem_of_getElem? (i := 347) (by decide +kernel)⟩
theorem lw_p18 : lw_okq (⟨"BookRental$Shop", "bestFor", "(I)I"⟩, 18) := ⟨⟨by decide +kernel, by decide +kernel⟩, List.mem_of_getElem? (i := 21) (by decide +kernel), List.mem_of_getElem? (i := 389) (by decide +kernel), List.mem_of_getElem? (i := 390) (by decide +kernel)⟩
theorem lw_p19 : lw_okq (⟨"BookRental$Shop", "goesAhead", "(II)Z"⟩, 18) := ⟨⟨by decide +kernel, by decide +kernel⟩, List.mem_of_getElem? (i := 21) (by decide +kernel), List.mem_of_getElem? (i := 393) (by decide +kernel), List.mem_of_getElem? (i := 394) (by decide +kernel)⟩
theorem lw_p20 : lw_okq (⟨"BookRental$Shop", "canRent", "(II)Z"⟩, 18) := ⟨⟨by decide +kernel, by decide +kernel⟩, List.mem_of_getElem? (i := 21) (by decide +kernel), List.mem_of_getElem? (i := 397) (by decide +kernel), List.mem_of_getElem? (i := 398) (by decide +kernel)⟩
theorem lw_p21 : lw_okq (⟨"BookRental$Shop", "isRentedBy", "(II)Z"⟩, 18) := ⟨⟨by decide +kernel, by decide +kernel⟩, List.mem_of_getElem? (i := 21) (by decide +kernel), List.mem_of_getElem? (i := 401) (by decide +kernel), List.mem_of_getElem? (i := 402) (by decide +kernel)⟩
theorem lw_p22 : lw_okq (⟨"BookRental$Shop", "rentedBy", "(I)I"⟩, 18) := ⟨⟨by decide +kernel, by decide +kernel⟩, List.mem_of_getElem? (i := 21) (by decide +kernel), List.mem_of_getElem? (i := 405) (by decide +kernel), List.mem_of_getElem? (i := 406) (by decide +kernel)⟩
theorem lw_p23 : lw_okq (⟨"BookRental$Shop", "lateCharge", "(I)I"⟩, 18) := ⟨⟨by decide +kernel, by decide +kernel⟩, List.mem_of_getElem? (i := 21) (by decide +kernel), List.mem_of_getElem? (i := 425) (by decide +kernel), List.mem_of_getElem? (i := 426) (by decide +kernel)⟩
theorem lw_p24 : lw_okq (⟨"BookRental$Shop", "damageCharge", "(II)I"⟩, 18) := ⟨⟨by decide +kernel, by decide +kernel⟩, List.mem_of_getElem? (i := 21) (by decide +kernel), List.mem_of_getElem? (i := 429) (by decide +kernel), List.mem_of_getElem? (i := 430) (by decide +kernel)⟩
theorem lw_p25 : lw_okq (⟨"BookRental$Shop", "isRuinedBy", "(II)Z"⟩, 18) := ⟨⟨by decide +kernel, by decide +kernel⟩, List.mem_of_getElem? (i := 21) (by decide +kernel), List.mem_of_getElem? (i := 433) (by decide +kernel), List.mem_of_getElem? (i := 434) (by decide +kernel)⟩
theorem lw_p26 : lw_okq (⟨"BookRental$Shop", "worthWithGrade", "(II)I"⟩, 18) := ⟨⟨by decide +kernel, by decide +kernel⟩, List.mem_of_getElem? (i := 21) (by decide +kernel), List.mem_of_getElem? (i := 437) (by decide +kernel), List.mem_of_getElem? (i := 438) (by decide +kernel)⟩
theorem lw_p27 : lw_okq (⟨"BookRental$Shop", "isLostOn", "(II)Z"⟩, 18) := ⟨⟨by decide +kernel, by decide +kernel⟩, List.mem_of_getElem? (i := 21) (by decide +kernel), List.mem_of_getElem? (i := 458) (by decide +kernel), List.mem_of_getElem? (i := 459) (by decide +kernel)⟩
theorem lw_p28 : lw_okq (⟨"BookRental$Shop", "loseSight", "(II)V"⟩, 18) := ⟨⟨by decide +kernel, by decide +kernel⟩, List.mem_of_getElem? (i := 21) (by decide +kernel), List.mem_of_getElem? (i := 470) (by decide +kernel), List.mem_of_getElem? (i := 471) (by decide +kernel)⟩
theorem lw_p29 : lw_okq (⟨"BookRental$Shop", "findAgain", "(II)V"⟩, 18) := ⟨⟨by decide +kernel, by decide +kernel⟩, List.mem_of_getElem? (i := 21) (by decide +kernel), List.mem_of_getElem? (i := 474) (by decide +kernel), List.mem_of_getElem? (i := 475) (by decide +kernel)⟩
theorem lw_p30 : lw_okq (⟨"BookRental$Shop", "lateBy", "(I)I"⟩, 18) := ⟨⟨by decide +kernel, by decide +kernel⟩, List.mem_of_getElem? (i := 21) (by decide +kernel), List.mem_of_getElem? (i := 486) (by decide +kernel), List.mem_of_getElem? (i := 487) (by decide +kernel)⟩
theorem lw_p31 : lw_okq (⟨"BookRental$Shop", "isOwned", "(I)Z"⟩, 18) := ⟨⟨by decide +kernel, by decide +kernel⟩, List.mem_of_getElem? (i := 21) (by decide +kernel), List.mem_of_getElem? (i := 506) (by decide +kernel), List.mem_of_getElem? (i := 507) (by decide +kernel)⟩
def lw_privs_2 : List (MethodName × Nat) := [(⟨"BookRental$Shop", "daysLate", "(I)I"⟩, 18), (⟨"BookRental$Shop", "putCopy", "(III)V"⟩, 18), (⟨"BookRental$Shop", "bestFor", "(I)I"⟩, 18), (⟨"BookRental$Shop", "goesAhead", "(II)Z"⟩, 18), (⟨"BookRental$Shop", "canRent", "(II)Z"⟩, 18), (⟨"BookRental$Shop", "isRentedBy", "(II)Z"⟩, 18), (⟨"BookRental$Shop", "rentedBy", "(I)I"⟩, 18), (⟨"BookRental$Shop", "lateCharge", "(I)I"⟩, 18), (⟨"BookRental$Shop", "damageCharge", "(II)I"⟩, 18), (⟨"BookRental$Shop", "isRuinedBy", "(II)Z"⟩, 18), (⟨"BookRental$Shop", "worthWithGrade", "(II)I"⟩, 18), (⟨"BookRental$Shop", "isLostOn", "(II)Z"⟩, 18), (⟨"BookRental$Shop", "loseSight", "(II)V"⟩, 18), (⟨"BookRental$Shop", "findAgain", "(II)V"⟩, 18), (⟨"BookRental$Shop", "lateBy", "(I)I"⟩, 18), (⟨"BookRental$Shop", "isOwned", "(I)Z"⟩, 18)]
theorem lw_r2 : ∀ q ∈ lw_privs_2, lw_okq q := List.forall_mem_cons.mpr ⟨lw_p16, List.forall_mem_cons.mpr ⟨lw_p17, List.forall_mem_cons.mpr ⟨lw_p18, List.forall_mem_cons.mpr ⟨lw_p19, List.forall_mem_cons.mpr ⟨lw_p20, List.forall_mem_cons.mpr ⟨lw_p21, List.forall_mem_cons.mpr ⟨lw_p22, List.forall_mem_cons.mpr ⟨lw_p23, List.forall_mem_cons.mpr ⟨lw_p24, List.forall_mem_cons.mpr ⟨lw_p25, List.forall_mem_cons.mpr ⟨lw_p26, List.forall_mem_cons.mpr ⟨lw_p27, List.forall_mem_cons.mpr ⟨lw_p28, List.forall_mem_cons.mpr ⟨lw_p29, List.forall_mem_cons.mpr ⟨lw_p30, List.forall_mem_cons.mpr ⟨lw_p31, fun _ h => absurd h List.not_mem_nil⟩⟩⟩⟩⟩⟩⟩⟩⟩⟩⟩⟩⟩⟩⟩⟩
theorem lw_p32 : lw_okq (⟨"BookRental$Shop", "servedWith", "(I)I"⟩, 18) := ⟨⟨by decide +kernel, by decide +kernel⟩, List.mem_of_getElem? (i := 21) (by decide +kernel), List.mem_of_getElem? (i := 518) (by decide +kernel), List.mem_of_getElem? (i := 519) (by decide +kernel)⟩
theorem lw_p33 : lw_okq (⟨"BookRental$Shop", "stockOfEdition", "(II)I"⟩, 18) := ⟨⟨by decide +kernel, by decide +kernel⟩, List.mem_of_getElem? (i := 21) (by decide +kernel), List.mem_of_getElem? (i := 522) (by decide +kernel), List.mem_of_getElem? (i := 523) (by decide +kernel)⟩
theorem lw_p34 : lw_okq (⟨"BookRental$Shop", "studentsFrom", "(II)I"⟩, 18) := ⟨⟨by decide +kernel, by decide +kernel⟩, List.mem_of_getElem? (i := 21) (by decide +kernel), List.mem_of_getElem? (i := 526) (by decide +kernel), List.mem_of_getElem? (i := 527) (by decide +kernel)⟩
theorem lw_p35 : lw_okq (⟨"BookRental$OrderText", "skipBlanks", "()V"⟩, 7) := ⟨⟨by decide +kernel, by decide +kernel⟩, List.mem_of_getElem? (i := 105) (by decide +kernel), List.mem_of_getElem? (i := 570) (by decide +kernel), List.mem_of_getElem? (i := 571) (by decide +kernel)⟩
theorem lw_p36 : lw_okq (⟨"BookRental$OrderText", "readWord", "()I"⟩, 7) := ⟨⟨by decide +kernel, by decide +kernel⟩, List.mem_of_getElem? (i := 105) (by decide +kernel), List.mem_of_getElem? (i := 574) (by decide +kernel), List.mem_of_getElem? (i := 575) (by decide +kernel)⟩
theorem lw_p37 : lw_okq (⟨"BookRental$OrderText", "stands", "(Ljava/lang/String;I)Z"⟩, 7) := ⟨⟨by decide +kernel, by decide +kernel⟩, List.mem_of_getElem? (i := 105) (by decide +kernel), List.mem_of_getElem? (i := 579) (by decide +kernel), List.mem_of_getElem? (i := 580) (by decide +kernel)⟩
theorem lw_p38 : lw_okq (⟨"BookRental$OrderText", "readNumber", "()I"⟩, 7) := ⟨⟨by decide +kernel, by decide +kernel⟩, List.mem_of_getElem? (i := 105) (by decide +kernel), List.mem_of_getElem? (i := 635) (by decide +kernel), List.mem_of_getElem? (i := 636) (by decide +kernel)⟩
theorem lw_p39 : lw_okq (⟨"BookRental$OrderText", "here", "()I"⟩, 7) := ⟨⟨by decide +kernel, by decide +kernel⟩, List.mem_of_getElem? (i := 105) (by decide +kernel), List.mem_of_getElem? (i := 642) (by decide +kernel), List.mem_of_getElem? (i := 643) (by decide +kernel)⟩
theorem lw_p40 : lw_okq (⟨"BookRental$OrderText", "readEndOfOrder", "()I"⟩, 7) := ⟨⟨by decide +kernel, by decide +kernel⟩, List.mem_of_getElem? (i := 105) (by decide +kernel), List.mem_of_getElem? (i := 646) (by decide +kernel), List.mem_of_getElem? (i := 647) (by decide +kernel)⟩
theorem lw_p41 : lw_okq (⟨"BookRental", "carryOut", "()I"⟩, 3) := ⟨⟨by decide +kernel, by decide +kernel⟩, List.mem_of_getElem? (i := 13) (by decide +kernel), List.mem_of_getElem? (i := 661) (by decide +kernel), List.mem_of_getElem? (i := 662) (by decide +kernel)⟩
theorem lw_p42 : lw_okq (⟨"BookRentalModel", "saves", "()V"⟩, 11) := ⟨⟨by decide +kernel, by decide +kernel⟩, List.mem_of_getElem? (i := 683) (by decide +kernel), List.mem_of_getElem? (i := 730) (by decide +kernel), List.mem_of_getElem? (i := 731) (by decide +kernel)⟩
theorem lw_p43 : lw_okq (⟨"BookRentalModel", "copies", "(II)V"⟩, 11) := ⟨⟨by decide +kernel, by decide +kernel⟩, List.mem_of_getElem? (i := 683) (by decide +kernel), List.mem_of_getElem? (i := 734) (by decide +kernel), List.mem_of_getElem? (i := 735) (by decide +kernel)⟩
theorem lw_p44 : lw_okq (⟨"BookRentalModel", "isTitle", "(I)Z"⟩, 11) := ⟨⟨by decide +kernel, by decide +kernel⟩, List.mem_of_getElem? (i := 683) (by decide +kernel), List.mem_of_getElem? (i := 742) (by decide +kernel), List.mem_of_getElem? (i := 743) (by decide +kernel)⟩
theorem lw_p45 : lw_okq (⟨"BookRentalModel", "price", "(I)I"⟩, 11) := ⟨⟨by decide +kernel, by decide +kernel⟩, List.mem_of_getElem? (i := 683) (by decide +kernel), List.mem_of_getElem? (i := 746) (by decide +kernel), List.mem_of_getElem? (i := 747) (by decide +kernel)⟩
theorem lw_p46 : lw_okq (⟨"BookRentalModel", "current", "(I)I"⟩, 11) := ⟨⟨by decide +kernel, by decide +kernel⟩, List.mem_of_getElem? (i := 683) (by decide +kernel), List.mem_of_getElem? (i := 754) (by decide +kernel), List.mem_of_getElem? (i := 755) (by decide +kernel)⟩
theorem lw_p47 : lw_okq (⟨"BookRentalModel", "isCourse", "(I)Z"⟩, 11) := ⟨⟨by decide +kernel, by decide +kernel⟩, List.mem_of_getElem? (i := 683) (by decide +kernel), List.mem_of_getElem? (i := 769) (by decide +kernel), List.mem_of_getElem? (i := 770) (by decide +kernel)⟩
def lw_privs_3 : List (MethodName × Nat) := [(⟨"BookRental$Shop", "servedWith", "(I)I"⟩, 18), (⟨"BookRental$Shop", "stockOfEdition", "(II)I"⟩, 18), (⟨"BookRental$Shop", "studentsFrom", "(II)I"⟩, 18), (⟨"BookRental$OrderText", "skipBlanks", "()V"⟩, 7), (⟨"BookRental$OrderText", "readWord", "()I"⟩, 7), (⟨"BookRental$OrderText", "stands", "(Ljava/lang/String;I)Z"⟩, 7), (⟨"BookRental$OrderText", "readNumber", "()I"⟩, 7), (⟨"BookRental$OrderText", "here", "()I"⟩, 7), (⟨"BookRental$OrderText", "readEndOfOrder", "()I"⟩, 7), (⟨"BookRental", "carryOut", "()I"⟩, 3), (⟨"BookRentalModel", "saves", "()V"⟩, 11), (⟨"BookRentalModel", "copies", "(II)V"⟩, 11), (⟨"BookRentalModel", "isTitle", "(I)Z"⟩, 11), (⟨"BookRentalModel", "price", "(I)I"⟩, 11), (⟨"BookRentalModel", "current", "(I)I"⟩, 11), (⟨"BookRentalModel", "isCourse", "(I)Z"⟩, 11)]
theorem lw_r3 : ∀ q ∈ lw_privs_3, lw_okq q := List.forall_mem_cons.mpr ⟨lw_p32, List.forall_mem_cons.mpr ⟨lw_p33, List.forall_mem_cons.mpr ⟨lw_p34, List.forall_mem_cons.mpr ⟨lw_p35, List.forall_mem_cons.mpr ⟨lw_p36, List.forall_mem_cons.mpr ⟨lw_p37, List.forall_mem_cons.mpr ⟨lw_p38, List.forall_mem_cons.mpr ⟨lw_p39, List.forall_mem_cons.mpr ⟨lw_p40, List.forall_mem_cons.mpr ⟨lw_p41, List.forall_mem_cons.mpr ⟨lw_p42, List.forall_mem_cons.mpr ⟨lw_p43, List.forall_mem_cons.mpr ⟨lw_p44, List.forall_mem_cons.mpr ⟨lw_p45, List.forall_mem_cons.mpr ⟨lw_p46, List.forall_mem_cons.mpr ⟨lw_p47, fun _ h => absurd h List.not_mem_nil⟩⟩⟩⟩⟩⟩⟩⟩⟩⟩⟩⟩⟩⟩⟩⟩
theorem lw_p48 : lw_okq (⟨"BookRentalModel", "ofCourse", "(II)I"⟩, 11) := ⟨⟨by decide +kernel, by decide +kernel⟩, List.mem_of_getElem? (i := 683) (by decide +kernel), List.mem_of_getElem? (i := 773) (by decide +kernel), List.mem_of_getElem? (i := 774) (by decide +kernel)⟩
theorem lw_p49 : lw_okq (⟨"BookRentalModel", "number", "(I)I"⟩, 11) := ⟨⟨by decide +kernel, by decide +kernel⟩, List.mem_of_getElem? (i := 683) (by decide +kernel), List.mem_of_getElem? (i := 785) (by decide +kernel), List.mem_of_getElem? (i := 786) (by decide +kernel)⟩
theorem lw_p50 : lw_okq (⟨"BookRentalModel", "inState", "(I)I"⟩, 11) := ⟨⟨by decide +kernel, by decide +kernel⟩, List.mem_of_getElem? (i := 683) (by decide +kernel), List.mem_of_getElem? (i := 789) (by decide +kernel), List.mem_of_getElem? (i := 790) (by decide +kernel)⟩
theorem lw_p51 : lw_okq (⟨"BookRentalModel", "is", "(II)Z"⟩, 11) := ⟨⟨by decide +kernel, by decide +kernel⟩, List.mem_of_getElem? (i := 683) (by decide +kernel), List.mem_of_getElem? (i := 793) (by decide +kernel), List.mem_of_getElem? (i := 794) (by decide +kernel)⟩
theorem lw_p52 : lw_okq (⟨"BookRentalModel", "of", "(II)I"⟩, 11) := ⟨⟨by decide +kernel, by decide +kernel⟩, List.mem_of_getElem? (i := 683) (by decide +kernel), List.mem_of_getElem? (i := 797) (by decide +kernel), List.mem_of_getElem? (i := 798) (by decide +kernel)⟩
theorem lw_p53 : lw_okq (⟨"BookRentalModel", "titleNow", "(II)I"⟩, 11) := ⟨⟨by decide +kernel, by decide +kernel⟩, List.mem_of_getElem? (i := 683) (by decide +kernel), List.mem_of_getElem? (i := 805) (by decide +kernel), List.mem_of_getElem? (i := 806) (by decide +kernel)⟩
theorem lw_p54 : lw_okq (⟨"BookRentalModel", "demand", "(I)I"⟩, 11) := ⟨⟨by decide +kernel, by decide +kernel⟩, List.mem_of_getElem? (i := 683) (by decide +kernel), List.mem_of_getElem? (i := 809) (by decide +kernel), List.mem_of_getElem? (i := 810) (by decide +kernel)⟩
theorem lw_p55 : lw_okq (⟨"BookRentalModel", "supply", "(I)I"⟩, 11) := ⟨⟨by decide +kernel, by decide +kernel⟩, List.mem_of_getElem? (i := 683) (by decide +kernel), List.mem_of_getElem? (i := 813) (by decide +kernel), List.mem_of_getElem? (i := 814) (by decide +kernel)⟩
theorem lw_p56 : lw_okq (⟨"BookRentalModel", "isOfUse", "(II)Z"⟩, 11) := ⟨⟨by decide +kernel, by decide +kernel⟩, List.mem_of_getElem? (i := 683) (by decide +kernel), List.mem_of_getElem? (i := 817) (by decide +kernel), List.mem_of_getElem? (i := 818) (by decide +kernel)⟩
theorem lw_p57 : lw_okq (⟨"BookRentalModel", "ofTitle", "(II)I"⟩, 11) := ⟨⟨by decide +kernel, by decide +kernel⟩, List.mem_of_getElem? (i := 683) (by decide +kernel), List.mem_of_getElem? (i := 821) (by decide +kernel), List.mem_of_getElem? (i := 822) (by decide +kernel)⟩
theorem lw_p58 : lw_okq (⟨"BookRentalModel", "courseNow", "(II)I"⟩, 11) := ⟨⟨by decide +kernel, by decide +kernel⟩, List.mem_of_getElem? (i := 683) (by decide +kernel), List.mem_of_getElem? (i := 829) (by decide +kernel), List.mem_of_getElem? (i := 830) (by decide +kernel)⟩
theorem lw_p59 : lw_okq (⟨"BookRentalModel", "takes", "(II)Z"⟩, 11) := ⟨⟨by decide +kernel, by decide +kernel⟩, List.mem_of_getElem? (i := 683) (by decide +kernel), List.mem_of_getElem? (i := 833) (by decide +kernel), List.mem_of_getElem? (i := 834) (by decide +kernel)⟩
theorem lw_p60 : lw_okq (⟨"BookRentalModel", "isCopy", "(I)Z"⟩, 11) := ⟨⟨by decide +kernel, by decide +kernel⟩, List.mem_of_getElem? (i := 683) (by decide +kernel), List.mem_of_getElem? (i := 841) (by decide +kernel), List.mem_of_getElem? (i := 842) (by decide +kernel)⟩
theorem lw_p61 : lw_okq (⟨"BookRentalModel", "copyNow", "(II)I"⟩, 11) := ⟨⟨by decide +kernel, by decide +kernel⟩, List.mem_of_getElem? (i := 683) (by decide +kernel), List.mem_of_getElem? (i := 845) (by decide +kernel), List.mem_of_getElem? (i := 846) (by decide +kernel)⟩
theorem lw_p62 : lw_okq (⟨"BookRentalModel", "worthOf", "(I)I"⟩, 11) := ⟨⟨by decide +kernel, by decide +kernel⟩, List.mem_of_getElem? (i := 683) (by decide +kernel), List.mem_of_getElem? (i := 849) (by decide +kernel), List.mem_of_getElem? (i := 850) (by decide +kernel)⟩
theorem lw_p63 : lw_okq (⟨"BookRentalModel", "worth", "(III)I"⟩, 11) := ⟨⟨by decide +kernel, by decide +kernel⟩, List.mem_of_getElem? (i := 683) (by decide +kernel), List.mem_of_getElem? (i := 853) (by decide +kernel), List.mem_of_getElem? (i := 854) (by decide +kernel)⟩
def lw_privs_4 : List (MethodName × Nat) := [(⟨"BookRentalModel", "ofCourse", "(II)I"⟩, 11), (⟨"BookRentalModel", "number", "(I)I"⟩, 11), (⟨"BookRentalModel", "inState", "(I)I"⟩, 11), (⟨"BookRentalModel", "is", "(II)Z"⟩, 11), (⟨"BookRentalModel", "of", "(II)I"⟩, 11), (⟨"BookRentalModel", "titleNow", "(II)I"⟩, 11), (⟨"BookRentalModel", "demand", "(I)I"⟩, 11), (⟨"BookRentalModel", "supply", "(I)I"⟩, 11), (⟨"BookRentalModel", "isOfUse", "(II)Z"⟩, 11), (⟨"BookRentalModel", "ofTitle", "(II)I"⟩, 11), (⟨"BookRentalModel", "courseNow", "(II)I"⟩, 11), (⟨"BookRentalModel", "takes", "(II)Z"⟩, 11), (⟨"BookRentalModel", "isCopy", "(I)Z"⟩, 11), (⟨"BookRentalModel", "copyNow", "(II)I"⟩, 11), (⟨"BookRentalModel", "worthOf", "(I)I"⟩, 11), (⟨"BookRentalModel", "worth", "(III)I"⟩, 11)]
theorem lw_r4 : ∀ q ∈ lw_privs_4, lw_okq q := List.forall_mem_cons.mpr ⟨lw_p48, List.forall_mem_cons.mpr ⟨lw_p49, List.forall_mem_cons.mpr ⟨lw_p50, List.forall_mem_cons.mpr ⟨lw_p51, List.forall_mem_cons.mpr ⟨lw_p52, List.forall_mem_cons.mpr ⟨lw_p53, List.forall_mem_cons.mpr ⟨lw_p54, List.forall_mem_cons.mpr ⟨lw_p55, List.forall_mem_cons.mpr ⟨lw_p56, List.forall_mem_cons.mpr ⟨lw_p57, List.forall_mem_cons.mpr ⟨lw_p58, List.forall_mem_cons.mpr ⟨lw_p59, List.forall_mem_cons.mpr ⟨lw_p60, List.forall_mem_cons.mpr ⟨lw_p61, List.forall_mem_cons.mpr ⟨lw_p62, List.forall_mem_cons.mpr ⟨lw_p63, fun _ h => absurd h List.not_mem_nil⟩⟩⟩⟩⟩⟩⟩⟩⟩⟩⟩⟩⟩⟩⟩⟩
theorem lw_p64 : lw_okq (⟨"BookRentalModel", "late", "(I)I"⟩, 11) := ⟨⟨by decide +kernel, by decide +kernel⟩, List.mem_of_getElem? (i := 683) (by decide +kernel), List.mem_of_getElem? (i := 860) (by decide +kernel), List.mem_of_getElem? (i := 861) (by decide +kernel)⟩
theorem lw_p65 : lw_okq (⟨"BookRentalModel", "sum", "(I)I"⟩, 11) := ⟨⟨by decide +kernel, by decide +kernel⟩, List.mem_of_getElem? (i := 683) (by decide +kernel), List.mem_of_getElem? (i := 868) (by decide +kernel), List.mem_of_getElem? (i := 869) (by decide +kernel)⟩
theorem lw_p66 : lw_okq (⟨"BookRentalModel", "cannotBuy", "(II)I"⟩, 11) := ⟨⟨by decide +kernel, by decide +kernel⟩, List.mem_of_getElem? (i := 683) (by decide +kernel), List.mem_of_getElem? (i := 877) (by decide +kernel), List.mem_of_getElem? (i := 878) (by decide +kernel)⟩
theorem lw_p67 : lw_okq (⟨"BookRentalModel", "buys", "(II)I"⟩, 11) := ⟨⟨by decide +kernel, by decide +kernel⟩, List.mem_of_getElem? (i := 683) (by decide +kernel), List.mem_of_getElem? (i := 881) (by decide +kernel), List.mem_of_getElem? (i := 882) (by decide +kernel)⟩
theorem lw_p68 : lw_okq (⟨"BookRentalModel", "comes", "(III)V"⟩, 11) := ⟨⟨by decide +kernel, by decide +kernel⟩, List.mem_of_getElem? (i := 683) (by decide +kernel), List.mem_of_getElem? (i := 885) (by decide +kernel), List.mem_of_getElem? (i := 886) (by decide +kernel)⟩
theorem lw_p69 : lw_okq (⟨"BookRentalModel", "sets", "(III)V"⟩, 11) := ⟨⟨by decide +kernel, by decide +kernel⟩, List.mem_of_getElem? (i := 683) (by decide +kernel), List.mem_of_getElem? (i := 889) (by decide +kernel), List.mem_of_getElem? (i := 890) (by decide +kernel)⟩
theorem lw_p70 : lw_okq (⟨"BookRentalModel", "cannotOffer", "(III)I"⟩, 11) := ⟨⟨by decide +kernel, by decide +kernel⟩, List.mem_of_getElem? (i := 683) (by decide +kernel), List.mem_of_getElem? (i := 897) (by decide +kernel), List.mem_of_getElem? (i := 898) (by decide +kernel)⟩
theorem lw_p71 : lw_okq (⟨"BookRentalModel", "offered", "(III)I"⟩, 11) := ⟨⟨by decide +kernel, by decide +kernel⟩, List.mem_of_getElem? (i := 683) (by decide +kernel), List.mem_of_getElem? (i := 901) (by decide +kernel), List.mem_of_getElem? (i := 902) (by decide +kernel)⟩
theorem lw_p72 : lw_okq (⟨"BookRentalModel", "cannotSell", "(I)I"⟩, 11) := ⟨⟨by decide +kernel, by decide +kernel⟩, List.mem_of_getElem? (i := 683) (by decide +kernel), List.mem_of_getElem? (i := 913) (by decide +kernel), List.mem_of_getElem? (i := 914) (by decide +kernel)⟩
theorem lw_p73 : lw_okq (⟨"BookRentalModel", "sells", "(I)I"⟩, 11) := ⟨⟨by decide +kernel, by decide +kernel⟩, List.mem_of_getElem? (i := 683) (by decide +kernel), List.mem_of_getElem? (i := 917) (by decide +kernel), List.mem_of_getElem? (i := 918) (by decide +kernel)⟩
theorem lw_p74 : lw_okq (⟨"BookRentalModel", "goes", "(II)V"⟩, 11) := ⟨⟨by decide +kernel, by decide +kernel⟩, List.mem_of_getElem? (i := 683) (by decide +kernel), List.mem_of_getElem? (i := 921) (by decide +kernel), List.mem_of_getElem? (i := 922) (by decide +kernel)⟩
theorem lw_p75 : lw_okq (⟨"BookRentalModel", "cannotRent", "(II)I"⟩, 11) := ⟨⟨by decide +kernel, by decide +kernel⟩, List.mem_of_getElem? (i := 683) (by decide +kernel), List.mem_of_getElem? (i := 929) (by decide +kernel), List.mem_of_getElem? (i := 930) (by decide +kernel)⟩
theorem lw_p76 : lw_okq (⟨"BookRentalModel", "canRent", "(II)Z"⟩, 11) := ⟨⟨by decide +kernel, by decide +kernel⟩, List.mem_of_getElem? (i := 683) (by decide +kernel), List.mem_of_getElem? (i := 936) (by decide +kernel), List.mem_of_getElem? (i := 937) (by decide +kernel)⟩
theorem lw_p77 : lw_okq (⟨"BookRentalModel", "nextOf", "(I)I"⟩, 11) := ⟨⟨by decide +kernel, by decide +kernel⟩, List.mem_of_getElem? (i := 683) (by decide +kernel), List.mem_of_getElem? (i := 940) (by decide +kernel), List.mem_of_getElem? (i := 941) (by decide +kernel)⟩
theorem lw_p78 : lw_okq (⟨"BookRentalModel", "rents", "(II)I"⟩, 11) := ⟨⟨by decide +kernel, by decide +kernel⟩, List.mem_of_getElem? (i := 683) (by decide +kernel), List.mem_of_getElem? (i := 944) (by decide +kernel), List.mem_of_getElem? (i := 945) (by decide +kernel)⟩
theorem lw_p79 : lw_okq (⟨"BookRentalModel", "charges", "(III)V"⟩, 11) := ⟨⟨by decide +kernel, by decide +kernel⟩, List.mem_of_getElem? (i := 683) (by decide +kernel), List.mem_of_getElem? (i := 948) (by decide +kernel), List.mem_of_getElem? (i := 949) (by decide +kernel)⟩
def lw_privs_5 : List (MethodName × Nat) := [(⟨"BookRentalModel", "late", "(I)I"⟩, 11), (⟨"BookRentalModel", "sum", "(I)I"⟩, 11), (⟨"BookRentalModel", "cannotBuy", "(II)I"⟩, 11), (⟨"BookRentalModel", "buys", "(II)I"⟩, 11), (⟨"BookRentalModel", "comes", "(III)V"⟩, 11), (⟨"BookRentalModel", "sets", "(III)V"⟩, 11), (⟨"BookRentalModel", "cannotOffer", "(III)I"⟩, 11), (⟨"BookRentalModel", "offered", "(III)I"⟩, 11), (⟨"BookRentalModel", "cannotSell", "(I)I"⟩, 11), (⟨"BookRentalModel", "sells", "(I)I"⟩, 11), (⟨"BookRentalModel", "goes", "(II)V"⟩, 11), (⟨"BookRentalModel", "cannotRent", "(II)I"⟩, 11), (⟨"BookRentalModel", "canRent", "(II)Z"⟩, 11), (⟨"BookRentalModel", "nextOf", "(I)I"⟩, 11), (⟨"BookRentalModel", "rents", "(II)I"⟩, 11), (⟨"BookRentalModel", "charges", "(III)V"⟩, 11)]
theorem lw_r5 : ∀ q ∈ lw_privs_5, lw_okq q := List.forall_mem_cons.mpr ⟨lw_p64, List.forall_mem_cons.mpr ⟨lw_p65, List.forall_mem_cons.mpr ⟨lw_p66, List.forall_mem_cons.mpr ⟨lw_p67, List.forall_mem_cons.mpr ⟨lw_p68, List.forall_mem_cons.mpr ⟨lw_p69, List.forall_mem_cons.mpr ⟨lw_p70, List.forall_mem_cons.mpr ⟨lw_p71, List.forall_mem_cons.mpr ⟨lw_p72, List.forall_mem_cons.mpr ⟨lw_p73, List.forall_mem_cons.mpr ⟨lw_p74, List.forall_mem_cons.mpr ⟨lw_p75, List.forall_mem_cons.mpr ⟨lw_p76, List.forall_mem_cons.mpr ⟨lw_p77, List.forall_mem_cons.mpr ⟨lw_p78, List.forall_mem_cons.mpr ⟨lw_p79, fun _ h => absurd h List.not_mem_nil⟩⟩⟩⟩⟩⟩⟩⟩⟩⟩⟩⟩⟩⟩⟩⟩
theorem lw_p80 : lw_okq (⟨"BookRentalModel", "cannotGive", "(II)I"⟩, 11) := ⟨⟨by decide +kernel, by decide +kernel⟩, List.mem_of_getElem? (i := 683) (by decide +kernel), List.mem_of_getElem? (i := 960) (by decide +kernel), List.mem_of_getElem? (i := 961) (by decide +kernel)⟩
theorem lw_p81 : lw_okq (⟨"BookRentalModel", "gives", "(II)I"⟩, 11) := ⟨⟨by decide +kernel, by decide +kernel⟩, List.mem_of_getElem? (i := 683) (by decide +kernel), List.mem_of_getElem? (i := 964) (by decide +kernel), List.mem_of_getElem? (i := 965) (by decide +kernel)⟩
theorem lw_p82 : lw_okq (⟨"BookRentalModel", "lateCharge", "(I)I"⟩, 11) := ⟨⟨by decide +kernel, by decide +kernel⟩, List.mem_of_getElem? (i := 683) (by decide +kernel), List.mem_of_getElem? (i := 968) (by decide +kernel), List.mem_of_getElem? (i := 969) (by decide +kernel)⟩
theorem lw_p83 : lw_okq (⟨"BookRentalModel", "damageCharge", "(II)I"⟩, 11) := ⟨⟨by decide +kernel, by decide +kernel⟩, List.mem_of_getElem? (i := 683) (by decide +kernel), List.mem_of_getElem? (i := 972) (by decide +kernel), List.mem_of_getElem? (i := 973) (by decide +kernel)⟩
theorem lw_p84 : lw_okq (⟨"BookRentalModel", "cannotPass", "(I)I"⟩, 11) := ⟨⟨by decide +kernel, by decide +kernel⟩, List.mem_of_getElem? (i := 683) (by decide +kernel), List.mem_of_getElem? (i := 984) (by decide +kernel), List.mem_of_getElem? (i := 985) (by decide +kernel)⟩
theorem lw_p85 : lw_okq (⟨"BookRentalModel", "passes", "(I)I"⟩, 11) := ⟨⟨by decide +kernel, by decide +kernel⟩, List.mem_of_getElem? (i := 683) (by decide +kernel), List.mem_of_getElem? (i := 989) (by decide +kernel), List.mem_of_getElem? (i := 990) (by decide +kernel)⟩
theorem lw_p86 : lw_okq (⟨"BookRentalModel", "customerNow", "(II)I"⟩, 11) := ⟨⟨by decide +kernel, by decide +kernel⟩, List.mem_of_getElem? (i := 683) (by decide +kernel), List.mem_of_getElem? (i := 1001) (by decide +kernel), List.mem_of_getElem? (i := 1002) (by decide +kernel)⟩
theorem lw_p87 : lw_okq (⟨"BookRentalModel", "owned", "(I)I"⟩, 11) := ⟨⟨by decide +kernel, by decide +kernel⟩, List.mem_of_getElem? (i := 683) (by decide +kernel), List.mem_of_getElem? (i := 1013) (by decide +kernel), List.mem_of_getElem? (i := 1014) (by decide +kernel)⟩
theorem lw_p88 : lw_okq (⟨"BookRentalModel", "servedOf", "(I)I"⟩, 11) := ⟨⟨by decide +kernel, by decide +kernel⟩, List.mem_of_getElem? (i := 683) (by decide +kernel), List.mem_of_getElem? (i := 1021) (by decide +kernel), List.mem_of_getElem? (i := 1022) (by decide +kernel)⟩
theorem lw_p89 : lw_okq (⟨"BookRentalModel", "stockFrom", "(II)I"⟩, 11) := ⟨⟨by decide +kernel, by decide +kernel⟩, List.mem_of_getElem? (i := 683) (by decide +kernel), List.mem_of_getElem? (i := 1025) (by decide +kernel), List.mem_of_getElem? (i := 1026) (by decide +kernel)⟩
theorem lw_p90 : lw_okq (⟨"BookRentalModel", "readsText", "(Z)Z"⟩, 11) := ⟨⟨by decide +kernel, by decide +kernel⟩, List.mem_of_getElem? (i := 683) (by decide +kernel), List.mem_of_getElem? (i := 1045) (by decide +kernel), List.mem_of_getElem? (i := 1046) (by decide +kernel)⟩
theorem lw_p91 : lw_okq (⟨"BookRentalModel", "readsOrder", "(Z)Z"⟩, 11) := ⟨⟨by decide +kernel, by decide +kernel⟩, List.mem_of_getElem? (i := 683) (by decide +kernel), List.mem_of_getElem? (i := 1049) (by decide +kernel), List.mem_of_getElem? (i := 1050) (by decide +kernel)⟩
theorem lw_p92 : lw_okq (⟨"BookRentalModel", "order", "()I"⟩, 11) := ⟨⟨by decide +kernel, by decide +kernel⟩, List.mem_of_getElem? (i := 683) (by decide +kernel), List.mem_of_getElem? (i := 1053) (by decide +kernel), List.mem_of_getElem? (i := 1054) (by decide +kernel)⟩
theorem lw_p93 : lw_okq (⟨"BookRentalModel", "word", "()I"⟩, 11) := ⟨⟨by decide +kernel, by decide +kernel⟩, List.mem_of_getElem? (i := 683) (by decide +kernel), List.mem_of_getElem? (i := 1057) (by decide +kernel), List.mem_of_getElem? (i := 1058) (by decide +kernel)⟩
theorem lw_p94 : lw_okq (⟨"BookRentalModel", "here", "()I"⟩, 11) := ⟨⟨by decide +kernel, by decide +kernel⟩, List.mem_of_getElem? (i := 683) (by decide +kernel), List.mem_of_getElem? (i := 1061) (by decide +kernel), List.mem_of_getElem? (i := 1062) (by decide +kernel)⟩
theorem lw_p95 : lw_okq (⟨"BookRentalModel", "reads", "()Z"⟩, 11) := ⟨⟨by decide +kernel, by decide +kernel⟩, List.mem_of_getElem? (i := 683) (by decide +kernel), List.mem_of_getElem? (i := 1068) (by decide +kernel), List.mem_of_getElem? (i := 1069) (by decide +kernel)⟩
def lw_privs_6 : List (MethodName × Nat) := [(⟨"BookRentalModel", "cannotGive", "(II)I"⟩, 11), (⟨"BookRentalModel", "gives", "(II)I"⟩, 11), (⟨"BookRentalModel", "lateCharge", "(I)I"⟩, 11), (⟨"BookRentalModel", "damageCharge", "(II)I"⟩, 11), (⟨"BookRentalModel", "cannotPass", "(I)I"⟩, 11), (⟨"BookRentalModel", "passes", "(I)I"⟩, 11), (⟨"BookRentalModel", "customerNow", "(II)I"⟩, 11), (⟨"BookRentalModel", "owned", "(I)I"⟩, 11), (⟨"BookRentalModel", "servedOf", "(I)I"⟩, 11), (⟨"BookRentalModel", "stockFrom", "(II)I"⟩, 11), (⟨"BookRentalModel", "readsText", "(Z)Z"⟩, 11), (⟨"BookRentalModel", "readsOrder", "(Z)Z"⟩, 11), (⟨"BookRentalModel", "order", "()I"⟩, 11), (⟨"BookRentalModel", "word", "()I"⟩, 11), (⟨"BookRentalModel", "here", "()I"⟩, 11), (⟨"BookRentalModel", "reads", "()Z"⟩, 11)]
theorem lw_r6 : ∀ q ∈ lw_privs_6, lw_okq q := List.forall_mem_cons.mpr ⟨lw_p80, List.forall_mem_cons.mpr ⟨lw_p81, List.forall_mem_cons.mpr ⟨lw_p82, List.forall_mem_cons.mpr ⟨lw_p83, List.forall_mem_cons.mpr ⟨lw_p84, List.forall_mem_cons.mpr ⟨lw_p85, List.forall_mem_cons.mpr ⟨lw_p86, List.forall_mem_cons.mpr ⟨lw_p87, List.forall_mem_cons.mpr ⟨lw_p88, List.forall_mem_cons.mpr ⟨lw_p89, List.forall_mem_cons.mpr ⟨lw_p90, List.forall_mem_cons.mpr ⟨lw_p91, List.forall_mem_cons.mpr ⟨lw_p92, List.forall_mem_cons.mpr ⟨lw_p93, List.forall_mem_cons.mpr ⟨lw_p94, List.forall_mem_cons.mpr ⟨lw_p95, fun _ h => absurd h List.not_mem_nil⟩⟩⟩⟩⟩⟩⟩⟩⟩⟩⟩⟩⟩⟩⟩⟩
theorem lw_p96 : lw_okq (⟨"BookRentalModel", "carries", "(III)I"⟩, 11) := ⟨⟨by decide +kernel, by decide +kernel⟩, List.mem_of_getElem? (i := 683) (by decide +kernel), List.mem_of_getElem? (i := 1072) (by decide +kernel), List.mem_of_getElem? (i := 1073) (by decide +kernel)⟩
theorem lw_p97 : lw_okq (⟨"BookRentalModel", "note", "(I)V"⟩, 11) := ⟨⟨by decide +kernel, by decide +kernel⟩, List.mem_of_getElem? (i := 683) (by decide +kernel), List.mem_of_getElem? (i := 1085) (by decide +kernel), List.mem_of_getElem? (i := 1086) (by decide +kernel)⟩
def lw_privs_7 : List (MethodName × Nat) := [(⟨"BookRentalModel", "carries", "(III)I"⟩, 11), (⟨"BookRentalModel", "note", "(I)V"⟩, 11)]
theorem lw_r7 : ∀ q ∈ lw_privs_7, lw_okq q := List.forall_mem_cons.mpr ⟨lw_p96, List.forall_mem_cons.mpr ⟨lw_p97, fun _ h => absurd h List.not_mem_nil⟩⟩
def lw_privs : List (MethodName × Nat) := lw_privs_1 ++ (lw_privs_2 ++ (lw_privs_3 ++ (lw_privs_4 ++ (lw_privs_5 ++ (lw_privs_6 ++ (lw_privs_7))))))
def lw_tbl : List Cond := k2_sels lw_privs ++ tables_1
theorem lw_privs_ok : ∀ q ∈ lw_privs, lw_okq q := by
  show ∀ q ∈ lw_privs_1 ++ (lw_privs_2 ++ (lw_privs_3 ++ (lw_privs_4 ++ (lw_privs_5 ++ (lw_privs_6 ++ (lw_privs_7)))))), lw_okq q
  exact List.forall_mem_append.mpr ⟨lw_r1, List.forall_mem_append.mpr ⟨lw_r2, List.forall_mem_append.mpr ⟨lw_r3, List.forall_mem_append.mpr ⟨lw_r4, List.forall_mem_append.mpr ⟨lw_r5, List.forall_mem_append.mpr ⟨lw_r6, lw_r7⟩⟩⟩⟩⟩⟩
def RX0 : String := "BookRental$History"
def TX0 : u_T := fun k => match k with
  | 0 => ("BookRental$History", "ring", "[LBookRental$Shop;", true)
  | 1 => ("BookRental$History", "spare", "I", false)
  | _ => ("BookRental$History", "kept", "I", false)
def tyX0 : Nat → FieldType := fun k => match k with
  | 0 => .array (.object "BookRental$Shop")
  | 1 => .int
  | _ => .int
abbrev wsX00 : List Cond := u_ws RX0 TX0 3
theorem nmX0 : ∀ a, a < 3 → ∀ b, b < 3 → a ≠ b → (TX0 a).2.1 ≠ (TX0 b).2.1 := by decide +kernel
theorem tyX0_ok : ∀ k, k < 3 → parseFieldDescriptor (TX0 k).2.2.1 = some (tyX0 k) := by decide +kernel
abbrev cX0_init : ByteArray := prog_2_method_1_code
def yX0_init : MethodName := ⟨RX0, "<init>", "()V"⟩
abbrev cX0_prepare : ByteArray := prog_2_method_2_code
def yX0_prepare : MethodName := ⟨RX0, "prepare", "(LBookRental$Shop;)V"⟩
abbrev cX0_settle : ByteArray := prog_2_method_3_code
def yX0_settle : MethodName := ⟨RX0, "settle", "(I)I"⟩
abbrev cX0_restore : ByteArray := prog_2_method_4_code
def yX0_restore : MethodName := ⟨RX0, "restore", "(LBookRental$Shop;)I"⟩
def RX1 : String := "BookRental$OrderText"
def TX1 : u_T := fun k => match k with
  | 0 => ("BookRental$OrderText", "bytes", "[I", true)
  | 1 => ("BookRental$OrderText", "length", "I", false)
  | 2 => ("BookRental$OrderText", "at", "I", false)
  | 3 => ("BookRental$OrderText", "more", "Z", false)
  | 4 => ("BookRental$OrderText", "word", "I", false)
  | 5 => ("BookRental$OrderText", "first", "I", false)
  | _ => ("BookRental$OrderText", "second", "I", false)
def tyX1 : Nat → FieldType := fun k => match k with
  | 0 => .array .int
  | 1 => .int
  | 2 => .int
  | 3 => .boolean
  | 4 => .int
  | 5 => .int
  | _ => .int
abbrev wsX10 : List Cond := u_ws RX1 TX1 7
theorem nmX1 : ∀ a, a < 7 → ∀ b, b < 7 → a ≠ b → (TX1 a).2.1 ≠ (TX1 b).2.1 := by decide +kernel
theorem tyX1_ok : ∀ k, k < 7 → parseFieldDescriptor (TX1 k).2.2.1 = some (tyX1 k) := by decide +kernel
abbrev cX1_init : ByteArray := prog_3_method_1_code
def yX1_init : MethodName := ⟨RX1, "<init>", "()V"⟩
abbrev cX1_append : ByteArray := prog_3_method_2_code
def yX1_append : MethodName := ⟨RX1, "append", "(I)I"⟩
abbrev cX1_empty : ByteArray := prog_3_method_3_code
def yX1_empty : MethodName := ⟨RX1, "empty", "()I"⟩
abbrev cX1_faultOf : ByteArray := prog_3_method_4_code
def yX1_faultOf : MethodName := ⟨RX1, "faultOf", "()I"⟩
abbrev cX1_startReading : ByteArray := prog_3_method_5_code
def yX1_startReading : MethodName := ⟨RX1, "startReading", "()V"⟩
abbrev cX1_hasMore : ByteArray := prog_3_method_6_code
def yX1_hasMore : MethodName := ⟨RX1, "hasMore", "()Z"⟩
abbrev cX1_word : ByteArray := prog_3_method_7_code
def yX1_word : MethodName := ⟨RX1, "word", "()I"⟩
abbrev cX1_first : ByteArray := prog_3_method_8_code
def yX1_first : MethodName := ⟨RX1, "first", "()I"⟩
abbrev cX1_second : ByteArray := prog_3_method_9_code
def yX1_second : MethodName := ⟨RX1, "second", "()I"⟩
abbrev cX1_readOrder : ByteArray := prog_3_method_10_code
def yX1_readOrder : MethodName := ⟨RX1, "readOrder", "()I"⟩
abbrev cX1_readEndOfOrder : ByteArray := prog_3_method_11_code
def yX1_readEndOfOrder : MethodName := ⟨RX1, "readEndOfOrder", "()I"⟩
abbrev cX1_readWord : ByteArray := prog_3_method_12_code
def yX1_readWord : MethodName := ⟨RX1, "readWord", "()I"⟩
abbrev cX1_stands : ByteArray := prog_3_method_13_code
def yX1_stands : MethodName := ⟨RX1, "stands", "(Ljava/lang/String;I)Z"⟩
abbrev cX1_takesTwo : ByteArray := prog_3_method_14_code
def yX1_takesTwo : MethodName := ⟨RX1, "takesTwo", "(I)Z"⟩
abbrev cX1_readNumber : ByteArray := prog_3_method_15_code
def yX1_readNumber : MethodName := ⟨RX1, "readNumber", "()I"⟩
abbrev cX1_skipBlanks : ByteArray := prog_3_method_16_code
def yX1_skipBlanks : MethodName := ⟨RX1, "skipBlanks", "()V"⟩
abbrev cX1_here : ByteArray := prog_3_method_17_code
def yX1_here : MethodName := ⟨RX1, "here", "()I"⟩
def RX2 : String := "BookRental$Shop"
def TX2 : u_T := fun k => match k with
  | 0 => ("BookRental$Shop", "day", "I", false)
  | 1 => ("BookRental$Shop", "titles", "I", false)
  | 2 => ("BookRental$Shop", "courses", "I", false)
  | 3 => ("BookRental$Shop", "copies", "I", false)
  | 4 => ("BookRental$Shop", "settings", "[I", true)
  | 5 => ("BookRental$Shop", "price", "[I", true)
  | 6 => ("BookRental$Shop", "currentEdition", "[I", true)
  | 7 => ("BookRental$Shop", "titleOfCourse", "[I", true)
  | 8 => ("BookRental$Shop", "least", "[I", true)
  | 9 => ("BookRental$Shop", "students", "[I", true)
  | 10 => ("BookRental$Shop", "titleOfCopy", "[I", true)
  | 11 => ("BookRental$Shop", "edition", "[I", true)
  | 12 => ("BookRental$Shop", "grade", "[I", true)
  | 13 => ("BookRental$Shop", "state", "[I", true)
  | 14 => ("BookRental$Shop", "renter", "[I", true)
  | 15 => ("BookRental$Shop", "due", "[I", true)
  | 16 => ("BookRental$Shop", "sums", "[I", true)
  | _ => ("BookRental$Shop", "charged", "[I", true)
def tyX2 : Nat → FieldType := fun k => match k with
  | 0 => .int
  | 1 => .int
  | 2 => .int
  | 3 => .int
  | 4 => .array .int
  | 5 => .array .int
  | 6 => .array .int
  | 7 => .array .int
  | 8 => .array .int
  | 9 => .array .int
  | 10 => .array .int
  | 11 => .array .int
  | 12 => .array .int
  | 13 => .array .int
  | 14 => .array .int
  | 15 => .array .int
  | 16 => .array .int
  | _ => .array .int
abbrev wsX20 : List Cond := u_ws RX2 TX2 18
theorem nmX2 : ∀ a, a < 18 → ∀ b, b < 18 → a ≠ b → (TX2 a).2.1 ≠ (TX2 b).2.1 := by decide +kernel
theorem tyX2_ok : ∀ k, k < 18 → parseFieldDescriptor (TX2 k).2.2.1 = some (tyX2 k) := by decide +kernel
abbrev cX2_init : ByteArray := prog_4_method_1_code
def yX2_init : MethodName := ⟨RX2, "<init>", "()V"⟩
abbrev cX2_becomeLike : ByteArray := prog_4_method_2_code
def yX2_becomeLike : MethodName := ⟨RX2, "becomeLike", "(LBookRental$Shop;)V"⟩
abbrev cX2_fill : ByteArray := prog_4_method_3_code
def yX2_fill : MethodName := ⟨RX2, "fill", "([I[I)V"⟩
abbrev cX2_putTitle : ByteArray := prog_4_method_4_code
def yX2_putTitle : MethodName := ⟨RX2, "putTitle", "(II)I"⟩
abbrev cX2_changePrice : ByteArray := prog_4_method_5_code
def yX2_changePrice : MethodName := ⟨RX2, "changePrice", "(II)I"⟩
abbrev cX2_advanceEdition : ByteArray := prog_4_method_6_code
def yX2_advanceEdition : MethodName := ⟨RX2, "advanceEdition", "(I)I"⟩
abbrev cX2_putCourse : ByteArray := prog_4_method_7_code
def yX2_putCourse : MethodName := ⟨RX2, "putCourse", "(III)I"⟩
abbrev cX2_changeCourse : ByteArray := prog_4_method_8_code
def yX2_changeCourse : MethodName := ⟨RX2, "changeCourse", "(III)I"⟩
abbrev cX2_changeSetting : ByteArray := prog_4_method_9_code
def yX2_changeSetting : MethodName := ⟨RX2, "changeSetting", "(II)I"⟩
abbrev cX2_numberOf : ByteArray := prog_4_method_10_code
def yX2_numberOf : MethodName := ⟨RX2, "numberOf", "(I)I"⟩
abbrev cX2_titleProperty : ByteArray := prog_4_method_11_code
def yX2_titleProperty : MethodName := ⟨RX2, "titleProperty", "(II)I"⟩
abbrev cX2_courseProperty : ByteArray := prog_4_method_12_code
def yX2_courseProperty : MethodName := ⟨RX2, "courseProperty", "(II)I"⟩
abbrev cX2_copyProperty : ByteArray := prog_4_method_13_code
def yX2_copyProperty : MethodName := ⟨RX2, "copyProperty", "(II)I"⟩
abbrev cX2_sumOf : ByteArray := prog_4_method_14_code
def yX2_sumOf : MethodName := ⟨RX2, "sumOf", "(I)I"⟩
abbrev cX2_customerNumber : ByteArray := prog_4_method_15_code
def yX2_customerNumber : MethodName := ⟨RX2, "customerNumber", "(II)I"⟩
abbrev cX2_buyNew : ByteArray := prog_4_method_16_code
def yX2_buyNew : MethodName := ⟨RX2, "buyNew", "(II)I"⟩
abbrev cX2_offerFor : ByteArray := prog_4_method_17_code
def yX2_offerFor : MethodName := ⟨RX2, "offerFor", "(III)I"⟩
abbrev cX2_buyUsed : ByteArray := prog_4_method_18_code
def yX2_buyUsed : MethodName := ⟨RX2, "buyUsed", "(III)I"⟩
abbrev cX2_sellCopy : ByteArray := prog_4_method_19_code
def yX2_sellCopy : MethodName := ⟨RX2, "sellCopy", "(I)I"⟩
abbrev cX2_putCopy : ByteArray := prog_4_method_20_code
def yX2_putCopy : MethodName := ⟨RX2, "putCopy", "(III)V"⟩
abbrev cX2_rentCopy : ByteArray := prog_4_method_21_code
def yX2_rentCopy : MethodName := ⟨RX2, "rentCopy", "(II)I"⟩
abbrev cX2_nextCopy : ByteArray := prog_4_method_22_code
def yX2_nextCopy : MethodName := ⟨RX2, "nextCopy", "(I)I"⟩
abbrev cX2_chargeFor : ByteArray := prog_4_method_23_code
def yX2_chargeFor : MethodName := ⟨RX2, "chargeFor", "(III)I"⟩
abbrev cX2_takeBack : ByteArray := prog_4_method_24_code
def yX2_takeBack : MethodName := ⟨RX2, "takeBack", "(II)I"⟩
abbrev cX2_passDays : ByteArray := prog_4_method_25_code
def yX2_passDays : MethodName := ⟨RX2, "passDays", "(I)I"⟩
abbrev cX2_bestFor : ByteArray := prog_4_method_26_code
def yX2_bestFor : MethodName := ⟨RX2, "bestFor", "(I)I"⟩
abbrev cX2_goesAhead : ByteArray := prog_4_method_27_code
def yX2_goesAhead : MethodName := ⟨RX2, "goesAhead", "(II)Z"⟩
abbrev cX2_canRent : ByteArray := prog_4_method_28_code
def yX2_canRent : MethodName := ⟨RX2, "canRent", "(II)Z"⟩
abbrev cX2_lateCharge : ByteArray := prog_4_method_29_code
def yX2_lateCharge : MethodName := ⟨RX2, "lateCharge", "(I)I"⟩
abbrev cX2_damageCharge : ByteArray := prog_4_method_30_code
def yX2_damageCharge : MethodName := ⟨RX2, "damageCharge", "(II)I"⟩
abbrev cX2_isRuinedBy : ByteArray := prog_4_method_31_code
def yX2_isRuinedBy : MethodName := ⟨RX2, "isRuinedBy", "(II)Z"⟩
abbrev cX2_isLostOn : ByteArray := prog_4_method_32_code
def yX2_isLostOn : MethodName := ⟨RX2, "isLostOn", "(II)Z"⟩
abbrev cX2_daysLate : ByteArray := prog_4_method_33_code
def yX2_daysLate : MethodName := ⟨RX2, "daysLate", "(I)I"⟩
abbrev cX2_isRentedBy : ByteArray := prog_4_method_34_code
def yX2_isRentedBy : MethodName := ⟨RX2, "isRentedBy", "(II)Z"⟩
abbrev cX2_rentedBy : ByteArray := prog_4_method_35_code
def yX2_rentedBy : MethodName := ⟨RX2, "rentedBy", "(I)I"⟩
abbrev cX2_lateBy : ByteArray := prog_4_method_36_code
def yX2_lateBy : MethodName := ⟨RX2, "lateBy", "(I)I"⟩
abbrev cX2_countShelf : ByteArray := prog_4_method_37_code
def yX2_countShelf : MethodName := ⟨RX2, "countShelf", "(II)I"⟩
abbrev cX2_loseSight : ByteArray := prog_4_method_38_code
def yX2_loseSight : MethodName := ⟨RX2, "loseSight", "(II)V"⟩
abbrev cX2_findAgain : ByteArray := prog_4_method_39_code
def yX2_findAgain : MethodName := ⟨RX2, "findAgain", "(II)V"⟩
abbrev cX2_lostAfter : ByteArray := prog_4_method_40_code
def yX2_lostAfter : MethodName := ⟨RX2, "lostAfter", "(I)I"⟩
abbrev cX2_agingBy : ByteArray := prog_4_method_41_code
def yX2_agingBy : MethodName := ⟨RX2, "agingBy", "(I)I"⟩
abbrev cX2_servedStudents : ByteArray := prog_4_method_42_code
def yX2_servedStudents : MethodName := ⟨RX2, "servedStudents", "()I"⟩
abbrev cX2_servedWith : ByteArray := prog_4_method_43_code
def yX2_servedWith : MethodName := ⟨RX2, "servedWith", "(I)I"⟩
abbrev cX2_stockOfEdition : ByteArray := prog_4_method_44_code
def yX2_stockOfEdition : MethodName := ⟨RX2, "stockOfEdition", "(II)I"⟩
abbrev cX2_studentsFrom : ByteArray := prog_4_method_45_code
def yX2_studentsFrom : MethodName := ⟨RX2, "studentsFrom", "(II)I"⟩
abbrev cX2_worthOf : ByteArray := prog_4_method_46_code
def yX2_worthOf : MethodName := ⟨RX2, "worthOf", "(I)I"⟩
abbrev cX2_worthWithGrade : ByteArray := prog_4_method_47_code
def yX2_worthWithGrade : MethodName := ⟨RX2, "worthWithGrade", "(II)I"⟩
abbrev cX2_worthBy : ByteArray := prog_4_method_48_code
def yX2_worthBy : MethodName := ⟨RX2, "worthBy", "(IIII)I"⟩
abbrev cX2_rentCost : ByteArray := prog_4_method_49_code
def yX2_rentCost : MethodName := ⟨RX2, "rentCost", "(I)I"⟩
abbrev cX2_saleCost : ByteArray := prog_4_method_50_code
def yX2_saleCost : MethodName := ⟨RX2, "saleCost", "(I)I"⟩
abbrev cX2_demandOf : ByteArray := prog_4_method_51_code
def yX2_demandOf : MethodName := ⟨RX2, "demandOf", "(I)I"⟩
abbrev cX2_supplyOf : ByteArray := prog_4_method_52_code
def yX2_supplyOf : MethodName := ⟨RX2, "supplyOf", "(I)I"⟩
abbrev cX2_isOfUse : ByteArray := prog_4_method_53_code
def yX2_isOfUse : MethodName := ⟨RX2, "isOfUse", "(II)Z"⟩
abbrev cX2_takes : ByteArray := prog_4_method_54_code
def yX2_takes : MethodName := ⟨RX2, "takes", "(III)Z"⟩
abbrev cX2_suits : ByteArray := prog_4_method_55_code
def yX2_suits : MethodName := ⟨RX2, "suits", "(II)Z"⟩
abbrev cX2_stockFor : ByteArray := prog_4_method_56_code
def yX2_stockFor : MethodName := ⟨RX2, "stockFor", "(I)I"⟩
abbrev cX2_copiesIn : ByteArray := prog_4_method_57_code
def yX2_copiesIn : MethodName := ⟨RX2, "copiesIn", "(I)I"⟩
abbrev cX2_copiesOf : ByteArray := prog_4_method_58_code
def yX2_copiesOf : MethodName := ⟨RX2, "copiesOf", "(I)I"⟩
abbrev cX2_copiesOfIn : ByteArray := prog_4_method_59_code
def yX2_copiesOfIn : MethodName := ⟨RX2, "copiesOfIn", "(II)I"⟩
abbrev cX2_isOwned : ByteArray := prog_4_method_60_code
def yX2_isOwned : MethodName := ⟨RX2, "isOwned", "(I)Z"⟩
abbrev cX2_hasTitle : ByteArray := prog_4_method_61_code
def yX2_hasTitle : MethodName := ⟨RX2, "hasTitle", "(I)Z"⟩
abbrev cX2_hasCourse : ByteArray := prog_4_method_62_code
def yX2_hasCourse : MethodName := ⟨RX2, "hasCourse", "(I)Z"⟩
abbrev cX2_hasCopy : ByteArray := prog_4_method_63_code
def yX2_hasCopy : MethodName := ⟨RX2, "hasCopy", "(I)Z"⟩
abbrev cX2_hasCustomer : ByteArray := prog_4_method_64_code
def yX2_hasCustomer : MethodName := ⟨RX2, "hasCustomer", "(I)Z"⟩
abbrev cX2_isPrice : ByteArray := prog_4_method_65_code
def yX2_isPrice : MethodName := ⟨RX2, "isPrice", "(I)Z"⟩
abbrev cX2_isEdition : ByteArray := prog_4_method_66_code
def yX2_isEdition : MethodName := ⟨RX2, "isEdition", "(I)Z"⟩
abbrev cX2_isGrade : ByteArray := prog_4_method_67_code
def yX2_isGrade : MethodName := ⟨RX2, "isGrade", "(I)Z"⟩
abbrev cX2_isBetween : ByteArray := prog_4_method_68_code
def yX2_isBetween : MethodName := ⟨RX2, "isBetween", "(III)Z"⟩
def RX3 : String := "BookRental"
def TX3 : u_T := fun k => match k with
  | 0 => ("BookRental", "shop", "LBookRental$Shop;", true)
  | 1 => ("BookRental", "history", "LBookRental$History;", true)
  | _ => ("BookRental", "text", "LBookRental$OrderText;", true)
def tyX3 : Nat → FieldType := fun k => match k with
  | 0 => .object "BookRental$Shop"
  | 1 => .object "BookRental$History"
  | _ => .object "BookRental$OrderText"
abbrev wsX30 : List Cond := u_ws RX3 TX3 3
theorem nmX3 : ∀ a, a < 3 → ∀ b, b < 3 → a ≠ b → (TX3 a).2.1 ≠ (TX3 b).2.1 := by decide +kernel
theorem tyX3_ok : ∀ k, k < 3 → parseFieldDescriptor (TX3 k).2.2.1 = some (tyX3 k) := by decide +kernel
abbrev cX3_init : ByteArray := prog_1_method_1_code
def yX3_init : MethodName := ⟨RX3, "<init>", "()V"⟩
abbrev cX3_addTitle : ByteArray := prog_1_method_2_code
def yX3_addTitle : MethodName := ⟨RX3, "addTitle", "(II)I"⟩
abbrev cX3_setPrice : ByteArray := prog_1_method_3_code
def yX3_setPrice : MethodName := ⟨RX3, "setPrice", "(II)I"⟩
abbrev cX3_newEdition : ByteArray := prog_1_method_4_code
def yX3_newEdition : MethodName := ⟨RX3, "newEdition", "(I)I"⟩
abbrev cX3_addCourse : ByteArray := prog_1_method_5_code
def yX3_addCourse : MethodName := ⟨RX3, "addCourse", "(III)I"⟩
abbrev cX3_setCourse : ByteArray := prog_1_method_6_code
def yX3_setCourse : MethodName := ⟨RX3, "setCourse", "(III)I"⟩
abbrev cX3_set : ByteArray := prog_1_method_7_code
def yX3_set : MethodName := ⟨RX3, "set", "(II)I"⟩
abbrev cX3_count : ByteArray := prog_1_method_8_code
def yX3_count : MethodName := ⟨RX3, "count", "(I)I"⟩
abbrev cX3_title : ByteArray := prog_1_method_9_code
def yX3_title : MethodName := ⟨RX3, "title", "(II)I"⟩
abbrev cX3_course : ByteArray := prog_1_method_10_code
def yX3_course : MethodName := ⟨RX3, "course", "(II)I"⟩
abbrev cX3_copy : ByteArray := prog_1_method_11_code
def yX3_copy : MethodName := ⟨RX3, "copy", "(II)I"⟩
abbrev cX3_book : ByteArray := prog_1_method_12_code
def yX3_book : MethodName := ⟨RX3, "book", "(I)I"⟩
abbrev cX3_buy : ByteArray := prog_1_method_13_code
def yX3_buy : MethodName := ⟨RX3, "buy", "(II)I"⟩
abbrev cX3_offer : ByteArray := prog_1_method_14_code
def yX3_offer : MethodName := ⟨RX3, "offer", "(III)I"⟩
abbrev cX3_buyBack : ByteArray := prog_1_method_15_code
def yX3_buyBack : MethodName := ⟨RX3, "buyBack", "(III)I"⟩
abbrev cX3_sell : ByteArray := prog_1_method_16_code
def yX3_sell : MethodName := ⟨RX3, "sell", "(I)I"⟩
abbrev cX3_rent : ByteArray := prog_1_method_17_code
def yX3_rent : MethodName := ⟨RX3, "rent", "(II)I"⟩
abbrev cX3_next : ByteArray := prog_1_method_18_code
def yX3_next : MethodName := ⟨RX3, "next", "(I)I"⟩
abbrev cX3_giveBack : ByteArray := prog_1_method_19_code
def yX3_giveBack : MethodName := ⟨RX3, "giveBack", "(II)I"⟩
abbrev cX3_charge : ByteArray := prog_1_method_20_code
def yX3_charge : MethodName := ⟨RX3, "charge", "(III)I"⟩
abbrev cX3_pass : ByteArray := prog_1_method_21_code
def yX3_pass : MethodName := ⟨RX3, "pass", "(I)I"⟩
abbrev cX3_shelf : ByteArray := prog_1_method_22_code
def yX3_shelf : MethodName := ⟨RX3, "shelf", "(II)I"⟩
abbrev cX3_customer : ByteArray := prog_1_method_23_code
def yX3_customer : MethodName := ⟨RX3, "customer", "(II)I"⟩
abbrev cX3_lostIn : ByteArray := prog_1_method_24_code
def yX3_lostIn : MethodName := ⟨RX3, "lostIn", "(I)I"⟩
abbrev cX3_agingOf : ByteArray := prog_1_method_25_code
def yX3_agingOf : MethodName := ⟨RX3, "agingOf", "(I)I"⟩
abbrev cX3_served : ByteArray := prog_1_method_26_code
def yX3_served : MethodName := ⟨RX3, "served", "()I"⟩
abbrev cX3_undo : ByteArray := prog_1_method_27_code
def yX3_undo : MethodName := ⟨RX3, "undo", "()I"⟩
abbrev cX3_type : ByteArray := prog_1_method_28_code
def yX3_type : MethodName := ⟨RX3, "type", "(I)I"⟩
abbrev cX3_clearText : ByteArray := prog_1_method_29_code
def yX3_clearText : MethodName := ⟨RX3, "clearText", "()I"⟩
abbrev cX3_textFault : ByteArray := prog_1_method_30_code
def yX3_textFault : MethodName := ⟨RX3, "textFault", "()I"⟩
abbrev cX3_orders : ByteArray := prog_1_method_31_code
def yX3_orders : MethodName := ⟨RX3, "orders", "()I"⟩
abbrev cX3_digest : ByteArray := prog_1_method_32_code
def yX3_digest : MethodName := ⟨RX3, "digest", "()J"⟩
abbrev cX3_carryOut : ByteArray := prog_1_method_33_code
def yX3_carryOut : MethodName := ⟨RX3, "carryOut", "()I"⟩
def RX4 : String := "BookRentalModel"
def TX4 : u_T := fun k => match k with
  | 0 => ("BookRentalModel", "row", "[I", true)
  | 1 => ("BookRentalModel", "saved", "I", false)
  | 2 => ("BookRentalModel", "least", "[I", true)
  | 3 => ("BookRentalModel", "most", "[I", true)
  | 4 => ("BookRentalModel", "text", "[I", true)
  | 5 => ("BookRentalModel", "length", "I", false)
  | 6 => ("BookRentalModel", "at", "I", false)
  | 7 => ("BookRentalModel", "read", "I", false)
  | 8 => ("BookRentalModel", "done", "I", false)
  | 9 => ("BookRentalModel", "goesOn", "Z", false)
  | _ => ("BookRentalModel", "h", "J", false)
def tyX4 : Nat → FieldType := fun k => match k with
  | 0 => .array .int
  | 1 => .int
  | 2 => .array .int
  | 3 => .array .int
  | 4 => .array .int
  | 5 => .int
  | 6 => .int
  | 7 => .int
  | 8 => .int
  | 9 => .boolean
  | _ => .long
abbrev wsX40 : List Cond := u_ws RX4 TX4 11
theorem nmX4 : ∀ a, a < 11 → ∀ b, b < 11 → a ≠ b → (TX4 a).2.1 ≠ (TX4 b).2.1 := by decide +kernel
theorem tyX4_ok : ∀ k, k < 11 → parseFieldDescriptor (TX4 k).2.2.1 = some (tyX4 k) := by decide +kernel
abbrev cX4_init : ByteArray := prog_6_method_1_code
def yX4_init : MethodName := ⟨RX4, "<init>", "()V"⟩
abbrev cX4_in : ByteArray := prog_6_method_2_code
def yX4_in : MethodName := ⟨RX4, "in", "(III)Z"⟩
abbrev cX4_lesser : ByteArray := prog_6_method_3_code
def yX4_lesser : MethodName := ⟨RX4, "lesser", "(II)I"⟩
abbrev cX4_copies : ByteArray := prog_6_method_4_code
def yX4_copies : MethodName := ⟨RX4, "copies", "(II)V"⟩
abbrev cX4_saves : ByteArray := prog_6_method_5_code
def yX4_saves : MethodName := ⟨RX4, "saves", "()V"⟩
abbrev cX4_isTitle : ByteArray := prog_6_method_6_code
def yX4_isTitle : MethodName := ⟨RX4, "isTitle", "(I)Z"⟩
abbrev cX4_isCourse : ByteArray := prog_6_method_7_code
def yX4_isCourse : MethodName := ⟨RX4, "isCourse", "(I)Z"⟩
abbrev cX4_isCopy : ByteArray := prog_6_method_8_code
def yX4_isCopy : MethodName := ⟨RX4, "isCopy", "(I)Z"⟩
abbrev cX4_isCustomer : ByteArray := prog_6_method_9_code
def yX4_isCustomer : MethodName := ⟨RX4, "isCustomer", "(I)Z"⟩
abbrev cX4_price : ByteArray := prog_6_method_10_code
def yX4_price : MethodName := ⟨RX4, "price", "(I)I"⟩
abbrev cX4_current : ByteArray := prog_6_method_11_code
def yX4_current : MethodName := ⟨RX4, "current", "(I)I"⟩
abbrev cX4_ofCourse : ByteArray := prog_6_method_12_code
def yX4_ofCourse : MethodName := ⟨RX4, "ofCourse", "(II)I"⟩
abbrev cX4_of : ByteArray := prog_6_method_13_code
def yX4_of : MethodName := ⟨RX4, "of", "(II)I"⟩
abbrev cX4_sets : ByteArray := prog_6_method_14_code
def yX4_sets : MethodName := ⟨RX4, "sets", "(III)V"⟩
abbrev cX4_is : ByteArray := prog_6_method_15_code
def yX4_is : MethodName := ⟨RX4, "is", "(II)Z"⟩
abbrev cX4_worth : ByteArray := prog_6_method_16_code
def yX4_worth : MethodName := ⟨RX4, "worth", "(III)I"⟩
abbrev cX4_worthOf : ByteArray := prog_6_method_17_code
def yX4_worthOf : MethodName := ⟨RX4, "worthOf", "(I)I"⟩
abbrev cX4_isOfUse : ByteArray := prog_6_method_18_code
def yX4_isOfUse : MethodName := ⟨RX4, "isOfUse", "(II)Z"⟩
abbrev cX4_demand : ByteArray := prog_6_method_19_code
def yX4_demand : MethodName := ⟨RX4, "demand", "(I)I"⟩
abbrev cX4_supply : ByteArray := prog_6_method_20_code
def yX4_supply : MethodName := ⟨RX4, "supply", "(I)I"⟩
abbrev cX4_inState : ByteArray := prog_6_method_21_code
def yX4_inState : MethodName := ⟨RX4, "inState", "(I)I"⟩
abbrev cX4_ofTitle : ByteArray := prog_6_method_22_code
def yX4_ofTitle : MethodName := ⟨RX4, "ofTitle", "(II)I"⟩
abbrev cX4_addTitle : ByteArray := prog_6_method_23_code
def yX4_addTitle : MethodName := ⟨RX4, "addTitle", "(II)I"⟩
abbrev cX4_setPrice : ByteArray := prog_6_method_24_code
def yX4_setPrice : MethodName := ⟨RX4, "setPrice", "(II)I"⟩
abbrev cX4_newEdition : ByteArray := prog_6_method_25_code
def yX4_newEdition : MethodName := ⟨RX4, "newEdition", "(I)I"⟩
abbrev cX4_isCourseLike : ByteArray := prog_6_method_26_code
def yX4_isCourseLike : MethodName := ⟨RX4, "isCourseLike", "(II)Z"⟩
abbrev cX4_addCourse : ByteArray := prog_6_method_27_code
def yX4_addCourse : MethodName := ⟨RX4, "addCourse", "(III)I"⟩
abbrev cX4_setCourse : ByteArray := prog_6_method_28_code
def yX4_setCourse : MethodName := ⟨RX4, "setCourse", "(III)I"⟩
abbrev cX4_set : ByteArray := prog_6_method_29_code
def yX4_set : MethodName := ⟨RX4, "set", "(II)I"⟩
abbrev cX4_number : ByteArray := prog_6_method_30_code
def yX4_number : MethodName := ⟨RX4, "number", "(I)I"⟩
abbrev cX4_count : ByteArray := prog_6_method_31_code
def yX4_count : MethodName := ⟨RX4, "count", "(I)I"⟩
abbrev cX4_titleNow : ByteArray := prog_6_method_32_code
def yX4_titleNow : MethodName := ⟨RX4, "titleNow", "(II)I"⟩
abbrev cX4_title : ByteArray := prog_6_method_33_code
def yX4_title : MethodName := ⟨RX4, "title", "(II)I"⟩
abbrev cX4_takes : ByteArray := prog_6_method_34_code
def yX4_takes : MethodName := ⟨RX4, "takes", "(II)Z"⟩
abbrev cX4_courseNow : ByteArray := prog_6_method_35_code
def yX4_courseNow : MethodName := ⟨RX4, "courseNow", "(II)I"⟩
abbrev cX4_course : ByteArray := prog_6_method_36_code
def yX4_course : MethodName := ⟨RX4, "course", "(II)I"⟩
abbrev cX4_late : ByteArray := prog_6_method_37_code
def yX4_late : MethodName := ⟨RX4, "late", "(I)I"⟩
abbrev cX4_copyNow : ByteArray := prog_6_method_38_code
def yX4_copyNow : MethodName := ⟨RX4, "copyNow", "(II)I"⟩
abbrev cX4_copy : ByteArray := prog_6_method_39_code
def yX4_copy : MethodName := ⟨RX4, "copy", "(II)I"⟩
abbrev cX4_sum : ByteArray := prog_6_method_40_code
def yX4_sum : MethodName := ⟨RX4, "sum", "(I)I"⟩
abbrev cX4_book : ByteArray := prog_6_method_41_code
def yX4_book : MethodName := ⟨RX4, "book", "(I)I"⟩
abbrev cX4_comes : ByteArray := prog_6_method_42_code
def yX4_comes : MethodName := ⟨RX4, "comes", "(III)V"⟩
abbrev cX4_goes : ByteArray := prog_6_method_43_code
def yX4_goes : MethodName := ⟨RX4, "goes", "(II)V"⟩
abbrev cX4_cannotBuy : ByteArray := prog_6_method_44_code
def yX4_cannotBuy : MethodName := ⟨RX4, "cannotBuy", "(II)I"⟩
abbrev cX4_buys : ByteArray := prog_6_method_45_code
def yX4_buys : MethodName := ⟨RX4, "buys", "(II)I"⟩
abbrev cX4_buy : ByteArray := prog_6_method_46_code
def yX4_buy : MethodName := ⟨RX4, "buy", "(II)I"⟩
abbrev cX4_offered : ByteArray := prog_6_method_47_code
def yX4_offered : MethodName := ⟨RX4, "offered", "(III)I"⟩
abbrev cX4_cannotOffer : ByteArray := prog_6_method_48_code
def yX4_cannotOffer : MethodName := ⟨RX4, "cannotOffer", "(III)I"⟩
abbrev cX4_offer : ByteArray := prog_6_method_49_code
def yX4_offer : MethodName := ⟨RX4, "offer", "(III)I"⟩
abbrev cX4_buyBack : ByteArray := prog_6_method_50_code
def yX4_buyBack : MethodName := ⟨RX4, "buyBack", "(III)I"⟩
abbrev cX4_cannotSell : ByteArray := prog_6_method_51_code
def yX4_cannotSell : MethodName := ⟨RX4, "cannotSell", "(I)I"⟩
abbrev cX4_sells : ByteArray := prog_6_method_52_code
def yX4_sells : MethodName := ⟨RX4, "sells", "(I)I"⟩
abbrev cX4_sell : ByteArray := prog_6_method_53_code
def yX4_sell : MethodName := ⟨RX4, "sell", "(I)I"⟩
abbrev cX4_nextOf : ByteArray := prog_6_method_54_code
def yX4_nextOf : MethodName := ⟨RX4, "nextOf", "(I)I"⟩
abbrev cX4_canRent : ByteArray := prog_6_method_55_code
def yX4_canRent : MethodName := ⟨RX4, "canRent", "(II)Z"⟩
abbrev cX4_cannotRent : ByteArray := prog_6_method_56_code
def yX4_cannotRent : MethodName := ⟨RX4, "cannotRent", "(II)I"⟩
abbrev cX4_charges : ByteArray := prog_6_method_57_code
def yX4_charges : MethodName := ⟨RX4, "charges", "(III)V"⟩
abbrev cX4_rents : ByteArray := prog_6_method_58_code
def yX4_rents : MethodName := ⟨RX4, "rents", "(II)I"⟩
abbrev cX4_rent : ByteArray := prog_6_method_59_code
def yX4_rent : MethodName := ⟨RX4, "rent", "(II)I"⟩
abbrev cX4_next : ByteArray := prog_6_method_60_code
def yX4_next : MethodName := ⟨RX4, "next", "(I)I"⟩
abbrev cX4_lateCharge : ByteArray := prog_6_method_61_code
def yX4_lateCharge : MethodName := ⟨RX4, "lateCharge", "(I)I"⟩
abbrev cX4_damageCharge : ByteArray := prog_6_method_62_code
def yX4_damageCharge : MethodName := ⟨RX4, "damageCharge", "(II)I"⟩
abbrev cX4_cannotGive : ByteArray := prog_6_method_63_code
def yX4_cannotGive : MethodName := ⟨RX4, "cannotGive", "(II)I"⟩
abbrev cX4_gives : ByteArray := prog_6_method_64_code
def yX4_gives : MethodName := ⟨RX4, "gives", "(II)I"⟩
abbrev cX4_giveBack : ByteArray := prog_6_method_65_code
def yX4_giveBack : MethodName := ⟨RX4, "giveBack", "(II)I"⟩
abbrev cX4_charge : ByteArray := prog_6_method_66_code
def yX4_charge : MethodName := ⟨RX4, "charge", "(III)I"⟩
abbrev cX4_cannotPass : ByteArray := prog_6_method_67_code
def yX4_cannotPass : MethodName := ⟨RX4, "cannotPass", "(I)I"⟩
abbrev cX4_passes : ByteArray := prog_6_method_68_code
def yX4_passes : MethodName := ⟨RX4, "passes", "(I)I"⟩
abbrev cX4_pass : ByteArray := prog_6_method_69_code
def yX4_pass : MethodName := ⟨RX4, "pass", "(I)I"⟩
abbrev cX4_shelf : ByteArray := prog_6_method_70_code
def yX4_shelf : MethodName := ⟨RX4, "shelf", "(II)I"⟩
abbrev cX4_customerNow : ByteArray := prog_6_method_71_code
def yX4_customerNow : MethodName := ⟨RX4, "customerNow", "(II)I"⟩
abbrev cX4_customer : ByteArray := prog_6_method_72_code
def yX4_customer : MethodName := ⟨RX4, "customer", "(II)I"⟩
abbrev cX4_lostIn : ByteArray := prog_6_method_73_code
def yX4_lostIn : MethodName := ⟨RX4, "lostIn", "(I)I"⟩
abbrev cX4_owned : ByteArray := prog_6_method_74_code
def yX4_owned : MethodName := ⟨RX4, "owned", "(I)I"⟩
abbrev cX4_agingOf : ByteArray := prog_6_method_75_code
def yX4_agingOf : MethodName := ⟨RX4, "agingOf", "(I)I"⟩
abbrev cX4_stockFrom : ByteArray := prog_6_method_76_code
def yX4_stockFrom : MethodName := ⟨RX4, "stockFrom", "(II)I"⟩
abbrev cX4_servedOf : ByteArray := prog_6_method_77_code
def yX4_servedOf : MethodName := ⟨RX4, "servedOf", "(I)I"⟩
abbrev cX4_served : ByteArray := prog_6_method_78_code
def yX4_served : MethodName := ⟨RX4, "served", "()I"⟩
abbrev cX4_undo : ByteArray := prog_6_method_79_code
def yX4_undo : MethodName := ⟨RX4, "undo", "()I"⟩
abbrev cX4_type : ByteArray := prog_6_method_80_code
def yX4_type : MethodName := ⟨RX4, "type", "(I)I"⟩
abbrev cX4_clearText : ByteArray := prog_6_method_81_code
def yX4_clearText : MethodName := ⟨RX4, "clearText", "()I"⟩
abbrev cX4_here : ByteArray := prog_6_method_82_code
def yX4_here : MethodName := ⟨RX4, "here", "()I"⟩
abbrev cX4_reads : ByteArray := prog_6_method_83_code
def yX4_reads : MethodName := ⟨RX4, "reads", "()Z"⟩
abbrev cX4_word : ByteArray := prog_6_method_84_code
def yX4_word : MethodName := ⟨RX4, "word", "()I"⟩
abbrev cX4_spelt : ByteArray := prog_6_method_85_code
def yX4_spelt : MethodName := ⟨RX4, "spelt", "(IIII)I"⟩
abbrev cX4_order : ByteArray := prog_6_method_86_code
def yX4_order : MethodName := ⟨RX4, "order", "()I"⟩
abbrev cX4_carries : ByteArray := prog_6_method_87_code
def yX4_carries : MethodName := ⟨RX4, "carries", "(III)I"⟩
abbrev cX4_readsOrder : ByteArray := prog_6_method_88_code
def yX4_readsOrder : MethodName := ⟨RX4, "readsOrder", "(Z)Z"⟩
abbrev cX4_readsText : ByteArray := prog_6_method_89_code
def yX4_readsText : MethodName := ⟨RX4, "readsText", "(Z)Z"⟩
abbrev cX4_textFault : ByteArray := prog_6_method_90_code
def yX4_textFault : MethodName := ⟨RX4, "textFault", "()I"⟩
abbrev cX4_orders : ByteArray := prog_6_method_91_code
def yX4_orders : MethodName := ⟨RX4, "orders", "()I"⟩
abbrev cX4_note : ByteArray := prog_6_method_92_code
def yX4_note : MethodName := ⟨RX4, "note", "(I)V"⟩
abbrev cX4_digest : ByteArray := prog_6_method_93_code
def yX4_digest : MethodName := ⟨RX4, "digest", "()J"⟩
def RJ9 : String := "java/lang/Math"
def TJ9 : u_T := fun k => match k with
  | _ => ("", "", "", false)
def tyJ9 : Nat → FieldType := fun k => match k with
  | _ => .int
abbrev wsJ90 : List Cond := u_ws RJ9 TJ9 0
theorem nmJ9 : ∀ a, a < 0 → ∀ b, b < 0 → a ≠ b → (TJ9 a).2.1 ≠ (TJ9 b).2.1 := by decide +kernel
theorem tyJ9_ok : ∀ k, k < 0 → parseFieldDescriptor (TJ9 k).2.2.1 = some (tyJ9 k) := by decide +kernel
abbrev cJ9_max_7cf53 : ByteArray := prog_7_method_65_code
def yJ9_max_7cf53 : MethodName := ⟨RJ9, "max", "(II)I"⟩
abbrev cJ9_min_7cf53 : ByteArray := prog_7_method_69_code
def yJ9_min_7cf53 : MethodName := ⟨RJ9, "min", "(II)I"⟩
def RJ0 : String := "java/lang/String"
def TJ0 : u_T := fun k => match k with
  | _ => ("", "", "", false)
def tyJ0 : Nat → FieldType := fun k => match k with
  | _ => .int
abbrev wsJ00 : List Cond := u_ws RJ0 TJ0 0
theorem nmJ0 : ∀ a, a < 0 → ∀ b, b < 0 → a ≠ b → (TJ0 a).2.1 ≠ (TJ0 b).2.1 := by decide +kernel
theorem tyJ0_ok : ∀ k, k < 0 → parseFieldDescriptor (TJ0 k).2.2.1 = some (tyJ0 k) := by decide +kernel
abbrev cJ0_length_8abf5 : ByteArray := prog_8_method_54_code
def yJ0_length_8abf5 : MethodName := ⟨RJ0, "length", "()I"⟩
abbrev cJ0_charAt_5068e : ByteArray := prog_8_method_56_code
def yJ0_charAt_5068e : MethodName := ⟨RJ0, "charAt", "(I)C"⟩
abbrev cJ0_coder_7d493 : ByteArray := prog_8_method_152_code
def yJ0_coder_7d493 : MethodName := ⟨RJ0, "coder", "()B"⟩
abbrev cJ0_isLatin1_aae02 : ByteArray := prog_8_method_154_code
def yJ0_isLatin1_aae02 : MethodName := ⟨RJ0, "isLatin1", "()Z"⟩
abbrev cJ0_checkIndex_df160 : ByteArray := prog_8_method_155_code
def yJ0_checkIndex_df160 : MethodName := ⟨RJ0, "checkIndex", "(II)V"⟩
def RJ1 : String := "java/lang/StringLatin1"
def TJ1 : u_T := fun k => match k with
  | _ => ("", "", "", false)
def tyJ1 : Nat → FieldType := fun k => match k with
  | _ => .int
abbrev wsJ10 : List Cond := u_ws RJ1 TJ1 0
theorem nmJ1 : ∀ a, a < 0 → ∀ b, b < 0 → a ≠ b → (TJ1 a).2.1 ≠ (TJ1 b).2.1 := by decide +kernel
theorem tyJ1_ok : ∀ k, k < 0 → parseFieldDescriptor (TJ1 k).2.2.1 = some (tyJ1 k) := by decide +kernel
abbrev cJ1_charAt_3b067 : ByteArray := prog_9_method_2_code
def yJ1_charAt_3b067 : MethodName := ⟨RJ1, "charAt", "([BI)C"⟩
def RJ2 : String := "java/lang/StringUTF16"
def TJ2 : u_T := fun k => match k with
  | _ => ("", "", "", false)
def tyJ2 : Nat → FieldType := fun k => match k with
  | _ => .int
abbrev wsJ20 : List Cond := u_ws RJ2 TJ2 0
theorem nmJ2 : ∀ a, a < 0 → ∀ b, b < 0 → a ≠ b → (TJ2 a).2.1 ≠ (TJ2 b).2.1 := by decide +kernel
theorem tyJ2_ok : ∀ k, k < 0 → parseFieldDescriptor (TJ2 k).2.2.1 = some (tyJ2 k) := by decide +kernel
abbrev cJ2_getChar_3b067 : ByteArray := prog_10_method_5_code
def yJ2_getChar_3b067 : MethodName := ⟨RJ2, "getChar", "([BI)C"⟩
abbrev cJ2_length_9d52b : ByteArray := prog_10_method_6_code
def yJ2_length_9d52b : MethodName := ⟨RJ2, "length", "([B)I"⟩
abbrev cJ2_charAt_3b067 : ByteArray := prog_10_method_83_code
def yJ2_charAt_3b067 : MethodName := ⟨RJ2, "charAt", "([BI)C"⟩
abbrev cJ2_checkIndex_2214a : ByteArray := prog_10_method_91_code
def yJ2_checkIndex_2214a : MethodName := ⟨RJ2, "checkIndex", "(I[B)V"⟩
def RJ10 : String := "java/lang/System"
def TJ10 : u_T := fun k => match k with
  | _ => ("", "", "", false)
def tyJ10 : Nat → FieldType := fun k => match k with
  | _ => .int
abbrev wsJ100 : List Cond := u_ws RJ10 TJ10 0
theorem nmJ10 : ∀ a, a < 0 → ∀ b, b < 0 → a ≠ b → (TJ10 a).2.1 ≠ (TJ10 b).2.1 := by decide +kernel
theorem tyJ10_ok : ∀ k, k < 0 → parseFieldDescriptor (TJ10 k).2.2.1 = some (tyJ10 k) := by decide +kernel
def RJ3 : String := "jdk/internal/util/Preconditions"
def TJ3 : u_T := fun k => match k with
  | _ => ("", "", "", false)
def tyJ3 : Nat → FieldType := fun k => match k with
  | _ => .int
abbrev wsJ30 : List Cond := u_ws RJ3 TJ3 0
theorem nmJ3 : ∀ a, a < 0 → ∀ b, b < 0 → a ≠ b → (TJ3 a).2.1 ≠ (TJ3 b).2.1 := by decide +kernel
theorem tyJ3_ok : ∀ k, k < 0 → parseFieldDescriptor (TJ3 k).2.2.1 = some (tyJ3 k) := by decide +kernel
abbrev cJ3_checkIndex_8e157 : ByteArray := prog_12_method_11_code
def yJ3_checkIndex_8e157 : MethodName := ⟨RJ3, "checkIndex", "(IILjava/util/function/BiFunction;)I"⟩
def RL : String := "BookRentalLaw"
abbrev cL_law : ByteArray := code
def yL_law : MethodName := ⟨RL, "law", "([I)Z"⟩
abbrev vwCl : List vw_C := [(RX0, TX0, 3), (RX1, TX1, 7), (RX2, TX2, 18), (RX3, TX3, 3), (RX4, TX4, 11)]
end
section
/-- the tables' words that stand over any warm state -/
def W0 : List Cond := lw_tbl.filter goodWord
theorem mw {w : Cond} (i : Nat) (h : lw_tbl[i]? = some w) (hg : goodWord w = true) : w ∈ W0 := List.mem_filter.mpr ⟨List.mem_of_getElem? h, hg⟩
theorem W0_in : ∀ w ∈ W0, w ∈ lw_tbl := fun w h => (List.mem_filter.mp h).1
theorem W0_g : ∀ w ∈ W0, w ∈ W0 ∧ ((w.onTables && w.keeps) = true ∨ ∃ ty, w = .arrayClass ty) := fun w h => ⟨h, good_of_word (List.mem_filter.mp h).2⟩
theorem mini_L : Cond.initialized RL ∈ W0 := mw 98 (by decide +kernel) (by decide +kernel)
theorem mini_X3 : Cond.initialized RX3 ∈ W0 := mw 99 (by decide +kernel) (by decide +kernel)
theorem mini_X2 : Cond.initialized RX2 ∈ W0 := mw 100 (by decide +kernel) (by decide +kernel)
theorem mini_X0 : Cond.initialized RX0 ∈ W0 := mw 101 (by decide +kernel) (by decide +kernel)
theorem mini_X1 : Cond.initialized RX1 ∈ W0 := mw 102 (by decide +kernel) (by decide +kernel)
theorem mini_X4 : Cond.initialized RX4 ∈ W0 := mw 103 (by decide +kernel) (by decide +kernel)
theorem mini_J9 : Cond.initialized RJ9 ∈ W0 := mw 104 (by decide +kernel) (by decide +kernel)
theorem mini_J10 : Cond.initialized RJ10 ∈ W0 := mw 105 (by decide +kernel) (by decide +kernel)
theorem mini_J0 : Cond.initialized RJ0 ∈ W0 := mw 106 (by decide +kernel) (by decide +kernel)
theorem mini_J1 : Cond.initialized RJ1 ∈ W0 := mw 107 (by decide +kernel) (by decide +kernel)
theorem mini_J3 : Cond.initialized RJ3 ∈ W0 := mw 108 (by decide +kernel) (by decide +kernel)
theorem mini_J2 : Cond.initialized RJ2 ∈ W0 := mw 109 (by decide +kernel) (by decide +kernel)
theorem mcl_L_7 : Cond.classLink RL 7 RX3 ∈ W0 := mw 110 (by decide +kernel) (by decide +kernel)
theorem min_X3 : Cond.instantiable RX3 3 ∈ W0 := mw 111 (by decide +kernel) (by decide +kernel)
theorem ml_L_9 : Cond.methodLink RL 9 yX3_init ∈ W0 := mw 112 (by decide +kernel) (by decide +kernel)
theorem mi_yX3_init : Cond.instanceMethod yX3_init ∈ W0 := mw 113 (by decide +kernel) (by decide +kernel)
theorem mc_yX3_init : Cond.code yX3_init cX3_init 1 (none) ∈ W0 := mw 114 (by decide +kernel) (by decide +kernel)
theorem ml_X3_1 : Cond.methodLink RX3 1 objectInit ∈ W0 := mw 115 (by decide +kernel) (by decide +kernel)
theorem mi_objectInit : Cond.instanceMethod objectInit ∈ W0 := mw 116 (by decide +kernel) (by decide +kernel)
theorem mc_objectInit : Cond.code objectInit object_method_1_code 1 (none) ∈ W0 := mw 117 (by decide +kernel) (by decide +kernel)
theorem mcl_X3_7 : Cond.classLink RX3 7 RX2 ∈ W0 := mw 118 (by decide +kernel) (by decide +kernel)
theorem min_X2 : Cond.instantiable RX2 18 ∈ W0 := mw 119 (by decide +kernel) (by decide +kernel)
theorem ml_X3_9 : Cond.methodLink RX3 9 yX2_init ∈ W0 := mw 120 (by decide +kernel) (by decide +kernel)
theorem mi_yX2_init : Cond.instanceMethod yX2_init ∈ W0 := mw 121 (by decide +kernel) (by decide +kernel)
theorem mc_yX2_init : Cond.code yX2_init cX2_init 1 (none) ∈ W0 := mw 122 (by decide +kernel) (by decide +kernel)
theorem ml_X2_3 : Cond.methodLink RX2 3 objectInit ∈ W0 := mw 123 (by decide +kernel) (by decide +kernel)
theorem mf_X2_9 : Cond.fieldLink RX2 9 "BookRental$Shop" "day" "I" ∈ W0 := mw 124 (by decide +kernel) (by decide +kernel)
theorem mf_X2_15 : Cond.fieldLink RX2 15 "BookRental$Shop" "titles" "I" ∈ W0 := mw 125 (by decide +kernel) (by decide +kernel)
theorem mf_X2_18 : Cond.fieldLink RX2 18 "BookRental$Shop" "courses" "I" ∈ W0 := mw 127 (by decide +kernel) (by decide +kernel)
theorem mf_X2_21 : Cond.fieldLink RX2 21 "BookRental$Shop" "copies" "I" ∈ W0 := mw 129 (by decide +kernel) (by decide +kernel)
theorem mf_X2_24 : Cond.fieldLink RX2 24 "BookRental$Shop" "settings" "[I" ∈ W0 := mw 131 (by decide +kernel) (by decide +kernel)
theorem mf_X2_28 : Cond.fieldLink RX2 28 "BookRental$Shop" "price" "[I" ∈ W0 := mw 132 (by decide +kernel) (by decide +kernel)
theorem mf_X2_31 : Cond.fieldLink RX2 31 "BookRental$Shop" "currentEdition" "[I" ∈ W0 := mw 133 (by decide +kernel) (by decide +kernel)
theorem mf_X2_34 : Cond.fieldLink RX2 34 "BookRental$Shop" "titleOfCourse" "[I" ∈ W0 := mw 134 (by decide +kernel) (by decide +kernel)
theorem mf_X2_37 : Cond.fieldLink RX2 37 "BookRental$Shop" "least" "[I" ∈ W0 := mw 135 (by decide +kernel) (by decide +kernel)
theorem mf_X2_40 : Cond.fieldLink RX2 40 "BookRental$Shop" "students" "[I" ∈ W0 := mw 136 (by decide +kernel) (by decide +kernel)
theorem mf_X2_43 : Cond.fieldLink RX2 43 "BookRental$Shop" "titleOfCopy" "[I" ∈ W0 := mw 137 (by decide +kernel) (by decide +kernel)
theorem mf_X2_46 : Cond.fieldLink RX2 46 "BookRental$Shop" "edition" "[I" ∈ W0 := mw 138 (by decide +kernel) (by decide +kernel)
theorem mf_X2_49 : Cond.fieldLink RX2 49 "BookRental$Shop" "grade" "[I" ∈ W0 := mw 139 (by decide +kernel) (by decide +kernel)
theorem mf_X2_52 : Cond.fieldLink RX2 52 "BookRental$Shop" "state" "[I" ∈ W0 := mw 140 (by decide +kernel) (by decide +kernel)
theorem mf_X2_55 : Cond.fieldLink RX2 55 "BookRental$Shop" "renter" "[I" ∈ W0 := mw 141 (by decide +kernel) (by decide +kernel)
theorem mf_X2_58 : Cond.fieldLink RX2 58 "BookRental$Shop" "due" "[I" ∈ W0 := mw 142 (by decide +kernel) (by decide +kernel)
theorem mf_X2_61 : Cond.fieldLink RX2 61 "BookRental$Shop" "sums" "[I" ∈ W0 := mw 143 (by decide +kernel) (by decide +kernel)
theorem mf_X2_64 : Cond.fieldLink RX2 64 "BookRental$Shop" "charged" "[I" ∈ W0 := mw 144 (by decide +kernel) (by decide +kernel)
theorem my_X2_day : Cond.lays "BookRental$Shop" "BookRental$Shop" "day" "I" ∈ W0 := mw 145 (by decide +kernel) (by decide +kernel)
theorem my_X2_titles : Cond.lays "BookRental$Shop" "BookRental$Shop" "titles" "I" ∈ W0 := mw 147 (by decide +kernel) (by decide +kernel)
theorem my_X2_courses : Cond.lays "BookRental$Shop" "BookRental$Shop" "courses" "I" ∈ W0 := mw 149 (by decide +kernel) (by decide +kernel)
theorem my_X2_copies : Cond.lays "BookRental$Shop" "BookRental$Shop" "copies" "I" ∈ W0 := mw 151 (by decide +kernel) (by decide +kernel)
theorem my_X2_settings : Cond.laysFinal "BookRental$Shop" "BookRental$Shop" "settings" "[I" ∈ W0 := mw 153 (by decide +kernel) (by decide +kernel)
theorem my_X2_price : Cond.laysFinal "BookRental$Shop" "BookRental$Shop" "price" "[I" ∈ W0 := mw 155 (by decide +kernel) (by decide +kernel)
theorem my_X2_currentEdition : Cond.laysFinal "BookRental$Shop" "BookRental$Shop" "currentEdition" "[I" ∈ W0 := mw 157 (by decide +kernel) (by decide +kernel)
theorem my_X2_titleOfCourse : Cond.laysFinal "BookRental$Shop" "BookRental$Shop" "titleOfCourse" "[I" ∈ W0 := mw 159 (by decide +kernel) (by decide +kernel)
theorem my_X2_least : Cond.laysFinal "BookRental$Shop" "BookRental$Shop" "least" "[I" ∈ W0 := mw 161 (by decide +kernel) (by decide +kernel)
theorem my_X2_students : Cond.laysFinal "BookRental$Shop" "BookRental$Shop" "students" "[I" ∈ W0 := mw 163 (by decide +kernel) (by decide +kernel)
theorem my_X2_titleOfCopy : Cond.laysFinal "BookRental$Shop" "BookRental$Shop" "titleOfCopy" "[I" ∈ W0 := mw 165 (by decide +kernel) (by decide +kernel)
theorem my_X2_edition : Cond.laysFinal "BookRental$Shop" "BookRental$Shop" "edition" "[I" ∈ W0 := mw 167 (by decide +kernel) (by decide +kernel)
theorem my_X2_grade : Cond.laysFinal "BookRental$Shop" "BookRental$Shop" "grade" "[I" ∈ W0 := mw 169 (by decide +kernel) (by decide +kernel)
theorem my_X2_state : Cond.laysFinal "BookRental$Shop" "BookRental$Shop" "state" "[I" ∈ W0 := mw 171 (by decide +kernel) (by decide +kernel)
theorem my_X2_renter : Cond.laysFinal "BookRental$Shop" "BookRental$Shop" "renter" "[I" ∈ W0 := mw 173 (by decide +kernel) (by decide +kernel)
theorem my_X2_due : Cond.laysFinal "BookRental$Shop" "BookRental$Shop" "due" "[I" ∈ W0 := mw 175 (by decide +kernel) (by decide +kernel)
theorem my_X2_sums : Cond.laysFinal "BookRental$Shop" "BookRental$Shop" "sums" "[I" ∈ W0 := mw 177 (by decide +kernel) (by decide +kernel)
theorem my_X2_charged : Cond.laysFinal "BookRental$Shop" "BookRental$Shop" "charged" "[I" ∈ W0 := mw 179 (by decide +kernel) (by decide +kernel)
theorem mac_int : Cond.arrayClass .int ∈ W0 := mw 182 (by decide +kernel) (by decide +kernel)
theorem mcl_X3_16 : Cond.classLink RX3 16 RX0 ∈ W0 := mw 183 (by decide +kernel) (by decide +kernel)
theorem min_X0 : Cond.instantiable RX0 3 ∈ W0 := mw 184 (by decide +kernel) (by decide +kernel)
theorem ml_X3_18 : Cond.methodLink RX3 18 yX0_init ∈ W0 := mw 185 (by decide +kernel) (by decide +kernel)
theorem mi_yX0_init : Cond.instanceMethod yX0_init ∈ W0 := mw 186 (by decide +kernel) (by decide +kernel)
theorem mc_yX0_init : Cond.code yX0_init cX0_init 2 (none) ∈ W0 := mw 187 (by decide +kernel) (by decide +kernel)
theorem ml_X0_5 : Cond.methodLink RX0 5 objectInit ∈ W0 := mw 188 (by decide +kernel) (by decide +kernel)
theorem mcl_X0_11 : Cond.classLink RX0 11 RX2 ∈ W0 := mw 189 (by decide +kernel) (by decide +kernel)
theorem ml_X0_24 : Cond.methodLink RX0 24 yX2_init ∈ W0 := mw 191 (by decide +kernel) (by decide +kernel)
theorem mf_X0_13 : Cond.fieldLink RX0 13 "BookRental$History" "ring" "[LBookRental$Shop;" ∈ W0 := mw 192 (by decide +kernel) (by decide +kernel)
theorem mf_X0_17 : Cond.fieldLink RX0 17 "BookRental$History" "spare" "I" ∈ W0 := mw 193 (by decide +kernel) (by decide +kernel)
theorem mf_X0_21 : Cond.fieldLink RX0 21 "BookRental$History" "kept" "I" ∈ W0 := mw 194 (by decide +kernel) (by decide +kernel)
theorem my_X0_ring : Cond.laysFinal "BookRental$History" "BookRental$History" "ring" "[LBookRental$Shop;" ∈ W0 := mw 195 (by decide +kernel) (by decide +kernel)
theorem my_X0_spare : Cond.lays "BookRental$History" "BookRental$History" "spare" "I" ∈ W0 := mw 197 (by decide +kernel) (by decide +kernel)
theorem my_X0_kept : Cond.lays "BookRental$History" "BookRental$History" "kept" "I" ∈ W0 := mw 199 (by decide +kernel) (by decide +kernel)
theorem mcl_X3_23 : Cond.classLink RX3 23 RX1 ∈ W0 := mw 202 (by decide +kernel) (by decide +kernel)
theorem min_X1 : Cond.instantiable RX1 7 ∈ W0 := mw 203 (by decide +kernel) (by decide +kernel)
theorem ml_X3_25 : Cond.methodLink RX3 25 yX1_init ∈ W0 := mw 204 (by decide +kernel) (by decide +kernel)
theorem mi_yX1_init : Cond.instanceMethod yX1_init ∈ W0 := mw 205 (by decide +kernel) (by decide +kernel)
theorem mc_yX1_init : Cond.code yX1_init cX1_init 1 (none) ∈ W0 := mw 206 (by decide +kernel) (by decide +kernel)
theorem ml_X1_3 : Cond.methodLink RX1 3 objectInit ∈ W0 := mw 207 (by decide +kernel) (by decide +kernel)
theorem mf_X1_11 : Cond.fieldLink RX1 11 "BookRental$OrderText" "bytes" "[I" ∈ W0 := mw 208 (by decide +kernel) (by decide +kernel)
theorem mf_X1_15 : Cond.fieldLink RX1 15 "BookRental$OrderText" "length" "I" ∈ W0 := mw 209 (by decide +kernel) (by decide +kernel)
theorem mf_X1_19 : Cond.fieldLink RX1 19 "BookRental$OrderText" "at" "I" ∈ W0 := mw 210 (by decide +kernel) (by decide +kernel)
theorem mf_X1_22 : Cond.fieldLink RX1 22 "BookRental$OrderText" "more" "Z" ∈ W0 := mw 211 (by decide +kernel) (by decide +kernel)
theorem mf_X1_26 : Cond.fieldLink RX1 26 "BookRental$OrderText" "word" "I" ∈ W0 := mw 212 (by decide +kernel) (by decide +kernel)
theorem mf_X1_29 : Cond.fieldLink RX1 29 "BookRental$OrderText" "first" "I" ∈ W0 := mw 213 (by decide +kernel) (by decide +kernel)
theorem mf_X1_32 : Cond.fieldLink RX1 32 "BookRental$OrderText" "second" "I" ∈ W0 := mw 214 (by decide +kernel) (by decide +kernel)
theorem my_X1_bytes : Cond.laysFinal "BookRental$OrderText" "BookRental$OrderText" "bytes" "[I" ∈ W0 := mw 215 (by decide +kernel) (by decide +kernel)
theorem my_X1_length : Cond.lays "BookRental$OrderText" "BookRental$OrderText" "length" "I" ∈ W0 := mw 217 (by decide +kernel) (by decide +kernel)
theorem my_X1_at : Cond.lays "BookRental$OrderText" "BookRental$OrderText" "at" "I" ∈ W0 := mw 219 (by decide +kernel) (by decide +kernel)
theorem my_X1_more : Cond.lays "BookRental$OrderText" "BookRental$OrderText" "more" "Z" ∈ W0 := mw 221 (by decide +kernel) (by decide +kernel)
theorem my_X1_word : Cond.lays "BookRental$OrderText" "BookRental$OrderText" "word" "I" ∈ W0 := mw 223 (by decide +kernel) (by decide +kernel)
theorem my_X1_first : Cond.lays "BookRental$OrderText" "BookRental$OrderText" "first" "I" ∈ W0 := mw 225 (by decide +kernel) (by decide +kernel)
theorem my_X1_second : Cond.lays "BookRental$OrderText" "BookRental$OrderText" "second" "I" ∈ W0 := mw 227 (by decide +kernel) (by decide +kernel)
theorem mf_X3_10 : Cond.fieldLink RX3 10 "BookRental" "shop" "LBookRental$Shop;" ∈ W0 := mw 230 (by decide +kernel) (by decide +kernel)
theorem mf_X3_19 : Cond.fieldLink RX3 19 "BookRental" "history" "LBookRental$History;" ∈ W0 := mw 231 (by decide +kernel) (by decide +kernel)
theorem mf_X3_26 : Cond.fieldLink RX3 26 "BookRental" "text" "LBookRental$OrderText;" ∈ W0 := mw 232 (by decide +kernel) (by decide +kernel)
theorem my_X3_shop : Cond.laysFinal "BookRental" "BookRental" "shop" "LBookRental$Shop;" ∈ W0 := mw 233 (by decide +kernel) (by decide +kernel)
theorem my_X3_history : Cond.laysFinal "BookRental" "BookRental" "history" "LBookRental$History;" ∈ W0 := mw 235 (by decide +kernel) (by decide +kernel)
theorem my_X3_text : Cond.laysFinal "BookRental" "BookRental" "text" "LBookRental$OrderText;" ∈ W0 := mw 237 (by decide +kernel) (by decide +kernel)
theorem ml_L_13 : Cond.methodLink RL 13 yX3_addTitle ∈ W0 := mw 240 (by decide +kernel) (by decide +kernel)
theorem mi_yX3_addTitle : Cond.instanceMethod yX3_addTitle ∈ W0 := mw 241 (by decide +kernel) (by decide +kernel)
theorem ms_yX3_addTitle : Cond.selects RX3 yX3_addTitle yX3_addTitle ∈ W0 := mw 242 (by decide +kernel) (by decide +kernel)
theorem mc_yX3_addTitle : Cond.code yX3_addTitle cX3_addTitle 3 (some .int) ∈ W0 := mw 243 (by decide +kernel) (by decide +kernel)
theorem ml_X3_30 : Cond.methodLink RX3 30 yX0_prepare ∈ W0 := mw 244 (by decide +kernel) (by decide +kernel)
theorem mi_yX0_prepare : Cond.instanceMethod yX0_prepare ∈ W0 := mw 245 (by decide +kernel) (by decide +kernel)
theorem ms_yX0_prepare : Cond.selects RX0 yX0_prepare yX0_prepare ∈ W0 := mw 246 (by decide +kernel) (by decide +kernel)
theorem mc_yX0_prepare : Cond.code yX0_prepare cX0_prepare 2 (none) ∈ W0 := mw 247 (by decide +kernel) (by decide +kernel)
theorem ml_X0_25 : Cond.methodLink RX0 25 yX2_becomeLike ∈ W0 := mw 248 (by decide +kernel) (by decide +kernel)
theorem mi_yX2_becomeLike : Cond.instanceMethod yX2_becomeLike ∈ W0 := mw 249 (by decide +kernel) (by decide +kernel)
theorem ms_yX2_becomeLike : Cond.selects RX2 yX2_becomeLike yX2_becomeLike ∈ W0 := mw 250 (by decide +kernel) (by decide +kernel)
theorem mc_yX2_becomeLike : Cond.code yX2_becomeLike cX2_becomeLike 2 (none) ∈ W0 := mw 251 (by decide +kernel) (by decide +kernel)
theorem ml_X2_67 : Cond.methodLink RX2 67 yX2_fill ∈ W0 := mw 252 (by decide +kernel) (by decide +kernel)
theorem mst_yX2_fill : Cond.static yX2_fill ∈ W0 := mw 253 (by decide +kernel) (by decide +kernel)
theorem mc_yX2_fill : Cond.code yX2_fill cX2_fill 2 (none) ∈ W0 := mw 254 (by decide +kernel) (by decide +kernel)
theorem ml_X2_71 : Cond.methodLink RX2 71 yJ9_min_7cf53 ∈ W0 := mw 255 (by decide +kernel) (by decide +kernel)
theorem mst_yJ9_min_7cf53 : Cond.static yJ9_min_7cf53 ∈ W0 := mw 256 (by decide +kernel) (by decide +kernel)
theorem mc_yJ9_min_7cf53 : Cond.code yJ9_min_7cf53 cJ9_min_7cf53 2 (some .int) ∈ W0 := mw 257 (by decide +kernel) (by decide +kernel)
theorem ml_X2_77 : Cond.methodLink RX2 77 arraycopyName ∈ W0 := mw 258 (by decide +kernel) (by decide +kernel)
theorem mst_arraycopyName : Cond.static arraycopyName ∈ W0 := mw 259 (by decide +kernel) (by decide +kernel)
theorem mnat_arraycopyName : Cond.native arraycopyName ∈ W0 := mw 260 (by decide +kernel) (by decide +kernel)
theorem ml_X3_34 : Cond.methodLink RX3 34 yX2_putTitle ∈ W0 := mw 261 (by decide +kernel) (by decide +kernel)
theorem mi_yX2_putTitle : Cond.instanceMethod yX2_putTitle ∈ W0 := mw 262 (by decide +kernel) (by decide +kernel)
theorem ms_yX2_putTitle : Cond.selects RX2 yX2_putTitle yX2_putTitle ∈ W0 := mw 263 (by decide +kernel) (by decide +kernel)
theorem mc_yX2_putTitle : Cond.code yX2_putTitle cX2_putTitle 3 (some .int) ∈ W0 := mw 264 (by decide +kernel) (by decide +kernel)
theorem ml_X2_83 : Cond.methodLink RX2 83 yX2_isPrice ∈ W0 := mw 265 (by decide +kernel) (by decide +kernel)
theorem mst_yX2_isPrice : Cond.static yX2_isPrice ∈ W0 := mw 266 (by decide +kernel) (by decide +kernel)
theorem mc_yX2_isPrice : Cond.code yX2_isPrice cX2_isPrice 1 (some .boolean) ∈ W0 := mw 267 (by decide +kernel) (by decide +kernel)
theorem ml_X2_93 : Cond.methodLink RX2 93 yX2_isBetween ∈ W0 := mw 268 (by decide +kernel) (by decide +kernel)
theorem mst_yX2_isBetween : Cond.static yX2_isBetween ∈ W0 := mw 269 (by decide +kernel) (by decide +kernel)
theorem mc_yX2_isBetween : Cond.code yX2_isBetween cX2_isBetween 3 (some .boolean) ∈ W0 := mw 270 (by decide +kernel) (by decide +kernel)
theorem ml_X2_87 : Cond.methodLink RX2 87 yX2_isEdition ∈ W0 := mw 271 (by decide +kernel) (by decide +kernel)
theorem mst_yX2_isEdition : Cond.static yX2_isEdition ∈ W0 := mw 272 (by decide +kernel) (by decide +kernel)
theorem mc_yX2_isEdition : Cond.code yX2_isEdition cX2_isEdition 1 (some .boolean) ∈ W0 := mw 273 (by decide +kernel) (by decide +kernel)
theorem ml_X3_38 : Cond.methodLink RX3 38 yX0_settle ∈ W0 := mw 274 (by decide +kernel) (by decide +kernel)
theorem mi_yX0_settle : Cond.instanceMethod yX0_settle ∈ W0 := mw 275 (by decide +kernel) (by decide +kernel)
theorem ms_yX0_settle : Cond.selects RX0 yX0_settle yX0_settle ∈ W0 := mw 276 (by decide +kernel) (by decide +kernel)
theorem mc_yX0_settle : Cond.code yX0_settle cX0_settle 2 (some .int) ∈ W0 := mw 277 (by decide +kernel) (by decide +kernel)
theorem ml_X0_29 : Cond.methodLink RX0 29 yJ9_min_7cf53 ∈ W0 := mw 278 (by decide +kernel) (by decide +kernel)
theorem ml_L_18 : Cond.methodLink RL 18 yX3_setPrice ∈ W0 := mw 279 (by decide +kernel) (by decide +kernel)
theorem mi_yX3_setPrice : Cond.instanceMethod yX3_setPrice ∈ W0 := mw 280 (by decide +kernel) (by decide +kernel)
theorem ms_yX3_setPrice : Cond.selects RX3 yX3_setPrice yX3_setPrice ∈ W0 := mw 281 (by decide +kernel) (by decide +kernel)
theorem mc_yX3_setPrice : Cond.code yX3_setPrice cX3_setPrice 3 (some .int) ∈ W0 := mw 282 (by decide +kernel) (by decide +kernel)
theorem ml_X3_42 : Cond.methodLink RX3 42 yX2_changePrice ∈ W0 := mw 283 (by decide +kernel) (by decide +kernel)
theorem mi_yX2_changePrice : Cond.instanceMethod yX2_changePrice ∈ W0 := mw 284 (by decide +kernel) (by decide +kernel)
theorem ms_yX2_changePrice : Cond.selects RX2 yX2_changePrice yX2_changePrice ∈ W0 := mw 285 (by decide +kernel) (by decide +kernel)
theorem mc_yX2_changePrice : Cond.code yX2_changePrice cX2_changePrice 4 (some .int) ∈ W0 := mw 286 (by decide +kernel) (by decide +kernel)
theorem ml_X2_90 : Cond.methodLink RX2 90 yX2_hasTitle ∈ W0 := mw 287 (by decide +kernel) (by decide +kernel)
theorem mi_yX2_hasTitle : Cond.instanceMethod yX2_hasTitle ∈ W0 := mw 289 (by decide +kernel) (by decide +kernel)
theorem mc_yX2_hasTitle : Cond.code yX2_hasTitle cX2_hasTitle 2 (some .boolean) ∈ W0 := mw 290 (by decide +kernel) (by decide +kernel)
theorem ml_L_22 : Cond.methodLink RL 22 yX3_newEdition ∈ W0 := mw 291 (by decide +kernel) (by decide +kernel)
theorem mi_yX3_newEdition : Cond.instanceMethod yX3_newEdition ∈ W0 := mw 292 (by decide +kernel) (by decide +kernel)
theorem ms_yX3_newEdition : Cond.selects RX3 yX3_newEdition yX3_newEdition ∈ W0 := mw 293 (by decide +kernel) (by decide +kernel)
theorem mc_yX3_newEdition : Cond.code yX3_newEdition cX3_newEdition 2 (some .int) ∈ W0 := mw 294 (by decide +kernel) (by decide +kernel)
theorem ml_X3_45 : Cond.methodLink RX3 45 yX2_advanceEdition ∈ W0 := mw 295 (by decide +kernel) (by decide +kernel)
theorem mi_yX2_advanceEdition : Cond.instanceMethod yX2_advanceEdition ∈ W0 := mw 296 (by decide +kernel) (by decide +kernel)
theorem ms_yX2_advanceEdition : Cond.selects RX2 yX2_advanceEdition yX2_advanceEdition ∈ W0 := mw 297 (by decide +kernel) (by decide +kernel)
theorem mc_yX2_advanceEdition : Cond.code yX2_advanceEdition cX2_advanceEdition 2 (some .int) ∈ W0 := mw 298 (by decide +kernel) (by decide +kernel)
theorem ml_L_27 : Cond.methodLink RL 27 yX3_addCourse ∈ W0 := mw 299 (by decide +kernel) (by decide +kernel)
theorem mi_yX3_addCourse : Cond.instanceMethod yX3_addCourse ∈ W0 := mw 300 (by decide +kernel) (by decide +kernel)
theorem ms_yX3_addCourse : Cond.selects RX3 yX3_addCourse yX3_addCourse ∈ W0 := mw 301 (by decide +kernel) (by decide +kernel)
theorem mc_yX3_addCourse : Cond.code yX3_addCourse cX3_addCourse 4 (some .int) ∈ W0 := mw 302 (by decide +kernel) (by decide +kernel)
theorem ml_X3_48 : Cond.methodLink RX3 48 yX2_putCourse ∈ W0 := mw 303 (by decide +kernel) (by decide +kernel)
theorem mi_yX2_putCourse : Cond.instanceMethod yX2_putCourse ∈ W0 := mw 304 (by decide +kernel) (by decide +kernel)
theorem ms_yX2_putCourse : Cond.selects RX2 yX2_putCourse yX2_putCourse ∈ W0 := mw 305 (by decide +kernel) (by decide +kernel)
theorem mc_yX2_putCourse : Cond.code yX2_putCourse cX2_putCourse 4 (some .int) ∈ W0 := mw 306 (by decide +kernel) (by decide +kernel)
theorem ml_L_32 : Cond.methodLink RL 32 yX3_setCourse ∈ W0 := mw 307 (by decide +kernel) (by decide +kernel)
theorem mi_yX3_setCourse : Cond.instanceMethod yX3_setCourse ∈ W0 := mw 308 (by decide +kernel) (by decide +kernel)
theorem ms_yX3_setCourse : Cond.selects RX3 yX3_setCourse yX3_setCourse ∈ W0 := mw 309 (by decide +kernel) (by decide +kernel)
theorem mc_yX3_setCourse : Cond.code yX3_setCourse cX3_setCourse 4 (some .int) ∈ W0 := mw 310 (by decide +kernel) (by decide +kernel)
theorem ml_X3_52 : Cond.methodLink RX3 52 yX2_changeCourse ∈ W0 := mw 311 (by decide +kernel) (by decide +kernel)
theorem mi_yX2_changeCourse : Cond.instanceMethod yX2_changeCourse ∈ W0 := mw 312 (by decide +kernel) (by decide +kernel)
theorem ms_yX2_changeCourse : Cond.selects RX2 yX2_changeCourse yX2_changeCourse ∈ W0 := mw 313 (by decide +kernel) (by decide +kernel)
theorem mc_yX2_changeCourse : Cond.code yX2_changeCourse cX2_changeCourse 5 (some .int) ∈ W0 := mw 314 (by decide +kernel) (by decide +kernel)
theorem ml_X2_97 : Cond.methodLink RX2 97 yX2_hasCourse ∈ W0 := mw 315 (by decide +kernel) (by decide +kernel)
theorem mi_yX2_hasCourse : Cond.instanceMethod yX2_hasCourse ∈ W0 := mw 317 (by decide +kernel) (by decide +kernel)
theorem mc_yX2_hasCourse : Cond.code yX2_hasCourse cX2_hasCourse 2 (some .boolean) ∈ W0 := mw 318 (by decide +kernel) (by decide +kernel)
theorem ml_L_36 : Cond.methodLink RL 36 yX3_set ∈ W0 := mw 319 (by decide +kernel) (by decide +kernel)
theorem mi_yX3_set : Cond.instanceMethod yX3_set ∈ W0 := mw 320 (by decide +kernel) (by decide +kernel)
theorem ms_yX3_set : Cond.selects RX3 yX3_set yX3_set ∈ W0 := mw 321 (by decide +kernel) (by decide +kernel)
theorem mc_yX3_set : Cond.code yX3_set cX3_set 3 (some .int) ∈ W0 := mw 322 (by decide +kernel) (by decide +kernel)
theorem ml_X3_55 : Cond.methodLink RX3 55 yX2_changeSetting ∈ W0 := mw 323 (by decide +kernel) (by decide +kernel)
theorem mi_yX2_changeSetting : Cond.instanceMethod yX2_changeSetting ∈ W0 := mw 324 (by decide +kernel) (by decide +kernel)
theorem ms_yX2_changeSetting : Cond.selects RX2 yX2_changeSetting yX2_changeSetting ∈ W0 := mw 325 (by decide +kernel) (by decide +kernel)
theorem mc_yX2_changeSetting : Cond.code yX2_changeSetting cX2_changeSetting 4 (some .int) ∈ W0 := mw 326 (by decide +kernel) (by decide +kernel)
theorem mf_X2_100 : Cond.fieldLink RX2 100 "BookRental$Shop" "SETTING_LOW" "[I" ∈ W0 := mw 327 (by decide +kernel) (by decide +kernel)
theorem mf_X2_103 : Cond.fieldLink RX2 103 "BookRental$Shop" "SETTING_HIGH" "[I" ∈ W0 := mw 329 (by decide +kernel) (by decide +kernel)
theorem ml_L_40 : Cond.methodLink RL 40 yX3_count ∈ W0 := mw 331 (by decide +kernel) (by decide +kernel)
theorem mi_yX3_count : Cond.instanceMethod yX3_count ∈ W0 := mw 332 (by decide +kernel) (by decide +kernel)
theorem ms_yX3_count : Cond.selects RX3 yX3_count yX3_count ∈ W0 := mw 333 (by decide +kernel) (by decide +kernel)
theorem mc_yX3_count : Cond.code yX3_count cX3_count 2 (some .int) ∈ W0 := mw 334 (by decide +kernel) (by decide +kernel)
theorem ml_X3_58 : Cond.methodLink RX3 58 yX2_numberOf ∈ W0 := mw 335 (by decide +kernel) (by decide +kernel)
theorem mi_yX2_numberOf : Cond.instanceMethod yX2_numberOf ∈ W0 := mw 336 (by decide +kernel) (by decide +kernel)
theorem ms_yX2_numberOf : Cond.selects RX2 yX2_numberOf yX2_numberOf ∈ W0 := mw 337 (by decide +kernel) (by decide +kernel)
theorem mc_yX2_numberOf : Cond.code yX2_numberOf cX2_numberOf 2 (some .int) ∈ W0 := mw 338 (by decide +kernel) (by decide +kernel)
theorem ml_X2_106 : Cond.methodLink RX2 106 yX2_copiesIn ∈ W0 := mw 339 (by decide +kernel) (by decide +kernel)
theorem mi_yX2_copiesIn : Cond.instanceMethod yX2_copiesIn ∈ W0 := mw 341 (by decide +kernel) (by decide +kernel)
theorem mc_yX2_copiesIn : Cond.code yX2_copiesIn cX2_copiesIn 4 (some .int) ∈ W0 := mw 342 (by decide +kernel) (by decide +kernel)
theorem ml_L_44 : Cond.methodLink RL 44 yX3_title ∈ W0 := mw 343 (by decide +kernel) (by decide +kernel)
theorem mi_yX3_title : Cond.instanceMethod yX3_title ∈ W0 := mw 344 (by decide +kernel) (by decide +kernel)
theorem ms_yX3_title : Cond.selects RX3 yX3_title yX3_title ∈ W0 := mw 345 (by decide +kernel) (by decide +kernel)
theorem mc_yX3_title : Cond.code yX3_title cX3_title 3 (some .int) ∈ W0 := mw 346 (by decide +kernel) (by decide +kernel)
theorem ml_X3_61 : Cond.methodLink RX3 61 yX2_titleProperty ∈ W0 := mw 347 (by decide +kernel) (by decide +kernel)
theorem mi_yX2_titleProperty : Cond.instanceMethod yX2_titleProperty ∈ W0 := mw 348 (by decide +kernel) (by decide +kernel)
theorem ms_yX2_titleProperty : Cond.selects RX2 yX2_titleProperty yX2_titleProperty ∈ W0 := mw 349 (by decide +kernel) (by decide +kernel)
theorem mc_yX2_titleProperty : Cond.code yX2_titleProperty cX2_titleProperty 3 (some .int) ∈ W0 := mw 350 (by decide +kernel) (by decide +kernel)
theorem ml_X2_110 : Cond.methodLink RX2 110 yX2_demandOf ∈ W0 := mw 351 (by decide +kernel) (by decide +kernel)
theorem mi_yX2_demandOf : Cond.instanceMethod yX2_demandOf ∈ W0 := mw 353 (by decide +kernel) (by decide +kernel)
theorem mc_yX2_demandOf : Cond.code yX2_demandOf cX2_demandOf 4 (some .int) ∈ W0 := mw 354 (by decide +kernel) (by decide +kernel)
theorem ml_X2_113 : Cond.methodLink RX2 113 yX2_supplyOf ∈ W0 := mw 355 (by decide +kernel) (by decide +kernel)
theorem mi_yX2_supplyOf : Cond.instanceMethod yX2_supplyOf ∈ W0 := mw 357 (by decide +kernel) (by decide +kernel)
theorem mc_yX2_supplyOf : Cond.code yX2_supplyOf cX2_supplyOf 5 (some .int) ∈ W0 := mw 358 (by decide +kernel) (by decide +kernel)
theorem ml_X2_140 : Cond.methodLink RX2 140 yX2_isOfUse ∈ W0 := mw 359 (by decide +kernel) (by decide +kernel)
theorem mi_yX2_isOfUse : Cond.instanceMethod yX2_isOfUse ∈ W0 := mw 361 (by decide +kernel) (by decide +kernel)
theorem mc_yX2_isOfUse : Cond.code yX2_isOfUse cX2_isOfUse 4 (some .boolean) ∈ W0 := mw 362 (by decide +kernel) (by decide +kernel)
theorem ml_X2_222 : Cond.methodLink RX2 222 yX2_takes ∈ W0 := mw 363 (by decide +kernel) (by decide +kernel)
theorem mi_yX2_takes : Cond.instanceMethod yX2_takes ∈ W0 := mw 365 (by decide +kernel) (by decide +kernel)
theorem mc_yX2_takes : Cond.code yX2_takes cX2_takes 4 (some .boolean) ∈ W0 := mw 366 (by decide +kernel) (by decide +kernel)
theorem ml_X2_116 : Cond.methodLink RX2 116 yJ9_max_7cf53 ∈ W0 := mw 367 (by decide +kernel) (by decide +kernel)
theorem mst_yJ9_max_7cf53 : Cond.static yJ9_max_7cf53 ∈ W0 := mw 368 (by decide +kernel) (by decide +kernel)
theorem mc_yJ9_max_7cf53 : Cond.code yJ9_max_7cf53 cJ9_max_7cf53 2 (some .int) ∈ W0 := mw 369 (by decide +kernel) (by decide +kernel)
theorem ml_X2_119 : Cond.methodLink RX2 119 yX2_copiesOf ∈ W0 := mw 370 (by decide +kernel) (by decide +kernel)
theorem mi_yX2_copiesOf : Cond.instanceMethod yX2_copiesOf ∈ W0 := mw 372 (by decide +kernel) (by decide +kernel)
theorem mc_yX2_copiesOf : Cond.code yX2_copiesOf cX2_copiesOf 4 (some .int) ∈ W0 := mw 373 (by decide +kernel) (by decide +kernel)
theorem ml_X2_122 : Cond.methodLink RX2 122 yX2_copiesOfIn ∈ W0 := mw 374 (by decide +kernel) (by decide +kernel)
theorem mi_yX2_copiesOfIn : Cond.instanceMethod yX2_copiesOfIn ∈ W0 := mw 376 (by decide +kernel) (by decide +kernel)
theorem mc_yX2_copiesOfIn : Cond.code yX2_copiesOfIn cX2_copiesOfIn 5 (some .int) ∈ W0 := mw 377 (by decide +kernel) (by decide +kernel)
theorem ml_L_48 : Cond.methodLink RL 48 yX3_course ∈ W0 := mw 378 (by decide +kernel) (by decide +kernel)
theorem mi_yX3_course : Cond.instanceMethod yX3_course ∈ W0 := mw 379 (by decide +kernel) (by decide +kernel)
theorem ms_yX3_course : Cond.selects RX3 yX3_course yX3_course ∈ W0 := mw 380 (by decide +kernel) (by decide +kernel)
theorem mc_yX3_course : Cond.code yX3_course cX3_course 3 (some .int) ∈ W0 := mw 381 (by decide +kernel) (by decide +kernel)
theorem ml_X3_64 : Cond.methodLink RX3 64 yX2_courseProperty ∈ W0 := mw 382 (by decide +kernel) (by decide +kernel)
theorem mi_yX2_courseProperty : Cond.instanceMethod yX2_courseProperty ∈ W0 := mw 383 (by decide +kernel) (by decide +kernel)
theorem ms_yX2_courseProperty : Cond.selects RX2 yX2_courseProperty yX2_courseProperty ∈ W0 := mw 384 (by decide +kernel) (by decide +kernel)
theorem mc_yX2_courseProperty : Cond.code yX2_courseProperty cX2_courseProperty 3 (some .int) ∈ W0 := mw 385 (by decide +kernel) (by decide +kernel)
theorem ml_X2_125 : Cond.methodLink RX2 125 yX2_stockFor ∈ W0 := mw 386 (by decide +kernel) (by decide +kernel)
theorem mi_yX2_stockFor : Cond.instanceMethod yX2_stockFor ∈ W0 := mw 388 (by decide +kernel) (by decide +kernel)
theorem mc_yX2_stockFor : Cond.code yX2_stockFor cX2_stockFor 4 (some .int) ∈ W0 := mw 389 (by decide +kernel) (by decide +kernel)
theorem ml_X2_191 : Cond.methodLink RX2 191 yX2_suits ∈ W0 := mw 390 (by decide +kernel) (by decide +kernel)
theorem mi_yX2_suits : Cond.instanceMethod yX2_suits ∈ W0 := mw 392 (by decide +kernel) (by decide +kernel)
theorem mc_yX2_suits : Cond.code yX2_suits cX2_suits 3 (some .boolean) ∈ W0 := mw 393 (by decide +kernel) (by decide +kernel)
theorem ml_L_52 : Cond.methodLink RL 52 yX3_copy ∈ W0 := mw 394 (by decide +kernel) (by decide +kernel)
theorem mi_yX3_copy : Cond.instanceMethod yX3_copy ∈ W0 := mw 395 (by decide +kernel) (by decide +kernel)
theorem ms_yX3_copy : Cond.selects RX3 yX3_copy yX3_copy ∈ W0 := mw 396 (by decide +kernel) (by decide +kernel)
theorem mc_yX3_copy : Cond.code yX3_copy cX3_copy 3 (some .int) ∈ W0 := mw 397 (by decide +kernel) (by decide +kernel)
theorem ml_X3_67 : Cond.methodLink RX3 67 yX2_copyProperty ∈ W0 := mw 398 (by decide +kernel) (by decide +kernel)
theorem mi_yX2_copyProperty : Cond.instanceMethod yX2_copyProperty ∈ W0 := mw 399 (by decide +kernel) (by decide +kernel)
theorem ms_yX2_copyProperty : Cond.selects RX2 yX2_copyProperty yX2_copyProperty ∈ W0 := mw 400 (by decide +kernel) (by decide +kernel)
theorem mc_yX2_copyProperty : Cond.code yX2_copyProperty cX2_copyProperty 4 (some .int) ∈ W0 := mw 401 (by decide +kernel) (by decide +kernel)
theorem ml_X2_128 : Cond.methodLink RX2 128 yX2_hasCopy ∈ W0 := mw 402 (by decide +kernel) (by decide +kernel)
theorem mi_yX2_hasCopy : Cond.instanceMethod yX2_hasCopy ∈ W0 := mw 404 (by decide +kernel) (by decide +kernel)
theorem mc_yX2_hasCopy : Cond.code yX2_hasCopy cX2_hasCopy 2 (some .boolean) ∈ W0 := mw 405 (by decide +kernel) (by decide +kernel)
theorem ml_X2_131 : Cond.methodLink RX2 131 yX2_worthOf ∈ W0 := mw 406 (by decide +kernel) (by decide +kernel)
theorem mi_yX2_worthOf : Cond.instanceMethod yX2_worthOf ∈ W0 := mw 408 (by decide +kernel) (by decide +kernel)
theorem mc_yX2_worthOf : Cond.code yX2_worthOf cX2_worthOf 3 (some .int) ∈ W0 := mw 409 (by decide +kernel) (by decide +kernel)
theorem ml_X2_164 : Cond.methodLink RX2 164 yX2_worthBy ∈ W0 := mw 410 (by decide +kernel) (by decide +kernel)
theorem mi_yX2_worthBy : Cond.instanceMethod yX2_worthBy ∈ W0 := mw 412 (by decide +kernel) (by decide +kernel)
theorem mc_yX2_worthBy : Cond.code yX2_worthBy cX2_worthBy 8 (some .int) ∈ W0 := mw 413 (by decide +kernel) (by decide +kernel)
theorem ml_X2_134 : Cond.methodLink RX2 134 yX2_rentCost ∈ W0 := mw 414 (by decide +kernel) (by decide +kernel)
theorem mi_yX2_rentCost : Cond.instanceMethod yX2_rentCost ∈ W0 := mw 416 (by decide +kernel) (by decide +kernel)
theorem mc_yX2_rentCost : Cond.code yX2_rentCost cX2_rentCost 2 (some .int) ∈ W0 := mw 417 (by decide +kernel) (by decide +kernel)
theorem ml_X2_137 : Cond.methodLink RX2 137 yX2_saleCost ∈ W0 := mw 418 (by decide +kernel) (by decide +kernel)
theorem mi_yX2_saleCost : Cond.instanceMethod yX2_saleCost ∈ W0 := mw 420 (by decide +kernel) (by decide +kernel)
theorem mc_yX2_saleCost : Cond.code yX2_saleCost cX2_saleCost 2 (some .int) ∈ W0 := mw 421 (by decide +kernel) (by decide +kernel)
theorem ml_X2_144 : Cond.methodLink RX2 144 yX2_daysLate ∈ W0 := mw 422 (by decide +kernel) (by decide +kernel)
theorem mi_yX2_daysLate : Cond.instanceMethod yX2_daysLate ∈ W0 := mw 424 (by decide +kernel) (by decide +kernel)
theorem mc_yX2_daysLate : Cond.code yX2_daysLate cX2_daysLate 2 (some .int) ∈ W0 := mw 425 (by decide +kernel) (by decide +kernel)
theorem ml_L_56 : Cond.methodLink RL 56 yX3_book ∈ W0 := mw 426 (by decide +kernel) (by decide +kernel)
theorem mi_yX3_book : Cond.instanceMethod yX3_book ∈ W0 := mw 427 (by decide +kernel) (by decide +kernel)
theorem ms_yX3_book : Cond.selects RX3 yX3_book yX3_book ∈ W0 := mw 428 (by decide +kernel) (by decide +kernel)
theorem mc_yX3_book : Cond.code yX3_book cX3_book 2 (some .int) ∈ W0 := mw 429 (by decide +kernel) (by decide +kernel)
theorem ml_X3_70 : Cond.methodLink RX3 70 yX2_sumOf ∈ W0 := mw 430 (by decide +kernel) (by decide +kernel)
theorem mi_yX2_sumOf : Cond.instanceMethod yX2_sumOf ∈ W0 := mw 431 (by decide +kernel) (by decide +kernel)
theorem ms_yX2_sumOf : Cond.selects RX2 yX2_sumOf yX2_sumOf ∈ W0 := mw 432 (by decide +kernel) (by decide +kernel)
theorem mc_yX2_sumOf : Cond.code yX2_sumOf cX2_sumOf 3 (some .int) ∈ W0 := mw 433 (by decide +kernel) (by decide +kernel)
theorem mk_X2_147 : Cond.constant RX2 147 (100000000 : Int32) ∈ W0 := mw 434 (by decide +kernel) (by decide +kernel)
theorem ml_L_60 : Cond.methodLink RL 60 yX3_buy ∈ W0 := mw 435 (by decide +kernel) (by decide +kernel)
theorem mi_yX3_buy : Cond.instanceMethod yX3_buy ∈ W0 := mw 436 (by decide +kernel) (by decide +kernel)
theorem ms_yX3_buy : Cond.selects RX3 yX3_buy yX3_buy ∈ W0 := mw 437 (by decide +kernel) (by decide +kernel)
theorem mc_yX3_buy : Cond.code yX3_buy cX3_buy 3 (some .int) ∈ W0 := mw 438 (by decide +kernel) (by decide +kernel)
theorem ml_X3_73 : Cond.methodLink RX3 73 yX2_buyNew ∈ W0 := mw 439 (by decide +kernel) (by decide +kernel)
theorem mi_yX2_buyNew : Cond.instanceMethod yX2_buyNew ∈ W0 := mw 440 (by decide +kernel) (by decide +kernel)
theorem ms_yX2_buyNew : Cond.selects RX2 yX2_buyNew yX2_buyNew ∈ W0 := mw 441 (by decide +kernel) (by decide +kernel)
theorem mc_yX2_buyNew : Cond.code yX2_buyNew cX2_buyNew 5 (some .int) ∈ W0 := mw 442 (by decide +kernel) (by decide +kernel)
theorem ml_X2_157 : Cond.methodLink RX2 157 yX2_putCopy ∈ W0 := mw 443 (by decide +kernel) (by decide +kernel)
theorem mi_yX2_putCopy : Cond.instanceMethod yX2_putCopy ∈ W0 := mw 445 (by decide +kernel) (by decide +kernel)
theorem mc_yX2_putCopy : Cond.code yX2_putCopy cX2_putCopy 4 (none) ∈ W0 := mw 446 (by decide +kernel) (by decide +kernel)
theorem ml_L_64 : Cond.methodLink RL 64 yX3_offer ∈ W0 := mw 447 (by decide +kernel) (by decide +kernel)
theorem mi_yX3_offer : Cond.instanceMethod yX3_offer ∈ W0 := mw 448 (by decide +kernel) (by decide +kernel)
theorem ms_yX3_offer : Cond.selects RX3 yX3_offer yX3_offer ∈ W0 := mw 449 (by decide +kernel) (by decide +kernel)
theorem mc_yX3_offer : Cond.code yX3_offer cX3_offer 4 (some .int) ∈ W0 := mw 450 (by decide +kernel) (by decide +kernel)
theorem ml_X3_76 : Cond.methodLink RX3 76 yX2_offerFor ∈ W0 := mw 451 (by decide +kernel) (by decide +kernel)
theorem mi_yX2_offerFor : Cond.instanceMethod yX2_offerFor ∈ W0 := mw 452 (by decide +kernel) (by decide +kernel)
theorem ms_yX2_offerFor : Cond.selects RX2 yX2_offerFor yX2_offerFor ∈ W0 := mw 453 (by decide +kernel) (by decide +kernel)
theorem mc_yX2_offerFor : Cond.code yX2_offerFor cX2_offerFor 5 (some .int) ∈ W0 := mw 454 (by decide +kernel) (by decide +kernel)
theorem ml_X2_161 : Cond.methodLink RX2 161 yX2_isGrade ∈ W0 := mw 455 (by decide +kernel) (by decide +kernel)
theorem mst_yX2_isGrade : Cond.static yX2_isGrade ∈ W0 := mw 456 (by decide +kernel) (by decide +kernel)
theorem mc_yX2_isGrade : Cond.code yX2_isGrade cX2_isGrade 1 (some .boolean) ∈ W0 := mw 457 (by decide +kernel) (by decide +kernel)
theorem ml_L_68 : Cond.methodLink RL 68 yX3_buyBack ∈ W0 := mw 458 (by decide +kernel) (by decide +kernel)
theorem mi_yX3_buyBack : Cond.instanceMethod yX3_buyBack ∈ W0 := mw 459 (by decide +kernel) (by decide +kernel)
theorem ms_yX3_buyBack : Cond.selects RX3 yX3_buyBack yX3_buyBack ∈ W0 := mw 460 (by decide +kernel) (by decide +kernel)
theorem mc_yX3_buyBack : Cond.code yX3_buyBack cX3_buyBack 4 (some .int) ∈ W0 := mw 461 (by decide +kernel) (by decide +kernel)
theorem ml_X3_79 : Cond.methodLink RX3 79 yX2_buyUsed ∈ W0 := mw 462 (by decide +kernel) (by decide +kernel)
theorem mi_yX2_buyUsed : Cond.instanceMethod yX2_buyUsed ∈ W0 := mw 463 (by decide +kernel) (by decide +kernel)
theorem ms_yX2_buyUsed : Cond.selects RX2 yX2_buyUsed yX2_buyUsed ∈ W0 := mw 464 (by decide +kernel) (by decide +kernel)
theorem mc_yX2_buyUsed : Cond.code yX2_buyUsed cX2_buyUsed 5 (some .int) ∈ W0 := mw 465 (by decide +kernel) (by decide +kernel)
theorem ml_X2_168 : Cond.methodLink RX2 168 yX2_offerFor ∈ W0 := mw 466 (by decide +kernel) (by decide +kernel)
theorem ml_L_72 : Cond.methodLink RL 72 yX3_sell ∈ W0 := mw 467 (by decide +kernel) (by decide +kernel)
theorem mi_yX3_sell : Cond.instanceMethod yX3_sell ∈ W0 := mw 468 (by decide +kernel) (by decide +kernel)
theorem ms_yX3_sell : Cond.selects RX3 yX3_sell yX3_sell ∈ W0 := mw 469 (by decide +kernel) (by decide +kernel)
theorem mc_yX3_sell : Cond.code yX3_sell cX3_sell 2 (some .int) ∈ W0 := mw 470 (by decide +kernel) (by decide +kernel)
theorem ml_X3_82 : Cond.methodLink RX3 82 yX2_sellCopy ∈ W0 := mw 471 (by decide +kernel) (by decide +kernel)
theorem mi_yX2_sellCopy : Cond.instanceMethod yX2_sellCopy ∈ W0 := mw 472 (by decide +kernel) (by decide +kernel)
theorem ms_yX2_sellCopy : Cond.selects RX2 yX2_sellCopy yX2_sellCopy ∈ W0 := mw 473 (by decide +kernel) (by decide +kernel)
theorem mc_yX2_sellCopy : Cond.code yX2_sellCopy cX2_sellCopy 3 (some .int) ∈ W0 := mw 474 (by decide +kernel) (by decide +kernel)
theorem ml_L_76 : Cond.methodLink RL 76 yX3_rent ∈ W0 := mw 475 (by decide +kernel) (by decide +kernel)
theorem mi_yX3_rent : Cond.instanceMethod yX3_rent ∈ W0 := mw 476 (by decide +kernel) (by decide +kernel)
theorem ms_yX3_rent : Cond.selects RX3 yX3_rent yX3_rent ∈ W0 := mw 477 (by decide +kernel) (by decide +kernel)
theorem mc_yX3_rent : Cond.code yX3_rent cX3_rent 3 (some .int) ∈ W0 := mw 478 (by decide +kernel) (by decide +kernel)
theorem ml_X3_85 : Cond.methodLink RX3 85 yX2_rentCopy ∈ W0 := mw 479 (by decide +kernel) (by decide +kernel)
theorem mi_yX2_rentCopy : Cond.instanceMethod yX2_rentCopy ∈ W0 := mw 480 (by decide +kernel) (by decide +kernel)
theorem ms_yX2_rentCopy : Cond.selects RX2 yX2_rentCopy yX2_rentCopy ∈ W0 := mw 481 (by decide +kernel) (by decide +kernel)
theorem mc_yX2_rentCopy : Cond.code yX2_rentCopy cX2_rentCopy 5 (some .int) ∈ W0 := mw 482 (by decide +kernel) (by decide +kernel)
theorem ml_X2_148 : Cond.methodLink RX2 148 yX2_hasCustomer ∈ W0 := mw 483 (by decide +kernel) (by decide +kernel)
theorem mst_yX2_hasCustomer : Cond.static yX2_hasCustomer ∈ W0 := mw 484 (by decide +kernel) (by decide +kernel)
theorem mc_yX2_hasCustomer : Cond.code yX2_hasCustomer cX2_hasCustomer 1 (some .boolean) ∈ W0 := mw 485 (by decide +kernel) (by decide +kernel)
theorem ml_X2_172 : Cond.methodLink RX2 172 yX2_bestFor ∈ W0 := mw 486 (by decide +kernel) (by decide +kernel)
theorem mi_yX2_bestFor : Cond.instanceMethod yX2_bestFor ∈ W0 := mw 488 (by decide +kernel) (by decide +kernel)
theorem mc_yX2_bestFor : Cond.code yX2_bestFor cX2_bestFor 4 (some .int) ∈ W0 := mw 489 (by decide +kernel) (by decide +kernel)
theorem ml_X2_194 : Cond.methodLink RX2 194 yX2_goesAhead ∈ W0 := mw 490 (by decide +kernel) (by decide +kernel)
theorem mi_yX2_goesAhead : Cond.instanceMethod yX2_goesAhead ∈ W0 := mw 492 (by decide +kernel) (by decide +kernel)
theorem mc_yX2_goesAhead : Cond.code yX2_goesAhead cX2_goesAhead 3 (some .boolean) ∈ W0 := mw 493 (by decide +kernel) (by decide +kernel)
theorem ml_X2_175 : Cond.methodLink RX2 175 yX2_canRent ∈ W0 := mw 494 (by decide +kernel) (by decide +kernel)
theorem mi_yX2_canRent : Cond.instanceMethod yX2_canRent ∈ W0 := mw 496 (by decide +kernel) (by decide +kernel)
theorem mc_yX2_canRent : Cond.code yX2_canRent cX2_canRent 4 (some .boolean) ∈ W0 := mw 497 (by decide +kernel) (by decide +kernel)
theorem ml_X2_197 : Cond.methodLink RX2 197 yX2_isRentedBy ∈ W0 := mw 498 (by decide +kernel) (by decide +kernel)
theorem mi_yX2_isRentedBy : Cond.instanceMethod yX2_isRentedBy ∈ W0 := mw 500 (by decide +kernel) (by decide +kernel)
theorem mc_yX2_isRentedBy : Cond.code yX2_isRentedBy cX2_isRentedBy 3 (some .boolean) ∈ W0 := mw 501 (by decide +kernel) (by decide +kernel)
theorem ml_X2_151 : Cond.methodLink RX2 151 yX2_rentedBy ∈ W0 := mw 502 (by decide +kernel) (by decide +kernel)
theorem mi_yX2_rentedBy : Cond.instanceMethod yX2_rentedBy ∈ W0 := mw 504 (by decide +kernel) (by decide +kernel)
theorem mc_yX2_rentedBy : Cond.code yX2_rentedBy cX2_rentedBy 4 (some .int) ∈ W0 := mw 505 (by decide +kernel) (by decide +kernel)
theorem ml_L_80 : Cond.methodLink RL 80 yX3_next ∈ W0 := mw 506 (by decide +kernel) (by decide +kernel)
theorem mi_yX3_next : Cond.instanceMethod yX3_next ∈ W0 := mw 507 (by decide +kernel) (by decide +kernel)
theorem ms_yX3_next : Cond.selects RX3 yX3_next yX3_next ∈ W0 := mw 508 (by decide +kernel) (by decide +kernel)
theorem mc_yX3_next : Cond.code yX3_next cX3_next 2 (some .int) ∈ W0 := mw 509 (by decide +kernel) (by decide +kernel)
theorem ml_X3_88 : Cond.methodLink RX3 88 yX2_nextCopy ∈ W0 := mw 510 (by decide +kernel) (by decide +kernel)
theorem mi_yX2_nextCopy : Cond.instanceMethod yX2_nextCopy ∈ W0 := mw 511 (by decide +kernel) (by decide +kernel)
theorem ms_yX2_nextCopy : Cond.selects RX2 yX2_nextCopy yX2_nextCopy ∈ W0 := mw 512 (by decide +kernel) (by decide +kernel)
theorem mc_yX2_nextCopy : Cond.code yX2_nextCopy cX2_nextCopy 2 (some .int) ∈ W0 := mw 513 (by decide +kernel) (by decide +kernel)
theorem ml_L_84 : Cond.methodLink RL 84 yX3_giveBack ∈ W0 := mw 514 (by decide +kernel) (by decide +kernel)
theorem mi_yX3_giveBack : Cond.instanceMethod yX3_giveBack ∈ W0 := mw 515 (by decide +kernel) (by decide +kernel)
theorem ms_yX3_giveBack : Cond.selects RX3 yX3_giveBack yX3_giveBack ∈ W0 := mw 516 (by decide +kernel) (by decide +kernel)
theorem mc_yX3_giveBack : Cond.code yX3_giveBack cX3_giveBack 3 (some .int) ∈ W0 := mw 517 (by decide +kernel) (by decide +kernel)
theorem ml_X3_91 : Cond.methodLink RX3 91 yX2_takeBack ∈ W0 := mw 518 (by decide +kernel) (by decide +kernel)
theorem mi_yX2_takeBack : Cond.instanceMethod yX2_takeBack ∈ W0 := mw 519 (by decide +kernel) (by decide +kernel)
theorem ms_yX2_takeBack : Cond.selects RX2 yX2_takeBack yX2_takeBack ∈ W0 := mw 520 (by decide +kernel) (by decide +kernel)
theorem mc_yX2_takeBack : Cond.code yX2_takeBack cX2_takeBack 5 (some .int) ∈ W0 := mw 521 (by decide +kernel) (by decide +kernel)
theorem ml_X2_178 : Cond.methodLink RX2 178 yX2_lateCharge ∈ W0 := mw 522 (by decide +kernel) (by decide +kernel)
theorem mi_yX2_lateCharge : Cond.instanceMethod yX2_lateCharge ∈ W0 := mw 524 (by decide +kernel) (by decide +kernel)
theorem mc_yX2_lateCharge : Cond.code yX2_lateCharge cX2_lateCharge 2 (some .int) ∈ W0 := mw 525 (by decide +kernel) (by decide +kernel)
theorem ml_X2_181 : Cond.methodLink RX2 181 yX2_damageCharge ∈ W0 := mw 526 (by decide +kernel) (by decide +kernel)
theorem mi_yX2_damageCharge : Cond.instanceMethod yX2_damageCharge ∈ W0 := mw 528 (by decide +kernel) (by decide +kernel)
theorem mc_yX2_damageCharge : Cond.code yX2_damageCharge cX2_damageCharge 3 (some .int) ∈ W0 := mw 529 (by decide +kernel) (by decide +kernel)
theorem ml_X2_184 : Cond.methodLink RX2 184 yX2_isRuinedBy ∈ W0 := mw 530 (by decide +kernel) (by decide +kernel)
theorem mi_yX2_isRuinedBy : Cond.instanceMethod yX2_isRuinedBy ∈ W0 := mw 532 (by decide +kernel) (by decide +kernel)
theorem mc_yX2_isRuinedBy : Cond.code yX2_isRuinedBy cX2_isRuinedBy 3 (some .boolean) ∈ W0 := mw 533 (by decide +kernel) (by decide +kernel)
theorem ml_X2_200 : Cond.methodLink RX2 200 yX2_worthWithGrade ∈ W0 := mw 534 (by decide +kernel) (by decide +kernel)
theorem mi_yX2_worthWithGrade : Cond.instanceMethod yX2_worthWithGrade ∈ W0 := mw 536 (by decide +kernel) (by decide +kernel)
theorem mc_yX2_worthWithGrade : Cond.code yX2_worthWithGrade cX2_worthWithGrade 4 (some .int) ∈ W0 := mw 537 (by decide +kernel) (by decide +kernel)
theorem ml_L_88 : Cond.methodLink RL 88 yX3_charge ∈ W0 := mw 538 (by decide +kernel) (by decide +kernel)
theorem mi_yX3_charge : Cond.instanceMethod yX3_charge ∈ W0 := mw 539 (by decide +kernel) (by decide +kernel)
theorem ms_yX3_charge : Cond.selects RX3 yX3_charge yX3_charge ∈ W0 := mw 540 (by decide +kernel) (by decide +kernel)
theorem mc_yX3_charge : Cond.code yX3_charge cX3_charge 4 (some .int) ∈ W0 := mw 541 (by decide +kernel) (by decide +kernel)
theorem ml_X3_94 : Cond.methodLink RX3 94 yX2_chargeFor ∈ W0 := mw 542 (by decide +kernel) (by decide +kernel)
theorem mi_yX2_chargeFor : Cond.instanceMethod yX2_chargeFor ∈ W0 := mw 543 (by decide +kernel) (by decide +kernel)
theorem ms_yX2_chargeFor : Cond.selects RX2 yX2_chargeFor yX2_chargeFor ∈ W0 := mw 544 (by decide +kernel) (by decide +kernel)
theorem mc_yX2_chargeFor : Cond.code yX2_chargeFor cX2_chargeFor 6 (some .int) ∈ W0 := mw 545 (by decide +kernel) (by decide +kernel)
theorem ml_L_92 : Cond.methodLink RL 92 yX3_pass ∈ W0 := mw 546 (by decide +kernel) (by decide +kernel)
theorem mi_yX3_pass : Cond.instanceMethod yX3_pass ∈ W0 := mw 547 (by decide +kernel) (by decide +kernel)
theorem ms_yX3_pass : Cond.selects RX3 yX3_pass yX3_pass ∈ W0 := mw 548 (by decide +kernel) (by decide +kernel)
theorem mc_yX3_pass : Cond.code yX3_pass cX3_pass 2 (some .int) ∈ W0 := mw 549 (by decide +kernel) (by decide +kernel)
theorem ml_X3_97 : Cond.methodLink RX3 97 yX2_passDays ∈ W0 := mw 550 (by decide +kernel) (by decide +kernel)
theorem mi_yX2_passDays : Cond.instanceMethod yX2_passDays ∈ W0 := mw 551 (by decide +kernel) (by decide +kernel)
theorem ms_yX2_passDays : Cond.selects RX2 yX2_passDays yX2_passDays ∈ W0 := mw 552 (by decide +kernel) (by decide +kernel)
theorem mc_yX2_passDays : Cond.code yX2_passDays cX2_passDays 5 (some .int) ∈ W0 := mw 553 (by decide +kernel) (by decide +kernel)
theorem mk_X2_187 : Cond.constant RX2 187 (100000 : Int32) ∈ W0 := mw 554 (by decide +kernel) (by decide +kernel)
theorem ml_X2_188 : Cond.methodLink RX2 188 yX2_isLostOn ∈ W0 := mw 555 (by decide +kernel) (by decide +kernel)
theorem mi_yX2_isLostOn : Cond.instanceMethod yX2_isLostOn ∈ W0 := mw 557 (by decide +kernel) (by decide +kernel)
theorem mc_yX2_isLostOn : Cond.code yX2_isLostOn cX2_isLostOn 3 (some .boolean) ∈ W0 := mw 558 (by decide +kernel) (by decide +kernel)
theorem ml_L_96 : Cond.methodLink RL 96 yX3_shelf ∈ W0 := mw 559 (by decide +kernel) (by decide +kernel)
theorem mi_yX3_shelf : Cond.instanceMethod yX3_shelf ∈ W0 := mw 560 (by decide +kernel) (by decide +kernel)
theorem ms_yX3_shelf : Cond.selects RX3 yX3_shelf yX3_shelf ∈ W0 := mw 561 (by decide +kernel) (by decide +kernel)
theorem mc_yX3_shelf : Cond.code yX3_shelf cX3_shelf 3 (some .int) ∈ W0 := mw 562 (by decide +kernel) (by decide +kernel)
theorem ml_X3_100 : Cond.methodLink RX3 100 yX2_countShelf ∈ W0 := mw 563 (by decide +kernel) (by decide +kernel)
theorem mi_yX2_countShelf : Cond.instanceMethod yX2_countShelf ∈ W0 := mw 564 (by decide +kernel) (by decide +kernel)
theorem ms_yX2_countShelf : Cond.selects RX2 yX2_countShelf yX2_countShelf ∈ W0 := mw 565 (by decide +kernel) (by decide +kernel)
theorem mc_yX2_countShelf : Cond.code yX2_countShelf cX2_countShelf 5 (some .int) ∈ W0 := mw 566 (by decide +kernel) (by decide +kernel)
theorem ml_X2_203 : Cond.methodLink RX2 203 yX2_loseSight ∈ W0 := mw 567 (by decide +kernel) (by decide +kernel)
theorem mi_yX2_loseSight : Cond.instanceMethod yX2_loseSight ∈ W0 := mw 569 (by decide +kernel) (by decide +kernel)
theorem mc_yX2_loseSight : Cond.code yX2_loseSight cX2_loseSight 5 (none) ∈ W0 := mw 570 (by decide +kernel) (by decide +kernel)
theorem ml_X2_207 : Cond.methodLink RX2 207 yX2_findAgain ∈ W0 := mw 571 (by decide +kernel) (by decide +kernel)
theorem mi_yX2_findAgain : Cond.instanceMethod yX2_findAgain ∈ W0 := mw 573 (by decide +kernel) (by decide +kernel)
theorem mc_yX2_findAgain : Cond.code yX2_findAgain cX2_findAgain 5 (none) ∈ W0 := mw 574 (by decide +kernel) (by decide +kernel)
theorem ml_L_100 : Cond.methodLink RL 100 yX3_customer ∈ W0 := mw 575 (by decide +kernel) (by decide +kernel)
theorem mi_yX3_customer : Cond.instanceMethod yX3_customer ∈ W0 := mw 576 (by decide +kernel) (by decide +kernel)
theorem ms_yX3_customer : Cond.selects RX3 yX3_customer yX3_customer ∈ W0 := mw 577 (by decide +kernel) (by decide +kernel)
theorem mc_yX3_customer : Cond.code yX3_customer cX3_customer 3 (some .int) ∈ W0 := mw 578 (by decide +kernel) (by decide +kernel)
theorem ml_X3_103 : Cond.methodLink RX3 103 yX2_customerNumber ∈ W0 := mw 579 (by decide +kernel) (by decide +kernel)
theorem mi_yX2_customerNumber : Cond.instanceMethod yX2_customerNumber ∈ W0 := mw 580 (by decide +kernel) (by decide +kernel)
theorem ms_yX2_customerNumber : Cond.selects RX2 yX2_customerNumber yX2_customerNumber ∈ W0 := mw 581 (by decide +kernel) (by decide +kernel)
theorem mc_yX2_customerNumber : Cond.code yX2_customerNumber cX2_customerNumber 3 (some .int) ∈ W0 := mw 582 (by decide +kernel) (by decide +kernel)
theorem ml_X2_154 : Cond.methodLink RX2 154 yX2_lateBy ∈ W0 := mw 583 (by decide +kernel) (by decide +kernel)
theorem mi_yX2_lateBy : Cond.instanceMethod yX2_lateBy ∈ W0 := mw 585 (by decide +kernel) (by decide +kernel)
theorem mc_yX2_lateBy : Cond.code yX2_lateBy cX2_lateBy 4 (some .int) ∈ W0 := mw 586 (by decide +kernel) (by decide +kernel)
theorem ml_L_104 : Cond.methodLink RL 104 yX3_lostIn ∈ W0 := mw 587 (by decide +kernel) (by decide +kernel)
theorem mi_yX3_lostIn : Cond.instanceMethod yX3_lostIn ∈ W0 := mw 588 (by decide +kernel) (by decide +kernel)
theorem ms_yX3_lostIn : Cond.selects RX3 yX3_lostIn yX3_lostIn ∈ W0 := mw 589 (by decide +kernel) (by decide +kernel)
theorem mc_yX3_lostIn : Cond.code yX3_lostIn cX3_lostIn 2 (some .int) ∈ W0 := mw 590 (by decide +kernel) (by decide +kernel)
theorem ml_X3_106 : Cond.methodLink RX3 106 yX2_lostAfter ∈ W0 := mw 591 (by decide +kernel) (by decide +kernel)
theorem mi_yX2_lostAfter : Cond.instanceMethod yX2_lostAfter ∈ W0 := mw 592 (by decide +kernel) (by decide +kernel)
theorem ms_yX2_lostAfter : Cond.selects RX2 yX2_lostAfter yX2_lostAfter ∈ W0 := mw 593 (by decide +kernel) (by decide +kernel)
theorem mc_yX2_lostAfter : Cond.code yX2_lostAfter cX2_lostAfter 4 (some .int) ∈ W0 := mw 594 (by decide +kernel) (by decide +kernel)
theorem ml_L_108 : Cond.methodLink RL 108 yX3_agingOf ∈ W0 := mw 595 (by decide +kernel) (by decide +kernel)
theorem mi_yX3_agingOf : Cond.instanceMethod yX3_agingOf ∈ W0 := mw 596 (by decide +kernel) (by decide +kernel)
theorem ms_yX3_agingOf : Cond.selects RX3 yX3_agingOf yX3_agingOf ∈ W0 := mw 597 (by decide +kernel) (by decide +kernel)
theorem mc_yX3_agingOf : Cond.code yX3_agingOf cX3_agingOf 2 (some .int) ∈ W0 := mw 598 (by decide +kernel) (by decide +kernel)
theorem ml_X3_109 : Cond.methodLink RX3 109 yX2_agingBy ∈ W0 := mw 599 (by decide +kernel) (by decide +kernel)
theorem mi_yX2_agingBy : Cond.instanceMethod yX2_agingBy ∈ W0 := mw 600 (by decide +kernel) (by decide +kernel)
theorem ms_yX2_agingBy : Cond.selects RX2 yX2_agingBy yX2_agingBy ∈ W0 := mw 601 (by decide +kernel) (by decide +kernel)
theorem mc_yX2_agingBy : Cond.code yX2_agingBy cX2_agingBy 6 (some .int) ∈ W0 := mw 602 (by decide +kernel) (by decide +kernel)
theorem ml_X2_210 : Cond.methodLink RX2 210 yX2_isOwned ∈ W0 := mw 603 (by decide +kernel) (by decide +kernel)
theorem mi_yX2_isOwned : Cond.instanceMethod yX2_isOwned ∈ W0 := mw 605 (by decide +kernel) (by decide +kernel)
theorem mc_yX2_isOwned : Cond.code yX2_isOwned cX2_isOwned 2 (some .boolean) ∈ W0 := mw 606 (by decide +kernel) (by decide +kernel)
theorem ml_L_112 : Cond.methodLink RL 112 yX3_served ∈ W0 := mw 607 (by decide +kernel) (by decide +kernel)
theorem mi_yX3_served : Cond.instanceMethod yX3_served ∈ W0 := mw 608 (by decide +kernel) (by decide +kernel)
theorem ms_yX3_served : Cond.selects RX3 yX3_served yX3_served ∈ W0 := mw 609 (by decide +kernel) (by decide +kernel)
theorem mc_yX3_served : Cond.code yX3_served cX3_served 1 (some .int) ∈ W0 := mw 610 (by decide +kernel) (by decide +kernel)
theorem ml_X3_112 : Cond.methodLink RX3 112 yX2_servedStudents ∈ W0 := mw 611 (by decide +kernel) (by decide +kernel)
theorem mi_yX2_servedStudents : Cond.instanceMethod yX2_servedStudents ∈ W0 := mw 612 (by decide +kernel) (by decide +kernel)
theorem ms_yX2_servedStudents : Cond.selects RX2 yX2_servedStudents yX2_servedStudents ∈ W0 := mw 613 (by decide +kernel) (by decide +kernel)
theorem mc_yX2_servedStudents : Cond.code yX2_servedStudents cX2_servedStudents 3 (some .int) ∈ W0 := mw 614 (by decide +kernel) (by decide +kernel)
theorem ml_X2_213 : Cond.methodLink RX2 213 yX2_servedWith ∈ W0 := mw 615 (by decide +kernel) (by decide +kernel)
theorem mi_yX2_servedWith : Cond.instanceMethod yX2_servedWith ∈ W0 := mw 617 (by decide +kernel) (by decide +kernel)
theorem mc_yX2_servedWith : Cond.code yX2_servedWith cX2_servedWith 6 (some .int) ∈ W0 := mw 618 (by decide +kernel) (by decide +kernel)
theorem ml_X2_216 : Cond.methodLink RX2 216 yX2_stockOfEdition ∈ W0 := mw 619 (by decide +kernel) (by decide +kernel)
theorem mi_yX2_stockOfEdition : Cond.instanceMethod yX2_stockOfEdition ∈ W0 := mw 621 (by decide +kernel) (by decide +kernel)
theorem mc_yX2_stockOfEdition : Cond.code yX2_stockOfEdition cX2_stockOfEdition 5 (some .int) ∈ W0 := mw 622 (by decide +kernel) (by decide +kernel)
theorem ml_X2_219 : Cond.methodLink RX2 219 yX2_studentsFrom ∈ W0 := mw 623 (by decide +kernel) (by decide +kernel)
theorem mi_yX2_studentsFrom : Cond.instanceMethod yX2_studentsFrom ∈ W0 := mw 625 (by decide +kernel) (by decide +kernel)
theorem mc_yX2_studentsFrom : Cond.code yX2_studentsFrom cX2_studentsFrom 5 (some .int) ∈ W0 := mw 626 (by decide +kernel) (by decide +kernel)
theorem ml_L_117 : Cond.methodLink RL 117 yX3_undo ∈ W0 := mw 627 (by decide +kernel) (by decide +kernel)
theorem mi_yX3_undo : Cond.instanceMethod yX3_undo ∈ W0 := mw 628 (by decide +kernel) (by decide +kernel)
theorem ms_yX3_undo : Cond.selects RX3 yX3_undo yX3_undo ∈ W0 := mw 629 (by decide +kernel) (by decide +kernel)
theorem mc_yX3_undo : Cond.code yX3_undo cX3_undo 1 (some .int) ∈ W0 := mw 630 (by decide +kernel) (by decide +kernel)
theorem ml_X3_116 : Cond.methodLink RX3 116 yX0_restore ∈ W0 := mw 631 (by decide +kernel) (by decide +kernel)
theorem mi_yX0_restore : Cond.instanceMethod yX0_restore ∈ W0 := mw 632 (by decide +kernel) (by decide +kernel)
theorem ms_yX0_restore : Cond.selects RX0 yX0_restore yX0_restore ∈ W0 := mw 633 (by decide +kernel) (by decide +kernel)
theorem mc_yX0_restore : Cond.code yX0_restore cX0_restore 2 (some .int) ∈ W0 := mw 634 (by decide +kernel) (by decide +kernel)
theorem ml_L_121 : Cond.methodLink RL 121 yX3_type ∈ W0 := mw 635 (by decide +kernel) (by decide +kernel)
theorem mi_yX3_type : Cond.instanceMethod yX3_type ∈ W0 := mw 636 (by decide +kernel) (by decide +kernel)
theorem ms_yX3_type : Cond.selects RX3 yX3_type yX3_type ∈ W0 := mw 637 (by decide +kernel) (by decide +kernel)
theorem mc_yX3_type : Cond.code yX3_type cX3_type 2 (some .int) ∈ W0 := mw 638 (by decide +kernel) (by decide +kernel)
theorem ml_X3_120 : Cond.methodLink RX3 120 yX1_append ∈ W0 := mw 639 (by decide +kernel) (by decide +kernel)
theorem mi_yX1_append : Cond.instanceMethod yX1_append ∈ W0 := mw 640 (by decide +kernel) (by decide +kernel)
theorem ms_yX1_append : Cond.selects RX1 yX1_append yX1_append ∈ W0 := mw 641 (by decide +kernel) (by decide +kernel)
theorem mc_yX1_append : Cond.code yX1_append cX1_append 2 (some .int) ∈ W0 := mw 642 (by decide +kernel) (by decide +kernel)
theorem ml_L_125 : Cond.methodLink RL 125 yX3_clearText ∈ W0 := mw 643 (by decide +kernel) (by decide +kernel)
theorem mi_yX3_clearText : Cond.instanceMethod yX3_clearText ∈ W0 := mw 644 (by decide +kernel) (by decide +kernel)
theorem ms_yX3_clearText : Cond.selects RX3 yX3_clearText yX3_clearText ∈ W0 := mw 645 (by decide +kernel) (by decide +kernel)
theorem mc_yX3_clearText : Cond.code yX3_clearText cX3_clearText 1 (some .int) ∈ W0 := mw 646 (by decide +kernel) (by decide +kernel)
theorem ml_X3_123 : Cond.methodLink RX3 123 yX1_empty ∈ W0 := mw 647 (by decide +kernel) (by decide +kernel)
theorem mi_yX1_empty : Cond.instanceMethod yX1_empty ∈ W0 := mw 648 (by decide +kernel) (by decide +kernel)
theorem ms_yX1_empty : Cond.selects RX1 yX1_empty yX1_empty ∈ W0 := mw 649 (by decide +kernel) (by decide +kernel)
theorem mc_yX1_empty : Cond.code yX1_empty cX1_empty 2 (some .int) ∈ W0 := mw 650 (by decide +kernel) (by decide +kernel)
theorem ml_L_129 : Cond.methodLink RL 129 yX3_textFault ∈ W0 := mw 651 (by decide +kernel) (by decide +kernel)
theorem mi_yX3_textFault : Cond.instanceMethod yX3_textFault ∈ W0 := mw 652 (by decide +kernel) (by decide +kernel)
theorem ms_yX3_textFault : Cond.selects RX3 yX3_textFault yX3_textFault ∈ W0 := mw 653 (by decide +kernel) (by decide +kernel)
theorem mc_yX3_textFault : Cond.code yX3_textFault cX3_textFault 1 (some .int) ∈ W0 := mw 654 (by decide +kernel) (by decide +kernel)
theorem ml_X3_126 : Cond.methodLink RX3 126 yX1_faultOf ∈ W0 := mw 655 (by decide +kernel) (by decide +kernel)
theorem mi_yX1_faultOf : Cond.instanceMethod yX1_faultOf ∈ W0 := mw 656 (by decide +kernel) (by decide +kernel)
theorem ms_yX1_faultOf : Cond.selects RX1 yX1_faultOf yX1_faultOf ∈ W0 := mw 657 (by decide +kernel) (by decide +kernel)
theorem mc_yX1_faultOf : Cond.code yX1_faultOf cX1_faultOf 3 (some .int) ∈ W0 := mw 658 (by decide +kernel) (by decide +kernel)
theorem ml_X1_35 : Cond.methodLink RX1 35 yX1_startReading ∈ W0 := mw 659 (by decide +kernel) (by decide +kernel)
theorem mi_yX1_startReading : Cond.instanceMethod yX1_startReading ∈ W0 := mw 660 (by decide +kernel) (by decide +kernel)
theorem ms_yX1_startReading : Cond.selects RX1 yX1_startReading yX1_startReading ∈ W0 := mw 661 (by decide +kernel) (by decide +kernel)
theorem mc_yX1_startReading : Cond.code yX1_startReading cX1_startReading 1 (none) ∈ W0 := mw 662 (by decide +kernel) (by decide +kernel)
theorem ml_X1_38 : Cond.methodLink RX1 38 yX1_readOrder ∈ W0 := mw 663 (by decide +kernel) (by decide +kernel)
theorem mi_yX1_readOrder : Cond.instanceMethod yX1_readOrder ∈ W0 := mw 664 (by decide +kernel) (by decide +kernel)
theorem ms_yX1_readOrder : Cond.selects RX1 yX1_readOrder yX1_readOrder ∈ W0 := mw 665 (by decide +kernel) (by decide +kernel)
theorem mc_yX1_readOrder : Cond.code yX1_readOrder cX1_readOrder 2 (some .int) ∈ W0 := mw 666 (by decide +kernel) (by decide +kernel)
theorem ml_X1_42 : Cond.methodLink RX1 42 yX1_skipBlanks ∈ W0 := mw 667 (by decide +kernel) (by decide +kernel)
theorem mi_yX1_skipBlanks : Cond.instanceMethod yX1_skipBlanks ∈ W0 := mw 669 (by decide +kernel) (by decide +kernel)
theorem mc_yX1_skipBlanks : Cond.code yX1_skipBlanks cX1_skipBlanks 1 (none) ∈ W0 := mw 670 (by decide +kernel) (by decide +kernel)
theorem ml_X1_45 : Cond.methodLink RX1 45 yX1_readWord ∈ W0 := mw 671 (by decide +kernel) (by decide +kernel)
theorem mi_yX1_readWord : Cond.instanceMethod yX1_readWord ∈ W0 := mw 673 (by decide +kernel) (by decide +kernel)
theorem mc_yX1_readWord : Cond.code yX1_readWord cX1_readWord 2 (some .int) ∈ W0 := mw 674 (by decide +kernel) (by decide +kernel)
theorem ml_X1_63 : Cond.methodLink RX1 63 yX1_stands ∈ W0 := mw 676 (by decide +kernel) (by decide +kernel)
theorem mi_yX1_stands : Cond.instanceMethod yX1_stands ∈ W0 := mw 678 (by decide +kernel) (by decide +kernel)
theorem mc_yX1_stands : Cond.code yX1_stands cX1_stands 4 (some .boolean) ∈ W0 := mw 679 (by decide +kernel) (by decide +kernel)
theorem ml_X1_75 : Cond.methodLink RX1 75 yJ0_length_8abf5 ∈ W0 := mw 680 (by decide +kernel) (by decide +kernel)
theorem mi_yJ0_length_8abf5 : Cond.instanceMethod yJ0_length_8abf5 ∈ W0 := mw 681 (by decide +kernel) (by decide +kernel)
theorem ms_yJ0_length_8abf5 : Cond.selects RJ0 yJ0_length_8abf5 yJ0_length_8abf5 ∈ W0 := mw 682 (by decide +kernel) (by decide +kernel)
theorem mc_yJ0_length_8abf5 : Cond.code yJ0_length_8abf5 cJ0_length_8abf5 1 (some .int) ∈ W0 := mw 683 (by decide +kernel) (by decide +kernel)
theorem ml_J0_335 : Cond.methodLink RJ0 335 yJ0_coder_7d493 ∈ W0 := mw 684 (by decide +kernel) (by decide +kernel)
theorem mi_yJ0_coder_7d493 : Cond.instanceMethod yJ0_coder_7d493 ∈ W0 := mw 685 (by decide +kernel) (by decide +kernel)
theorem ms_yJ0_coder_7d493 : Cond.selects RJ0 yJ0_coder_7d493 yJ0_coder_7d493 ∈ W0 := mw 686 (by decide +kernel) (by decide +kernel)
theorem mc_yJ0_coder_7d493 : Cond.code yJ0_coder_7d493 cJ0_coder_7d493 1 (some .byte) ∈ W0 := mw 687 (by decide +kernel) (by decide +kernel)
theorem mf_J0_38 : Cond.fieldLink RJ0 38 "java/lang/String" "COMPACT_STRINGS" "Z" ∈ W0 := mw 688 (by decide +kernel) (by decide +kernel)
theorem ml_X1_79 : Cond.methodLink RX1 79 yJ0_charAt_5068e ∈ W0 := mw 690 (by decide +kernel) (by decide +kernel)
theorem mi_yJ0_charAt_5068e : Cond.instanceMethod yJ0_charAt_5068e ∈ W0 := mw 691 (by decide +kernel) (by decide +kernel)
theorem ms_yJ0_charAt_5068e : Cond.selects RJ0 yJ0_charAt_5068e yJ0_charAt_5068e ∈ W0 := mw 692 (by decide +kernel) (by decide +kernel)
theorem mc_yJ0_charAt_5068e : Cond.code yJ0_charAt_5068e cJ0_charAt_5068e 2 (some .char) ∈ W0 := mw 693 (by decide +kernel) (by decide +kernel)
theorem ml_J0_492 : Cond.methodLink RJ0 492 yJ0_isLatin1_aae02 ∈ W0 := mw 694 (by decide +kernel) (by decide +kernel)
theorem mi_yJ0_isLatin1_aae02 : Cond.instanceMethod yJ0_isLatin1_aae02 ∈ W0 := mw 695 (by decide +kernel) (by decide +kernel)
theorem ms_yJ0_isLatin1_aae02 : Cond.selects RJ0 yJ0_isLatin1_aae02 yJ0_isLatin1_aae02 ∈ W0 := mw 696 (by decide +kernel) (by decide +kernel)
theorem mc_yJ0_isLatin1_aae02 : Cond.code yJ0_isLatin1_aae02 cJ0_isLatin1_aae02 1 (some .boolean) ∈ W0 := mw 697 (by decide +kernel) (by decide +kernel)
theorem ml_J0_495 : Cond.methodLink RJ0 495 yJ1_charAt_3b067 ∈ W0 := mw 698 (by decide +kernel) (by decide +kernel)
theorem mst_yJ1_charAt_3b067 : Cond.static yJ1_charAt_3b067 ∈ W0 := mw 699 (by decide +kernel) (by decide +kernel)
theorem mc_yJ1_charAt_3b067 : Cond.code yJ1_charAt_3b067 cJ1_charAt_3b067 2 (some .char) ∈ W0 := mw 700 (by decide +kernel) (by decide +kernel)
theorem ml_J1_9 : Cond.methodLink RJ1 9 yJ0_checkIndex_df160 ∈ W0 := mw 701 (by decide +kernel) (by decide +kernel)
theorem mst_yJ0_checkIndex_df160 : Cond.static yJ0_checkIndex_df160 ∈ W0 := mw 702 (by decide +kernel) (by decide +kernel)
theorem mc_yJ0_checkIndex_df160 : Cond.code yJ0_checkIndex_df160 cJ0_checkIndex_df160 2 (none) ∈ W0 := mw 703 (by decide +kernel) (by decide +kernel)
theorem mf_J0_1053 : Cond.fieldLink RJ0 1053 "jdk/internal/util/Preconditions" "SIOOBE_FORMATTER" "Ljava/util/function/BiFunction;" ∈ W0 := mw 704 (by decide +kernel) (by decide +kernel)
theorem ml_J0_1059 : Cond.methodLink RJ0 1059 yJ3_checkIndex_8e157 ∈ W0 := mw 706 (by decide +kernel) (by decide +kernel)
theorem mst_yJ3_checkIndex_8e157 : Cond.static yJ3_checkIndex_8e157 ∈ W0 := mw 707 (by decide +kernel) (by decide +kernel)
theorem mc_yJ3_checkIndex_8e157 : Cond.code yJ3_checkIndex_8e157 cJ3_checkIndex_8e157 3 (some .int) ∈ W0 := mw 708 (by decide +kernel) (by decide +kernel)
theorem ml_J0_498 : Cond.methodLink RJ0 498 yJ2_charAt_3b067 ∈ W0 := mw 709 (by decide +kernel) (by decide +kernel)
theorem mst_yJ2_charAt_3b067 : Cond.static yJ2_charAt_3b067 ∈ W0 := mw 710 (by decide +kernel) (by decide +kernel)
theorem mc_yJ2_charAt_3b067 : Cond.code yJ2_charAt_3b067 cJ2_charAt_3b067 2 (some .char) ∈ W0 := mw 711 (by decide +kernel) (by decide +kernel)
theorem ml_J2_67 : Cond.methodLink RJ2 67 yJ2_checkIndex_2214a ∈ W0 := mw 712 (by decide +kernel) (by decide +kernel)
theorem mst_yJ2_checkIndex_2214a : Cond.static yJ2_checkIndex_2214a ∈ W0 := mw 713 (by decide +kernel) (by decide +kernel)
theorem mc_yJ2_checkIndex_2214a : Cond.code yJ2_checkIndex_2214a cJ2_checkIndex_2214a 2 (none) ∈ W0 := mw 714 (by decide +kernel) (by decide +kernel)
theorem ml_J2_48 : Cond.methodLink RJ2 48 yJ2_length_9d52b ∈ W0 := mw 715 (by decide +kernel) (by decide +kernel)
theorem mst_yJ2_length_9d52b : Cond.static yJ2_length_9d52b ∈ W0 := mw 716 (by decide +kernel) (by decide +kernel)
theorem mc_yJ2_length_9d52b : Cond.code yJ2_length_9d52b cJ2_length_9d52b 1 (some .int) ∈ W0 := mw 717 (by decide +kernel) (by decide +kernel)
theorem ml_J2_414 : Cond.methodLink RJ2 414 yJ0_checkIndex_df160 ∈ W0 := mw 718 (by decide +kernel) (by decide +kernel)
theorem ml_J2_71 : Cond.methodLink RJ2 71 yJ2_getChar_3b067 ∈ W0 := mw 719 (by decide +kernel) (by decide +kernel)
theorem mst_yJ2_getChar_3b067 : Cond.static yJ2_getChar_3b067 ∈ W0 := mw 720 (by decide +kernel) (by decide +kernel)
theorem mc_yJ2_getChar_3b067 : Cond.code yJ2_getChar_3b067 cJ2_getChar_3b067 2 (some .char) ∈ W0 := mw 721 (by decide +kernel) (by decide +kernel)
theorem mf_J2_44 : Cond.fieldLink RJ2 44 "java/lang/StringUTF16" "$assertionsDisabled" "Z" ∈ W0 := mw 722 (by decide +kernel) (by decide +kernel)
theorem mf_J2_59 : Cond.fieldLink RJ2 59 "java/lang/StringUTF16" "HI_BYTE_SHIFT" "I" ∈ W0 := mw 724 (by decide +kernel) (by decide +kernel)
theorem mf_J2_63 : Cond.fieldLink RJ2 63 "java/lang/StringUTF16" "LO_BYTE_SHIFT" "I" ∈ W0 := mw 726 (by decide +kernel) (by decide +kernel)
theorem ml_X1_48 : Cond.methodLink RX1 48 yX1_readNumber ∈ W0 := mw 732 (by decide +kernel) (by decide +kernel)
theorem mi_yX1_readNumber : Cond.instanceMethod yX1_readNumber ∈ W0 := mw 734 (by decide +kernel) (by decide +kernel)
theorem mc_yX1_readNumber : Cond.code yX1_readNumber cX1_readNumber 3 (some .int) ∈ W0 := mw 735 (by decide +kernel) (by decide +kernel)
theorem ml_X1_51 : Cond.methodLink RX1 51 yX1_takesTwo ∈ W0 := mw 736 (by decide +kernel) (by decide +kernel)
theorem mst_yX1_takesTwo : Cond.static yX1_takesTwo ∈ W0 := mw 737 (by decide +kernel) (by decide +kernel)
theorem mc_yX1_takesTwo : Cond.code yX1_takesTwo cX1_takesTwo 1 (some .boolean) ∈ W0 := mw 738 (by decide +kernel) (by decide +kernel)
theorem ml_X1_55 : Cond.methodLink RX1 55 yX1_here ∈ W0 := mw 739 (by decide +kernel) (by decide +kernel)
theorem mi_yX1_here : Cond.instanceMethod yX1_here ∈ W0 := mw 741 (by decide +kernel) (by decide +kernel)
theorem mc_yX1_here : Cond.code yX1_here cX1_here 1 (some .int) ∈ W0 := mw 742 (by decide +kernel) (by decide +kernel)
theorem ml_X1_58 : Cond.methodLink RX1 58 yX1_readEndOfOrder ∈ W0 := mw 743 (by decide +kernel) (by decide +kernel)
theorem mi_yX1_readEndOfOrder : Cond.instanceMethod yX1_readEndOfOrder ∈ W0 := mw 745 (by decide +kernel) (by decide +kernel)
theorem mc_yX1_readEndOfOrder : Cond.code yX1_readEndOfOrder cX1_readEndOfOrder 1 (some .int) ∈ W0 := mw 746 (by decide +kernel) (by decide +kernel)
theorem mac_byte : Cond.arrayClass .byte ∈ W0 := mw 747 (by decide +kernel) (by decide +kernel)
theorem ml_L_133 : Cond.methodLink RL 133 yX3_orders ∈ W0 := mw 748 (by decide +kernel) (by decide +kernel)
theorem mi_yX3_orders : Cond.instanceMethod yX3_orders ∈ W0 := mw 749 (by decide +kernel) (by decide +kernel)
theorem ms_yX3_orders : Cond.selects RX3 yX3_orders yX3_orders ∈ W0 := mw 750 (by decide +kernel) (by decide +kernel)
theorem mc_yX3_orders : Cond.code yX3_orders cX3_orders 2 (some .int) ∈ W0 := mw 751 (by decide +kernel) (by decide +kernel)
theorem ml_X3_129 : Cond.methodLink RX3 129 yX1_startReading ∈ W0 := mw 752 (by decide +kernel) (by decide +kernel)
theorem ml_X3_132 : Cond.methodLink RX3 132 yX1_hasMore ∈ W0 := mw 753 (by decide +kernel) (by decide +kernel)
theorem mi_yX1_hasMore : Cond.instanceMethod yX1_hasMore ∈ W0 := mw 754 (by decide +kernel) (by decide +kernel)
theorem ms_yX1_hasMore : Cond.selects RX1 yX1_hasMore yX1_hasMore ∈ W0 := mw 755 (by decide +kernel) (by decide +kernel)
theorem mc_yX1_hasMore : Cond.code yX1_hasMore cX1_hasMore 1 (some .boolean) ∈ W0 := mw 756 (by decide +kernel) (by decide +kernel)
theorem ml_X3_136 : Cond.methodLink RX3 136 yX1_readOrder ∈ W0 := mw 757 (by decide +kernel) (by decide +kernel)
theorem ml_X3_139 : Cond.methodLink RX3 139 yX3_carryOut ∈ W0 := mw 758 (by decide +kernel) (by decide +kernel)
theorem mi_yX3_carryOut : Cond.instanceMethod yX3_carryOut ∈ W0 := mw 760 (by decide +kernel) (by decide +kernel)
theorem mc_yX3_carryOut : Cond.code yX3_carryOut cX3_carryOut 1 (some .int) ∈ W0 := mw 761 (by decide +kernel) (by decide +kernel)
theorem ml_X3_156 : Cond.methodLink RX3 156 yX1_word ∈ W0 := mw 762 (by decide +kernel) (by decide +kernel)
theorem mi_yX1_word : Cond.instanceMethod yX1_word ∈ W0 := mw 763 (by decide +kernel) (by decide +kernel)
theorem ms_yX1_word : Cond.selects RX1 yX1_word yX1_word ∈ W0 := mw 764 (by decide +kernel) (by decide +kernel)
theorem mc_yX1_word : Cond.code yX1_word cX1_word 1 (some .int) ∈ W0 := mw 765 (by decide +kernel) (by decide +kernel)
theorem ml_X3_159 : Cond.methodLink RX3 159 yX1_first ∈ W0 := mw 766 (by decide +kernel) (by decide +kernel)
theorem mi_yX1_first : Cond.instanceMethod yX1_first ∈ W0 := mw 767 (by decide +kernel) (by decide +kernel)
theorem ms_yX1_first : Cond.selects RX1 yX1_first yX1_first ∈ W0 := mw 768 (by decide +kernel) (by decide +kernel)
theorem mc_yX1_first : Cond.code yX1_first cX1_first 1 (some .int) ∈ W0 := mw 769 (by decide +kernel) (by decide +kernel)
theorem ml_X3_162 : Cond.methodLink RX3 162 yX1_second ∈ W0 := mw 770 (by decide +kernel) (by decide +kernel)
theorem mi_yX1_second : Cond.instanceMethod yX1_second ∈ W0 := mw 771 (by decide +kernel) (by decide +kernel)
theorem ms_yX1_second : Cond.selects RX1 yX1_second yX1_second ∈ W0 := mw 772 (by decide +kernel) (by decide +kernel)
theorem mc_yX1_second : Cond.code yX1_second cX1_second 1 (some .int) ∈ W0 := mw 773 (by decide +kernel) (by decide +kernel)
theorem ml_L_137 : Cond.methodLink RL 137 yX3_digest ∈ W0 := mw 774 (by decide +kernel) (by decide +kernel)
theorem mi_yX3_digest : Cond.instanceMethod yX3_digest ∈ W0 := mw 775 (by decide +kernel) (by decide +kernel)
theorem ms_yX3_digest : Cond.selects RX3 yX3_digest yX3_digest ∈ W0 := mw 776 (by decide +kernel) (by decide +kernel)
theorem mc_yX3_digest : Cond.code yX3_digest cX3_digest 5 (some .long) ∈ W0 := mw 777 (by decide +kernel) (by decide +kernel)
theorem mk_X3_142 : Cond.constantLong RX3 142 (17 : Int64) ∈ W0 := mw 778 (by decide +kernel) (by decide +kernel)
theorem mk_X3_144 : Cond.constantLong RX3 144 (31 : Int64) ∈ W0 := mw 779 (by decide +kernel) (by decide +kernel)
theorem mcl_L_10 : Cond.classLink RL 10 RX4 ∈ W0 := mw 780 (by decide +kernel) (by decide +kernel)
theorem min_X4 : Cond.instantiable RX4 11 ∈ W0 := mw 781 (by decide +kernel) (by decide +kernel)
theorem ml_L_12 : Cond.methodLink RL 12 yX4_init ∈ W0 := mw 782 (by decide +kernel) (by decide +kernel)
theorem mi_yX4_init : Cond.instanceMethod yX4_init ∈ W0 := mw 783 (by decide +kernel) (by decide +kernel)
theorem mc_yX4_init : Cond.code yX4_init cX4_init 1 (none) ∈ W0 := mw 784 (by decide +kernel) (by decide +kernel)
theorem ml_X4_1 : Cond.methodLink RX4 1 objectInit ∈ W0 := mw 785 (by decide +kernel) (by decide +kernel)
theorem mf_X4_7 : Cond.fieldLink RX4 7 "BookRentalModel" "row" "[I" ∈ W0 := mw 786 (by decide +kernel) (by decide +kernel)
theorem mf_X4_22 : Cond.fieldLink RX4 22 "BookRentalModel" "saved" "I" ∈ W0 := mw 787 (by decide +kernel) (by decide +kernel)
theorem mf_X4_13 : Cond.fieldLink RX4 13 "BookRentalModel" "least" "[I" ∈ W0 := mw 788 (by decide +kernel) (by decide +kernel)
theorem mf_X4_16 : Cond.fieldLink RX4 16 "BookRentalModel" "most" "[I" ∈ W0 := mw 789 (by decide +kernel) (by decide +kernel)
theorem mf_X4_19 : Cond.fieldLink RX4 19 "BookRentalModel" "text" "[I" ∈ W0 := mw 790 (by decide +kernel) (by decide +kernel)
theorem mf_X4_192 : Cond.fieldLink RX4 192 "BookRentalModel" "length" "I" ∈ W0 := mw 791 (by decide +kernel) (by decide +kernel)
theorem mf_X4_195 : Cond.fieldLink RX4 195 "BookRentalModel" "at" "I" ∈ W0 := mw 792 (by decide +kernel) (by decide +kernel)
theorem mf_X4_202 : Cond.fieldLink RX4 202 "BookRentalModel" "read" "I" ∈ W0 := mw 793 (by decide +kernel) (by decide +kernel)
theorem mf_X4_226 : Cond.fieldLink RX4 226 "BookRentalModel" "done" "I" ∈ W0 := mw 794 (by decide +kernel) (by decide +kernel)
theorem mf_X4_219 : Cond.fieldLink RX4 219 "BookRentalModel" "goesOn" "Z" ∈ W0 := mw 795 (by decide +kernel) (by decide +kernel)
theorem mf_X4_238 : Cond.fieldLink RX4 238 "BookRentalModel" "h" "J" ∈ W0 := mw 796 (by decide +kernel) (by decide +kernel)
theorem my_X4_row : Cond.laysFinal "BookRentalModel" "BookRentalModel" "row" "[I" ∈ W0 := mw 797 (by decide +kernel) (by decide +kernel)
theorem my_X4_saved : Cond.lays "BookRentalModel" "BookRentalModel" "saved" "I" ∈ W0 := mw 799 (by decide +kernel) (by decide +kernel)
theorem my_X4_least : Cond.laysFinal "BookRentalModel" "BookRentalModel" "least" "[I" ∈ W0 := mw 801 (by decide +kernel) (by decide +kernel)
theorem my_X4_most : Cond.laysFinal "BookRentalModel" "BookRentalModel" "most" "[I" ∈ W0 := mw 803 (by decide +kernel) (by decide +kernel)
theorem my_X4_text : Cond.laysFinal "BookRentalModel" "BookRentalModel" "text" "[I" ∈ W0 := mw 805 (by decide +kernel) (by decide +kernel)
theorem my_X4_length : Cond.lays "BookRentalModel" "BookRentalModel" "length" "I" ∈ W0 := mw 807 (by decide +kernel) (by decide +kernel)
theorem my_X4_at : Cond.lays "BookRentalModel" "BookRentalModel" "at" "I" ∈ W0 := mw 809 (by decide +kernel) (by decide +kernel)
theorem my_X4_read : Cond.lays "BookRentalModel" "BookRentalModel" "read" "I" ∈ W0 := mw 811 (by decide +kernel) (by decide +kernel)
theorem my_X4_done : Cond.lays "BookRentalModel" "BookRentalModel" "done" "I" ∈ W0 := mw 813 (by decide +kernel) (by decide +kernel)
theorem my_X4_goesOn : Cond.lays "BookRentalModel" "BookRentalModel" "goesOn" "Z" ∈ W0 := mw 815 (by decide +kernel) (by decide +kernel)
theorem my_X4_h : Cond.lays "BookRentalModel" "BookRentalModel" "h" "J" ∈ W0 := mw 817 (by decide +kernel) (by decide +kernel)
theorem ml_L_17 : Cond.methodLink RL 17 yX4_addTitle ∈ W0 := mw 820 (by decide +kernel) (by decide +kernel)
theorem mi_yX4_addTitle : Cond.instanceMethod yX4_addTitle ∈ W0 := mw 821 (by decide +kernel) (by decide +kernel)
theorem ms_yX4_addTitle : Cond.selects RX4 yX4_addTitle yX4_addTitle ∈ W0 := mw 822 (by decide +kernel) (by decide +kernel)
theorem mc_yX4_addTitle : Cond.code yX4_addTitle cX4_addTitle 3 (some .int) ∈ W0 := mw 823 (by decide +kernel) (by decide +kernel)
theorem ml_X4_30 : Cond.methodLink RX4 30 yX4_in ∈ W0 := mw 824 (by decide +kernel) (by decide +kernel)
theorem mst_yX4_in : Cond.static yX4_in ∈ W0 := mw 825 (by decide +kernel) (by decide +kernel)
theorem mc_yX4_in : Cond.code yX4_in cX4_in 3 (some .boolean) ∈ W0 := mw 826 (by decide +kernel) (by decide +kernel)
theorem ml_X4_62 : Cond.methodLink RX4 62 yX4_saves ∈ W0 := mw 827 (by decide +kernel) (by decide +kernel)
theorem mi_yX4_saves : Cond.instanceMethod yX4_saves ∈ W0 := mw 829 (by decide +kernel) (by decide +kernel)
theorem mc_yX4_saves : Cond.code yX4_saves cX4_saves 2 (none) ∈ W0 := mw 830 (by decide +kernel) (by decide +kernel)
theorem ml_X4_26 : Cond.methodLink RX4 26 yX4_copies ∈ W0 := mw 831 (by decide +kernel) (by decide +kernel)
theorem mi_yX4_copies : Cond.instanceMethod yX4_copies ∈ W0 := mw 833 (by decide +kernel) (by decide +kernel)
theorem mc_yX4_copies : Cond.code yX4_copies cX4_copies 4 (none) ∈ W0 := mw 834 (by decide +kernel) (by decide +kernel)
theorem ml_L_21 : Cond.methodLink RL 21 yX4_setPrice ∈ W0 := mw 835 (by decide +kernel) (by decide +kernel)
theorem mi_yX4_setPrice : Cond.instanceMethod yX4_setPrice ∈ W0 := mw 836 (by decide +kernel) (by decide +kernel)
theorem ms_yX4_setPrice : Cond.selects RX4 yX4_setPrice yX4_setPrice ∈ W0 := mw 837 (by decide +kernel) (by decide +kernel)
theorem mc_yX4_setPrice : Cond.code yX4_setPrice cX4_setPrice 4 (some .int) ∈ W0 := mw 838 (by decide +kernel) (by decide +kernel)
theorem ml_X4_65 : Cond.methodLink RX4 65 yX4_isTitle ∈ W0 := mw 839 (by decide +kernel) (by decide +kernel)
theorem mi_yX4_isTitle : Cond.instanceMethod yX4_isTitle ∈ W0 := mw 841 (by decide +kernel) (by decide +kernel)
theorem mc_yX4_isTitle : Cond.code yX4_isTitle cX4_isTitle 2 (some .boolean) ∈ W0 := mw 842 (by decide +kernel) (by decide +kernel)
theorem ml_X4_38 : Cond.methodLink RX4 38 yX4_price ∈ W0 := mw 843 (by decide +kernel) (by decide +kernel)
theorem mi_yX4_price : Cond.instanceMethod yX4_price ∈ W0 := mw 845 (by decide +kernel) (by decide +kernel)
theorem mc_yX4_price : Cond.code yX4_price cX4_price 2 (some .int) ∈ W0 := mw 846 (by decide +kernel) (by decide +kernel)
theorem ml_L_26 : Cond.methodLink RL 26 yX4_newEdition ∈ W0 := mw 847 (by decide +kernel) (by decide +kernel)
theorem mi_yX4_newEdition : Cond.instanceMethod yX4_newEdition ∈ W0 := mw 848 (by decide +kernel) (by decide +kernel)
theorem ms_yX4_newEdition : Cond.selects RX4 yX4_newEdition yX4_newEdition ∈ W0 := mw 849 (by decide +kernel) (by decide +kernel)
theorem mc_yX4_newEdition : Cond.code yX4_newEdition cX4_newEdition 2 (some .int) ∈ W0 := mw 850 (by decide +kernel) (by decide +kernel)
theorem ml_X4_42 : Cond.methodLink RX4 42 yX4_current ∈ W0 := mw 851 (by decide +kernel) (by decide +kernel)
theorem mi_yX4_current : Cond.instanceMethod yX4_current ∈ W0 := mw 853 (by decide +kernel) (by decide +kernel)
theorem mc_yX4_current : Cond.code yX4_current cX4_current 2 (some .int) ∈ W0 := mw 854 (by decide +kernel) (by decide +kernel)
theorem ml_L_31 : Cond.methodLink RL 31 yX4_addCourse ∈ W0 := mw 855 (by decide +kernel) (by decide +kernel)
theorem mi_yX4_addCourse : Cond.instanceMethod yX4_addCourse ∈ W0 := mw 856 (by decide +kernel) (by decide +kernel)
theorem ms_yX4_addCourse : Cond.selects RX4 yX4_addCourse yX4_addCourse ∈ W0 := mw 857 (by decide +kernel) (by decide +kernel)
theorem mc_yX4_addCourse : Cond.code yX4_addCourse cX4_addCourse 5 (some .int) ∈ W0 := mw 858 (by decide +kernel) (by decide +kernel)
theorem ml_X4_69 : Cond.methodLink RX4 69 yX4_isCourseLike ∈ W0 := mw 859 (by decide +kernel) (by decide +kernel)
theorem mst_yX4_isCourseLike : Cond.static yX4_isCourseLike ∈ W0 := mw 860 (by decide +kernel) (by decide +kernel)
theorem mc_yX4_isCourseLike : Cond.code yX4_isCourseLike cX4_isCourseLike 2 (some .boolean) ∈ W0 := mw 861 (by decide +kernel) (by decide +kernel)
theorem ml_L_35 : Cond.methodLink RL 35 yX4_setCourse ∈ W0 := mw 862 (by decide +kernel) (by decide +kernel)
theorem mi_yX4_setCourse : Cond.instanceMethod yX4_setCourse ∈ W0 := mw 863 (by decide +kernel) (by decide +kernel)
theorem ms_yX4_setCourse : Cond.selects RX4 yX4_setCourse yX4_setCourse ∈ W0 := mw 864 (by decide +kernel) (by decide +kernel)
theorem mc_yX4_setCourse : Cond.code yX4_setCourse cX4_setCourse 5 (some .int) ∈ W0 := mw 865 (by decide +kernel) (by decide +kernel)
theorem ml_X4_72 : Cond.methodLink RX4 72 yX4_isCourse ∈ W0 := mw 866 (by decide +kernel) (by decide +kernel)
theorem mi_yX4_isCourse : Cond.instanceMethod yX4_isCourse ∈ W0 := mw 868 (by decide +kernel) (by decide +kernel)
theorem mc_yX4_isCourse : Cond.code yX4_isCourse cX4_isCourse 2 (some .boolean) ∈ W0 := mw 869 (by decide +kernel) (by decide +kernel)
theorem ml_X4_52 : Cond.methodLink RX4 52 yX4_ofCourse ∈ W0 := mw 870 (by decide +kernel) (by decide +kernel)
theorem mi_yX4_ofCourse : Cond.instanceMethod yX4_ofCourse ∈ W0 := mw 872 (by decide +kernel) (by decide +kernel)
theorem mc_yX4_ofCourse : Cond.code yX4_ofCourse cX4_ofCourse 3 (some .int) ∈ W0 := mw 873 (by decide +kernel) (by decide +kernel)
theorem ml_L_39 : Cond.methodLink RL 39 yX4_set ∈ W0 := mw 874 (by decide +kernel) (by decide +kernel)
theorem mi_yX4_set : Cond.instanceMethod yX4_set ∈ W0 := mw 875 (by decide +kernel) (by decide +kernel)
theorem ms_yX4_set : Cond.selects RX4 yX4_set yX4_set ∈ W0 := mw 876 (by decide +kernel) (by decide +kernel)
theorem mc_yX4_set : Cond.code yX4_set cX4_set 4 (some .int) ∈ W0 := mw 877 (by decide +kernel) (by decide +kernel)
theorem ml_L_43 : Cond.methodLink RL 43 yX4_count ∈ W0 := mw 878 (by decide +kernel) (by decide +kernel)
theorem mi_yX4_count : Cond.instanceMethod yX4_count ∈ W0 := mw 879 (by decide +kernel) (by decide +kernel)
theorem ms_yX4_count : Cond.selects RX4 yX4_count yX4_count ∈ W0 := mw 880 (by decide +kernel) (by decide +kernel)
theorem mc_yX4_count : Cond.code yX4_count cX4_count 2 (some .int) ∈ W0 := mw 881 (by decide +kernel) (by decide +kernel)
theorem ml_X4_78 : Cond.methodLink RX4 78 yX4_number ∈ W0 := mw 882 (by decide +kernel) (by decide +kernel)
theorem mi_yX4_number : Cond.instanceMethod yX4_number ∈ W0 := mw 884 (by decide +kernel) (by decide +kernel)
theorem mc_yX4_number : Cond.code yX4_number cX4_number 2 (some .int) ∈ W0 := mw 885 (by decide +kernel) (by decide +kernel)
theorem ml_X4_75 : Cond.methodLink RX4 75 yX4_inState ∈ W0 := mw 886 (by decide +kernel) (by decide +kernel)
theorem mi_yX4_inState : Cond.instanceMethod yX4_inState ∈ W0 := mw 888 (by decide +kernel) (by decide +kernel)
theorem mc_yX4_inState : Cond.code yX4_inState cX4_inState 4 (some .int) ∈ W0 := mw 889 (by decide +kernel) (by decide +kernel)
theorem ml_X4_55 : Cond.methodLink RX4 55 yX4_is ∈ W0 := mw 890 (by decide +kernel) (by decide +kernel)
theorem mi_yX4_is : Cond.instanceMethod yX4_is ∈ W0 := mw 892 (by decide +kernel) (by decide +kernel)
theorem mc_yX4_is : Cond.code yX4_is cX4_is 3 (some .boolean) ∈ W0 := mw 893 (by decide +kernel) (by decide +kernel)
theorem ml_X4_34 : Cond.methodLink RX4 34 yX4_of ∈ W0 := mw 894 (by decide +kernel) (by decide +kernel)
theorem mi_yX4_of : Cond.instanceMethod yX4_of ∈ W0 := mw 896 (by decide +kernel) (by decide +kernel)
theorem mc_yX4_of : Cond.code yX4_of cX4_of 3 (some .int) ∈ W0 := mw 897 (by decide +kernel) (by decide +kernel)
theorem ml_L_47 : Cond.methodLink RL 47 yX4_title ∈ W0 := mw 898 (by decide +kernel) (by decide +kernel)
theorem mi_yX4_title : Cond.instanceMethod yX4_title ∈ W0 := mw 899 (by decide +kernel) (by decide +kernel)
theorem ms_yX4_title : Cond.selects RX4 yX4_title yX4_title ∈ W0 := mw 900 (by decide +kernel) (by decide +kernel)
theorem mc_yX4_title : Cond.code yX4_title cX4_title 3 (some .int) ∈ W0 := mw 901 (by decide +kernel) (by decide +kernel)
theorem ml_X4_90 : Cond.methodLink RX4 90 yX4_titleNow ∈ W0 := mw 902 (by decide +kernel) (by decide +kernel)
theorem mi_yX4_titleNow : Cond.instanceMethod yX4_titleNow ∈ W0 := mw 904 (by decide +kernel) (by decide +kernel)
theorem mc_yX4_titleNow : Cond.code yX4_titleNow cX4_titleNow 3 (some .int) ∈ W0 := mw 905 (by decide +kernel) (by decide +kernel)
theorem ml_X4_81 : Cond.methodLink RX4 81 yX4_demand ∈ W0 := mw 906 (by decide +kernel) (by decide +kernel)
theorem mi_yX4_demand : Cond.instanceMethod yX4_demand ∈ W0 := mw 908 (by decide +kernel) (by decide +kernel)
theorem mc_yX4_demand : Cond.code yX4_demand cX4_demand 4 (some .int) ∈ W0 := mw 909 (by decide +kernel) (by decide +kernel)
theorem ml_X4_84 : Cond.methodLink RX4 84 yX4_supply ∈ W0 := mw 910 (by decide +kernel) (by decide +kernel)
theorem mi_yX4_supply : Cond.instanceMethod yX4_supply ∈ W0 := mw 912 (by decide +kernel) (by decide +kernel)
theorem mc_yX4_supply : Cond.code yX4_supply cX4_supply 4 (some .int) ∈ W0 := mw 913 (by decide +kernel) (by decide +kernel)
theorem ml_X4_59 : Cond.methodLink RX4 59 yX4_isOfUse ∈ W0 := mw 914 (by decide +kernel) (by decide +kernel)
theorem mi_yX4_isOfUse : Cond.instanceMethod yX4_isOfUse ∈ W0 := mw 916 (by decide +kernel) (by decide +kernel)
theorem mc_yX4_isOfUse : Cond.code yX4_isOfUse cX4_isOfUse 5 (some .boolean) ∈ W0 := mw 917 (by decide +kernel) (by decide +kernel)
theorem ml_X4_87 : Cond.methodLink RX4 87 yX4_ofTitle ∈ W0 := mw 918 (by decide +kernel) (by decide +kernel)
theorem mi_yX4_ofTitle : Cond.instanceMethod yX4_ofTitle ∈ W0 := mw 920 (by decide +kernel) (by decide +kernel)
theorem mc_yX4_ofTitle : Cond.code yX4_ofTitle cX4_ofTitle 5 (some .int) ∈ W0 := mw 921 (by decide +kernel) (by decide +kernel)
theorem ml_L_51 : Cond.methodLink RL 51 yX4_course ∈ W0 := mw 922 (by decide +kernel) (by decide +kernel)
theorem mi_yX4_course : Cond.instanceMethod yX4_course ∈ W0 := mw 923 (by decide +kernel) (by decide +kernel)
theorem ms_yX4_course : Cond.selects RX4 yX4_course yX4_course ∈ W0 := mw 924 (by decide +kernel) (by decide +kernel)
theorem mc_yX4_course : Cond.code yX4_course cX4_course 3 (some .int) ∈ W0 := mw 925 (by decide +kernel) (by decide +kernel)
theorem ml_X4_96 : Cond.methodLink RX4 96 yX4_courseNow ∈ W0 := mw 926 (by decide +kernel) (by decide +kernel)
theorem mi_yX4_courseNow : Cond.instanceMethod yX4_courseNow ∈ W0 := mw 928 (by decide +kernel) (by decide +kernel)
theorem mc_yX4_courseNow : Cond.code yX4_courseNow cX4_courseNow 5 (some .int) ∈ W0 := mw 929 (by decide +kernel) (by decide +kernel)
theorem ml_X4_93 : Cond.methodLink RX4 93 yX4_takes ∈ W0 := mw 930 (by decide +kernel) (by decide +kernel)
theorem mi_yX4_takes : Cond.instanceMethod yX4_takes ∈ W0 := mw 932 (by decide +kernel) (by decide +kernel)
theorem mc_yX4_takes : Cond.code yX4_takes cX4_takes 3 (some .boolean) ∈ W0 := mw 933 (by decide +kernel) (by decide +kernel)
theorem ml_L_55 : Cond.methodLink RL 55 yX4_copy ∈ W0 := mw 934 (by decide +kernel) (by decide +kernel)
theorem mi_yX4_copy : Cond.instanceMethod yX4_copy ∈ W0 := mw 935 (by decide +kernel) (by decide +kernel)
theorem ms_yX4_copy : Cond.selects RX4 yX4_copy yX4_copy ∈ W0 := mw 936 (by decide +kernel) (by decide +kernel)
theorem mc_yX4_copy : Cond.code yX4_copy cX4_copy 3 (some .int) ∈ W0 := mw 937 (by decide +kernel) (by decide +kernel)
theorem ml_X4_105 : Cond.methodLink RX4 105 yX4_isCopy ∈ W0 := mw 938 (by decide +kernel) (by decide +kernel)
theorem mi_yX4_isCopy : Cond.instanceMethod yX4_isCopy ∈ W0 := mw 940 (by decide +kernel) (by decide +kernel)
theorem mc_yX4_isCopy : Cond.code yX4_isCopy cX4_isCopy 2 (some .boolean) ∈ W0 := mw 941 (by decide +kernel) (by decide +kernel)
theorem ml_X4_108 : Cond.methodLink RX4 108 yX4_copyNow ∈ W0 := mw 942 (by decide +kernel) (by decide +kernel)
theorem mi_yX4_copyNow : Cond.instanceMethod yX4_copyNow ∈ W0 := mw 944 (by decide +kernel) (by decide +kernel)
theorem mc_yX4_copyNow : Cond.code yX4_copyNow cX4_copyNow 3 (some .int) ∈ W0 := mw 945 (by decide +kernel) (by decide +kernel)
theorem ml_X4_99 : Cond.methodLink RX4 99 yX4_worthOf ∈ W0 := mw 946 (by decide +kernel) (by decide +kernel)
theorem mi_yX4_worthOf : Cond.instanceMethod yX4_worthOf ∈ W0 := mw 948 (by decide +kernel) (by decide +kernel)
theorem mc_yX4_worthOf : Cond.code yX4_worthOf cX4_worthOf 2 (some .int) ∈ W0 := mw 949 (by decide +kernel) (by decide +kernel)
theorem ml_X4_48 : Cond.methodLink RX4 48 yX4_worth ∈ W0 := mw 950 (by decide +kernel) (by decide +kernel)
theorem mi_yX4_worth : Cond.instanceMethod yX4_worth ∈ W0 := mw 952 (by decide +kernel) (by decide +kernel)
theorem mc_yX4_worth : Cond.code yX4_worth cX4_worth 6 (some .int) ∈ W0 := mw 953 (by decide +kernel) (by decide +kernel)
theorem ml_X4_45 : Cond.methodLink RX4 45 yX4_lesser ∈ W0 := mw 954 (by decide +kernel) (by decide +kernel)
theorem mst_yX4_lesser : Cond.static yX4_lesser ∈ W0 := mw 955 (by decide +kernel) (by decide +kernel)
theorem mc_yX4_lesser : Cond.code yX4_lesser cX4_lesser 2 (some .int) ∈ W0 := mw 956 (by decide +kernel) (by decide +kernel)
theorem ml_X4_102 : Cond.methodLink RX4 102 yX4_late ∈ W0 := mw 957 (by decide +kernel) (by decide +kernel)
theorem mi_yX4_late : Cond.instanceMethod yX4_late ∈ W0 := mw 959 (by decide +kernel) (by decide +kernel)
theorem mc_yX4_late : Cond.code yX4_late cX4_late 2 (some .int) ∈ W0 := mw 960 (by decide +kernel) (by decide +kernel)
theorem ml_L_59 : Cond.methodLink RL 59 yX4_book ∈ W0 := mw 961 (by decide +kernel) (by decide +kernel)
theorem mi_yX4_book : Cond.instanceMethod yX4_book ∈ W0 := mw 962 (by decide +kernel) (by decide +kernel)
theorem ms_yX4_book : Cond.selects RX4 yX4_book yX4_book ∈ W0 := mw 963 (by decide +kernel) (by decide +kernel)
theorem mc_yX4_book : Cond.code yX4_book cX4_book 2 (some .int) ∈ W0 := mw 964 (by decide +kernel) (by decide +kernel)
theorem ml_X4_112 : Cond.methodLink RX4 112 yX4_sum ∈ W0 := mw 965 (by decide +kernel) (by decide +kernel)
theorem mi_yX4_sum : Cond.instanceMethod yX4_sum ∈ W0 := mw 967 (by decide +kernel) (by decide +kernel)
theorem mc_yX4_sum : Cond.code yX4_sum cX4_sum 4 (some .int) ∈ W0 := mw 968 (by decide +kernel) (by decide +kernel)
theorem mk_X4_111 : Cond.constant RX4 111 (100000000 : Int32) ∈ W0 := mw 969 (by decide +kernel) (by decide +kernel)
theorem ml_L_63 : Cond.methodLink RL 63 yX4_buy ∈ W0 := mw 970 (by decide +kernel) (by decide +kernel)
theorem mi_yX4_buy : Cond.instanceMethod yX4_buy ∈ W0 := mw 971 (by decide +kernel) (by decide +kernel)
theorem ms_yX4_buy : Cond.selects RX4 yX4_buy yX4_buy ∈ W0 := mw 972 (by decide +kernel) (by decide +kernel)
theorem mc_yX4_buy : Cond.code yX4_buy cX4_buy 4 (some .int) ∈ W0 := mw 973 (by decide +kernel) (by decide +kernel)
theorem ml_X4_122 : Cond.methodLink RX4 122 yX4_cannotBuy ∈ W0 := mw 974 (by decide +kernel) (by decide +kernel)
theorem mi_yX4_cannotBuy : Cond.instanceMethod yX4_cannotBuy ∈ W0 := mw 976 (by decide +kernel) (by decide +kernel)
theorem mc_yX4_cannotBuy : Cond.code yX4_cannotBuy cX4_cannotBuy 3 (some .int) ∈ W0 := mw 977 (by decide +kernel) (by decide +kernel)
theorem ml_X4_125 : Cond.methodLink RX4 125 yX4_buys ∈ W0 := mw 978 (by decide +kernel) (by decide +kernel)
theorem mi_yX4_buys : Cond.instanceMethod yX4_buys ∈ W0 := mw 980 (by decide +kernel) (by decide +kernel)
theorem mc_yX4_buys : Cond.code yX4_buys cX4_buys 5 (some .int) ∈ W0 := mw 981 (by decide +kernel) (by decide +kernel)
theorem ml_X4_119 : Cond.methodLink RX4 119 yX4_comes ∈ W0 := mw 982 (by decide +kernel) (by decide +kernel)
theorem mi_yX4_comes : Cond.instanceMethod yX4_comes ∈ W0 := mw 984 (by decide +kernel) (by decide +kernel)
theorem mc_yX4_comes : Cond.code yX4_comes cX4_comes 5 (none) ∈ W0 := mw 985 (by decide +kernel) (by decide +kernel)
theorem ml_X4_115 : Cond.methodLink RX4 115 yX4_sets ∈ W0 := mw 986 (by decide +kernel) (by decide +kernel)
theorem mi_yX4_sets : Cond.instanceMethod yX4_sets ∈ W0 := mw 988 (by decide +kernel) (by decide +kernel)
theorem mc_yX4_sets : Cond.code yX4_sets cX4_sets 4 (none) ∈ W0 := mw 989 (by decide +kernel) (by decide +kernel)
theorem ml_L_67 : Cond.methodLink RL 67 yX4_offer ∈ W0 := mw 990 (by decide +kernel) (by decide +kernel)
theorem mi_yX4_offer : Cond.instanceMethod yX4_offer ∈ W0 := mw 991 (by decide +kernel) (by decide +kernel)
theorem ms_yX4_offer : Cond.selects RX4 yX4_offer yX4_offer ∈ W0 := mw 992 (by decide +kernel) (by decide +kernel)
theorem mc_yX4_offer : Cond.code yX4_offer cX4_offer 5 (some .int) ∈ W0 := mw 993 (by decide +kernel) (by decide +kernel)
theorem ml_X4_128 : Cond.methodLink RX4 128 yX4_cannotOffer ∈ W0 := mw 994 (by decide +kernel) (by decide +kernel)
theorem mi_yX4_cannotOffer : Cond.instanceMethod yX4_cannotOffer ∈ W0 := mw 996 (by decide +kernel) (by decide +kernel)
theorem mc_yX4_cannotOffer : Cond.code yX4_cannotOffer cX4_cannotOffer 4 (some .int) ∈ W0 := mw 997 (by decide +kernel) (by decide +kernel)
theorem ml_X4_131 : Cond.methodLink RX4 131 yX4_offered ∈ W0 := mw 998 (by decide +kernel) (by decide +kernel)
theorem mi_yX4_offered : Cond.instanceMethod yX4_offered ∈ W0 := mw 1000 (by decide +kernel) (by decide +kernel)
theorem mc_yX4_offered : Cond.code yX4_offered cX4_offered 5 (some .int) ∈ W0 := mw 1001 (by decide +kernel) (by decide +kernel)
theorem ml_L_71 : Cond.methodLink RL 71 yX4_buyBack ∈ W0 := mw 1002 (by decide +kernel) (by decide +kernel)
theorem mi_yX4_buyBack : Cond.instanceMethod yX4_buyBack ∈ W0 := mw 1003 (by decide +kernel) (by decide +kernel)
theorem ms_yX4_buyBack : Cond.selects RX4 yX4_buyBack yX4_buyBack ∈ W0 := mw 1004 (by decide +kernel) (by decide +kernel)
theorem mc_yX4_buyBack : Cond.code yX4_buyBack cX4_buyBack 6 (some .int) ∈ W0 := mw 1005 (by decide +kernel) (by decide +kernel)
theorem ml_L_75 : Cond.methodLink RL 75 yX4_sell ∈ W0 := mw 1006 (by decide +kernel) (by decide +kernel)
theorem mi_yX4_sell : Cond.instanceMethod yX4_sell ∈ W0 := mw 1007 (by decide +kernel) (by decide +kernel)
theorem ms_yX4_sell : Cond.selects RX4 yX4_sell yX4_sell ∈ W0 := mw 1008 (by decide +kernel) (by decide +kernel)
theorem mc_yX4_sell : Cond.code yX4_sell cX4_sell 3 (some .int) ∈ W0 := mw 1009 (by decide +kernel) (by decide +kernel)
theorem ml_X4_137 : Cond.methodLink RX4 137 yX4_cannotSell ∈ W0 := mw 1010 (by decide +kernel) (by decide +kernel)
theorem mi_yX4_cannotSell : Cond.instanceMethod yX4_cannotSell ∈ W0 := mw 1012 (by decide +kernel) (by decide +kernel)
theorem mc_yX4_cannotSell : Cond.code yX4_cannotSell cX4_cannotSell 2 (some .int) ∈ W0 := mw 1013 (by decide +kernel) (by decide +kernel)
theorem ml_X4_140 : Cond.methodLink RX4 140 yX4_sells ∈ W0 := mw 1014 (by decide +kernel) (by decide +kernel)
theorem mi_yX4_sells : Cond.instanceMethod yX4_sells ∈ W0 := mw 1016 (by decide +kernel) (by decide +kernel)
theorem mc_yX4_sells : Cond.code yX4_sells cX4_sells 3 (some .int) ∈ W0 := mw 1017 (by decide +kernel) (by decide +kernel)
theorem ml_X4_134 : Cond.methodLink RX4 134 yX4_goes ∈ W0 := mw 1018 (by decide +kernel) (by decide +kernel)
theorem mi_yX4_goes : Cond.instanceMethod yX4_goes ∈ W0 := mw 1020 (by decide +kernel) (by decide +kernel)
theorem mc_yX4_goes : Cond.code yX4_goes cX4_goes 3 (none) ∈ W0 := mw 1021 (by decide +kernel) (by decide +kernel)
theorem ml_L_79 : Cond.methodLink RL 79 yX4_rent ∈ W0 := mw 1022 (by decide +kernel) (by decide +kernel)
theorem mi_yX4_rent : Cond.instanceMethod yX4_rent ∈ W0 := mw 1023 (by decide +kernel) (by decide +kernel)
theorem ms_yX4_rent : Cond.selects RX4 yX4_rent yX4_rent ∈ W0 := mw 1024 (by decide +kernel) (by decide +kernel)
theorem mc_yX4_rent : Cond.code yX4_rent cX4_rent 4 (some .int) ∈ W0 := mw 1025 (by decide +kernel) (by decide +kernel)
theorem ml_X4_155 : Cond.methodLink RX4 155 yX4_cannotRent ∈ W0 := mw 1026 (by decide +kernel) (by decide +kernel)
theorem mi_yX4_cannotRent : Cond.instanceMethod yX4_cannotRent ∈ W0 := mw 1028 (by decide +kernel) (by decide +kernel)
theorem mc_yX4_cannotRent : Cond.code yX4_cannotRent cX4_cannotRent 3 (some .int) ∈ W0 := mw 1029 (by decide +kernel) (by decide +kernel)
theorem ml_X4_143 : Cond.methodLink RX4 143 yX4_isCustomer ∈ W0 := mw 1030 (by decide +kernel) (by decide +kernel)
theorem mst_yX4_isCustomer : Cond.static yX4_isCustomer ∈ W0 := mw 1031 (by decide +kernel) (by decide +kernel)
theorem mc_yX4_isCustomer : Cond.code yX4_isCustomer cX4_isCustomer 1 (some .boolean) ∈ W0 := mw 1032 (by decide +kernel) (by decide +kernel)
theorem ml_X4_146 : Cond.methodLink RX4 146 yX4_canRent ∈ W0 := mw 1033 (by decide +kernel) (by decide +kernel)
theorem mi_yX4_canRent : Cond.instanceMethod yX4_canRent ∈ W0 := mw 1035 (by decide +kernel) (by decide +kernel)
theorem mc_yX4_canRent : Cond.code yX4_canRent cX4_canRent 6 (some .boolean) ∈ W0 := mw 1036 (by decide +kernel) (by decide +kernel)
theorem ml_X4_149 : Cond.methodLink RX4 149 yX4_nextOf ∈ W0 := mw 1037 (by decide +kernel) (by decide +kernel)
theorem mi_yX4_nextOf : Cond.instanceMethod yX4_nextOf ∈ W0 := mw 1039 (by decide +kernel) (by decide +kernel)
theorem mc_yX4_nextOf : Cond.code yX4_nextOf cX4_nextOf 5 (some .int) ∈ W0 := mw 1040 (by decide +kernel) (by decide +kernel)
theorem ml_X4_158 : Cond.methodLink RX4 158 yX4_rents ∈ W0 := mw 1041 (by decide +kernel) (by decide +kernel)
theorem mi_yX4_rents : Cond.instanceMethod yX4_rents ∈ W0 := mw 1043 (by decide +kernel) (by decide +kernel)
theorem mc_yX4_rents : Cond.code yX4_rents cX4_rents 4 (some .int) ∈ W0 := mw 1044 (by decide +kernel) (by decide +kernel)
theorem ml_X4_152 : Cond.methodLink RX4 152 yX4_charges ∈ W0 := mw 1045 (by decide +kernel) (by decide +kernel)
theorem mi_yX4_charges : Cond.instanceMethod yX4_charges ∈ W0 := mw 1047 (by decide +kernel) (by decide +kernel)
theorem mc_yX4_charges : Cond.code yX4_charges cX4_charges 4 (none) ∈ W0 := mw 1048 (by decide +kernel) (by decide +kernel)
theorem ml_L_83 : Cond.methodLink RL 83 yX4_next ∈ W0 := mw 1049 (by decide +kernel) (by decide +kernel)
theorem mi_yX4_next : Cond.instanceMethod yX4_next ∈ W0 := mw 1050 (by decide +kernel) (by decide +kernel)
theorem ms_yX4_next : Cond.selects RX4 yX4_next yX4_next ∈ W0 := mw 1051 (by decide +kernel) (by decide +kernel)
theorem mc_yX4_next : Cond.code yX4_next cX4_next 2 (some .int) ∈ W0 := mw 1052 (by decide +kernel) (by decide +kernel)
theorem ml_L_87 : Cond.methodLink RL 87 yX4_giveBack ∈ W0 := mw 1053 (by decide +kernel) (by decide +kernel)
theorem mi_yX4_giveBack : Cond.instanceMethod yX4_giveBack ∈ W0 := mw 1054 (by decide +kernel) (by decide +kernel)
theorem ms_yX4_giveBack : Cond.selects RX4 yX4_giveBack yX4_giveBack ∈ W0 := mw 1055 (by decide +kernel) (by decide +kernel)
theorem mc_yX4_giveBack : Cond.code yX4_giveBack cX4_giveBack 4 (some .int) ∈ W0 := mw 1056 (by decide +kernel) (by decide +kernel)
theorem ml_X4_167 : Cond.methodLink RX4 167 yX4_cannotGive ∈ W0 := mw 1057 (by decide +kernel) (by decide +kernel)
theorem mi_yX4_cannotGive : Cond.instanceMethod yX4_cannotGive ∈ W0 := mw 1059 (by decide +kernel) (by decide +kernel)
theorem mc_yX4_cannotGive : Cond.code yX4_cannotGive cX4_cannotGive 3 (some .int) ∈ W0 := mw 1060 (by decide +kernel) (by decide +kernel)
theorem ml_X4_170 : Cond.methodLink RX4 170 yX4_gives ∈ W0 := mw 1061 (by decide +kernel) (by decide +kernel)
theorem mi_yX4_gives : Cond.instanceMethod yX4_gives ∈ W0 := mw 1063 (by decide +kernel) (by decide +kernel)
theorem mc_yX4_gives : Cond.code yX4_gives cX4_gives 6 (some .int) ∈ W0 := mw 1064 (by decide +kernel) (by decide +kernel)
theorem ml_X4_161 : Cond.methodLink RX4 161 yX4_lateCharge ∈ W0 := mw 1065 (by decide +kernel) (by decide +kernel)
theorem mi_yX4_lateCharge : Cond.instanceMethod yX4_lateCharge ∈ W0 := mw 1067 (by decide +kernel) (by decide +kernel)
theorem mc_yX4_lateCharge : Cond.code yX4_lateCharge cX4_lateCharge 2 (some .int) ∈ W0 := mw 1068 (by decide +kernel) (by decide +kernel)
theorem ml_X4_164 : Cond.methodLink RX4 164 yX4_damageCharge ∈ W0 := mw 1069 (by decide +kernel) (by decide +kernel)
theorem mi_yX4_damageCharge : Cond.instanceMethod yX4_damageCharge ∈ W0 := mw 1071 (by decide +kernel) (by decide +kernel)
theorem mc_yX4_damageCharge : Cond.code yX4_damageCharge cX4_damageCharge 4 (some .int) ∈ W0 := mw 1072 (by decide +kernel) (by decide +kernel)
theorem ml_L_91 : Cond.methodLink RL 91 yX4_charge ∈ W0 := mw 1073 (by decide +kernel) (by decide +kernel)
theorem mi_yX4_charge : Cond.instanceMethod yX4_charge ∈ W0 := mw 1074 (by decide +kernel) (by decide +kernel)
theorem ms_yX4_charge : Cond.selects RX4 yX4_charge yX4_charge ∈ W0 := mw 1075 (by decide +kernel) (by decide +kernel)
theorem mc_yX4_charge : Cond.code yX4_charge cX4_charge 4 (some .int) ∈ W0 := mw 1076 (by decide +kernel) (by decide +kernel)
theorem ml_L_95 : Cond.methodLink RL 95 yX4_pass ∈ W0 := mw 1077 (by decide +kernel) (by decide +kernel)
theorem mi_yX4_pass : Cond.instanceMethod yX4_pass ∈ W0 := mw 1078 (by decide +kernel) (by decide +kernel)
theorem ms_yX4_pass : Cond.selects RX4 yX4_pass yX4_pass ∈ W0 := mw 1079 (by decide +kernel) (by decide +kernel)
theorem mc_yX4_pass : Cond.code yX4_pass cX4_pass 3 (some .int) ∈ W0 := mw 1080 (by decide +kernel) (by decide +kernel)
theorem ml_X4_174 : Cond.methodLink RX4 174 yX4_cannotPass ∈ W0 := mw 1081 (by decide +kernel) (by decide +kernel)
theorem mi_yX4_cannotPass : Cond.instanceMethod yX4_cannotPass ∈ W0 := mw 1083 (by decide +kernel) (by decide +kernel)
theorem mc_yX4_cannotPass : Cond.code yX4_cannotPass cX4_cannotPass 2 (some .int) ∈ W0 := mw 1084 (by decide +kernel) (by decide +kernel)
theorem mk_X4_173 : Cond.constant RX4 173 (100000 : Int32) ∈ W0 := mw 1085 (by decide +kernel) (by decide +kernel)
theorem ml_X4_177 : Cond.methodLink RX4 177 yX4_passes ∈ W0 := mw 1086 (by decide +kernel) (by decide +kernel)
theorem mi_yX4_passes : Cond.instanceMethod yX4_passes ∈ W0 := mw 1088 (by decide +kernel) (by decide +kernel)
theorem mc_yX4_passes : Cond.code yX4_passes cX4_passes 4 (some .int) ∈ W0 := mw 1089 (by decide +kernel) (by decide +kernel)
theorem ml_L_99 : Cond.methodLink RL 99 yX4_shelf ∈ W0 := mw 1090 (by decide +kernel) (by decide +kernel)
theorem mi_yX4_shelf : Cond.instanceMethod yX4_shelf ∈ W0 := mw 1091 (by decide +kernel) (by decide +kernel)
theorem ms_yX4_shelf : Cond.selects RX4 yX4_shelf yX4_shelf ∈ W0 := mw 1092 (by decide +kernel) (by decide +kernel)
theorem mc_yX4_shelf : Cond.code yX4_shelf cX4_shelf 5 (some .int) ∈ W0 := mw 1093 (by decide +kernel) (by decide +kernel)
theorem ml_L_103 : Cond.methodLink RL 103 yX4_customer ∈ W0 := mw 1094 (by decide +kernel) (by decide +kernel)
theorem mi_yX4_customer : Cond.instanceMethod yX4_customer ∈ W0 := mw 1095 (by decide +kernel) (by decide +kernel)
theorem ms_yX4_customer : Cond.selects RX4 yX4_customer yX4_customer ∈ W0 := mw 1096 (by decide +kernel) (by decide +kernel)
theorem mc_yX4_customer : Cond.code yX4_customer cX4_customer 3 (some .int) ∈ W0 := mw 1097 (by decide +kernel) (by decide +kernel)
theorem ml_X4_180 : Cond.methodLink RX4 180 yX4_customerNow ∈ W0 := mw 1098 (by decide +kernel) (by decide +kernel)
theorem mi_yX4_customerNow : Cond.instanceMethod yX4_customerNow ∈ W0 := mw 1100 (by decide +kernel) (by decide +kernel)
theorem mc_yX4_customerNow : Cond.code yX4_customerNow cX4_customerNow 5 (some .int) ∈ W0 := mw 1101 (by decide +kernel) (by decide +kernel)
theorem ml_L_107 : Cond.methodLink RL 107 yX4_lostIn ∈ W0 := mw 1102 (by decide +kernel) (by decide +kernel)
theorem mi_yX4_lostIn : Cond.instanceMethod yX4_lostIn ∈ W0 := mw 1103 (by decide +kernel) (by decide +kernel)
theorem ms_yX4_lostIn : Cond.selects RX4 yX4_lostIn yX4_lostIn ∈ W0 := mw 1104 (by decide +kernel) (by decide +kernel)
theorem mc_yX4_lostIn : Cond.code yX4_lostIn cX4_lostIn 4 (some .int) ∈ W0 := mw 1105 (by decide +kernel) (by decide +kernel)
theorem ml_L_111 : Cond.methodLink RL 111 yX4_agingOf ∈ W0 := mw 1106 (by decide +kernel) (by decide +kernel)
theorem mi_yX4_agingOf : Cond.instanceMethod yX4_agingOf ∈ W0 := mw 1107 (by decide +kernel) (by decide +kernel)
theorem ms_yX4_agingOf : Cond.selects RX4 yX4_agingOf yX4_agingOf ∈ W0 := mw 1108 (by decide +kernel) (by decide +kernel)
theorem mc_yX4_agingOf : Cond.code yX4_agingOf cX4_agingOf 4 (some .int) ∈ W0 := mw 1109 (by decide +kernel) (by decide +kernel)
theorem ml_X4_183 : Cond.methodLink RX4 183 yX4_owned ∈ W0 := mw 1110 (by decide +kernel) (by decide +kernel)
theorem mi_yX4_owned : Cond.instanceMethod yX4_owned ∈ W0 := mw 1112 (by decide +kernel) (by decide +kernel)
theorem mc_yX4_owned : Cond.code yX4_owned cX4_owned 4 (some .int) ∈ W0 := mw 1113 (by decide +kernel) (by decide +kernel)
theorem ml_L_116 : Cond.methodLink RL 116 yX4_served ∈ W0 := mw 1114 (by decide +kernel) (by decide +kernel)
theorem mi_yX4_served : Cond.instanceMethod yX4_served ∈ W0 := mw 1115 (by decide +kernel) (by decide +kernel)
theorem ms_yX4_served : Cond.selects RX4 yX4_served yX4_served ∈ W0 := mw 1116 (by decide +kernel) (by decide +kernel)
theorem mc_yX4_served : Cond.code yX4_served cX4_served 3 (some .int) ∈ W0 := mw 1117 (by decide +kernel) (by decide +kernel)
theorem ml_X4_189 : Cond.methodLink RX4 189 yX4_servedOf ∈ W0 := mw 1118 (by decide +kernel) (by decide +kernel)
theorem mi_yX4_servedOf : Cond.instanceMethod yX4_servedOf ∈ W0 := mw 1120 (by decide +kernel) (by decide +kernel)
theorem mc_yX4_servedOf : Cond.code yX4_servedOf cX4_servedOf 6 (some .int) ∈ W0 := mw 1121 (by decide +kernel) (by decide +kernel)
theorem ml_X4_186 : Cond.methodLink RX4 186 yX4_stockFrom ∈ W0 := mw 1122 (by decide +kernel) (by decide +kernel)
theorem mi_yX4_stockFrom : Cond.instanceMethod yX4_stockFrom ∈ W0 := mw 1124 (by decide +kernel) (by decide +kernel)
theorem mc_yX4_stockFrom : Cond.code yX4_stockFrom cX4_stockFrom 5 (some .int) ∈ W0 := mw 1125 (by decide +kernel) (by decide +kernel)
theorem ml_L_120 : Cond.methodLink RL 120 yX4_undo ∈ W0 := mw 1126 (by decide +kernel) (by decide +kernel)
theorem mi_yX4_undo : Cond.instanceMethod yX4_undo ∈ W0 := mw 1127 (by decide +kernel) (by decide +kernel)
theorem ms_yX4_undo : Cond.selects RX4 yX4_undo yX4_undo ∈ W0 := mw 1128 (by decide +kernel) (by decide +kernel)
theorem mc_yX4_undo : Cond.code yX4_undo cX4_undo 1 (some .int) ∈ W0 := mw 1129 (by decide +kernel) (by decide +kernel)
theorem ml_L_124 : Cond.methodLink RL 124 yX4_type ∈ W0 := mw 1130 (by decide +kernel) (by decide +kernel)
theorem mi_yX4_type : Cond.instanceMethod yX4_type ∈ W0 := mw 1131 (by decide +kernel) (by decide +kernel)
theorem ms_yX4_type : Cond.selects RX4 yX4_type yX4_type ∈ W0 := mw 1132 (by decide +kernel) (by decide +kernel)
theorem mc_yX4_type : Cond.code yX4_type cX4_type 2 (some .int) ∈ W0 := mw 1133 (by decide +kernel) (by decide +kernel)
theorem ml_L_128 : Cond.methodLink RL 128 yX4_clearText ∈ W0 := mw 1134 (by decide +kernel) (by decide +kernel)
theorem mi_yX4_clearText : Cond.instanceMethod yX4_clearText ∈ W0 := mw 1135 (by decide +kernel) (by decide +kernel)
theorem ms_yX4_clearText : Cond.selects RX4 yX4_clearText yX4_clearText ∈ W0 := mw 1136 (by decide +kernel) (by decide +kernel)
theorem mc_yX4_clearText : Cond.code yX4_clearText cX4_clearText 2 (some .int) ∈ W0 := mw 1137 (by decide +kernel) (by decide +kernel)
theorem ml_L_132 : Cond.methodLink RL 132 yX4_textFault ∈ W0 := mw 1138 (by decide +kernel) (by decide +kernel)
theorem mi_yX4_textFault : Cond.instanceMethod yX4_textFault ∈ W0 := mw 1139 (by decide +kernel) (by decide +kernel)
theorem ms_yX4_textFault : Cond.selects RX4 yX4_textFault yX4_textFault ∈ W0 := mw 1140 (by decide +kernel) (by decide +kernel)
theorem mc_yX4_textFault : Cond.code yX4_textFault cX4_textFault 1 (some .int) ∈ W0 := mw 1141 (by decide +kernel) (by decide +kernel)
theorem ml_X4_233 : Cond.methodLink RX4 233 yX4_readsText ∈ W0 := mw 1142 (by decide +kernel) (by decide +kernel)
theorem mi_yX4_readsText : Cond.instanceMethod yX4_readsText ∈ W0 := mw 1144 (by decide +kernel) (by decide +kernel)
theorem mc_yX4_readsText : Cond.code yX4_readsText cX4_readsText 4 (some .boolean) ∈ W0 := mw 1145 (by decide +kernel) (by decide +kernel)
theorem ml_X4_229 : Cond.methodLink RX4 229 yX4_readsOrder ∈ W0 := mw 1146 (by decide +kernel) (by decide +kernel)
theorem mi_yX4_readsOrder : Cond.instanceMethod yX4_readsOrder ∈ W0 := mw 1148 (by decide +kernel) (by decide +kernel)
theorem mc_yX4_readsOrder : Cond.code yX4_readsOrder cX4_readsOrder 4 (some .boolean) ∈ W0 := mw 1149 (by decide +kernel) (by decide +kernel)
theorem ml_X4_212 : Cond.methodLink RX4 212 yX4_order ∈ W0 := mw 1150 (by decide +kernel) (by decide +kernel)
theorem mi_yX4_order : Cond.instanceMethod yX4_order ∈ W0 := mw 1152 (by decide +kernel) (by decide +kernel)
theorem mc_yX4_order : Cond.code yX4_order cX4_order 2 (some .int) ∈ W0 := mw 1153 (by decide +kernel) (by decide +kernel)
theorem ml_X4_205 : Cond.methodLink RX4 205 yX4_word ∈ W0 := mw 1154 (by decide +kernel) (by decide +kernel)
theorem mi_yX4_word : Cond.instanceMethod yX4_word ∈ W0 := mw 1156 (by decide +kernel) (by decide +kernel)
theorem mc_yX4_word : Cond.code yX4_word cX4_word 4 (some .int) ∈ W0 := mw 1157 (by decide +kernel) (by decide +kernel)
theorem ml_X4_198 : Cond.methodLink RX4 198 yX4_here ∈ W0 := mw 1158 (by decide +kernel) (by decide +kernel)
theorem mi_yX4_here : Cond.instanceMethod yX4_here ∈ W0 := mw 1160 (by decide +kernel) (by decide +kernel)
theorem mc_yX4_here : Cond.code yX4_here cX4_here 1 (some .int) ∈ W0 := mw 1161 (by decide +kernel) (by decide +kernel)
theorem ml_X4_208 : Cond.methodLink RX4 208 yX4_spelt ∈ W0 := mw 1162 (by decide +kernel) (by decide +kernel)
theorem mst_yX4_spelt : Cond.static yX4_spelt ∈ W0 := mw 1163 (by decide +kernel) (by decide +kernel)
theorem mc_yX4_spelt : Cond.code yX4_spelt cX4_spelt 5 (some .int) ∈ W0 := mw 1164 (by decide +kernel) (by decide +kernel)
theorem ml_X4_215 : Cond.methodLink RX4 215 yX4_reads ∈ W0 := mw 1165 (by decide +kernel) (by decide +kernel)
theorem mi_yX4_reads : Cond.instanceMethod yX4_reads ∈ W0 := mw 1167 (by decide +kernel) (by decide +kernel)
theorem mc_yX4_reads : Cond.code yX4_reads cX4_reads 5 (some .boolean) ∈ W0 := mw 1168 (by decide +kernel) (by decide +kernel)
theorem ml_X4_223 : Cond.methodLink RX4 223 yX4_carries ∈ W0 := mw 1169 (by decide +kernel) (by decide +kernel)
theorem mi_yX4_carries : Cond.instanceMethod yX4_carries ∈ W0 := mw 1171 (by decide +kernel) (by decide +kernel)
theorem mc_yX4_carries : Cond.code yX4_carries cX4_carries 5 (some .int) ∈ W0 := mw 1172 (by decide +kernel) (by decide +kernel)
theorem ml_L_136 : Cond.methodLink RL 136 yX4_orders ∈ W0 := mw 1173 (by decide +kernel) (by decide +kernel)
theorem mi_yX4_orders : Cond.instanceMethod yX4_orders ∈ W0 := mw 1174 (by decide +kernel) (by decide +kernel)
theorem ms_yX4_orders : Cond.selects RX4 yX4_orders yX4_orders ∈ W0 := mw 1175 (by decide +kernel) (by decide +kernel)
theorem mc_yX4_orders : Cond.code yX4_orders cX4_orders 2 (some .int) ∈ W0 := mw 1176 (by decide +kernel) (by decide +kernel)
theorem ml_L_141 : Cond.methodLink RL 141 yX4_digest ∈ W0 := mw 1177 (by decide +kernel) (by decide +kernel)
theorem mi_yX4_digest : Cond.instanceMethod yX4_digest ∈ W0 := mw 1178 (by decide +kernel) (by decide +kernel)
theorem ms_yX4_digest : Cond.selects RX4 yX4_digest yX4_digest ∈ W0 := mw 1179 (by decide +kernel) (by decide +kernel)
theorem mc_yX4_digest : Cond.code yX4_digest cX4_digest 3 (some .long) ∈ W0 := mw 1180 (by decide +kernel) (by decide +kernel)
theorem mk_X4_242 : Cond.constantLong RX4 242 (17 : Int64) ∈ W0 := mw 1181 (by decide +kernel) (by decide +kernel)
theorem ml_X4_244 : Cond.methodLink RX4 244 yX4_note ∈ W0 := mw 1182 (by decide +kernel) (by decide +kernel)
theorem mi_yX4_note : Cond.instanceMethod yX4_note ∈ W0 := mw 1184 (by decide +kernel) (by decide +kernel)
theorem mc_yX4_note : Cond.code yX4_note cX4_note 2 (none) ∈ W0 := mw 1185 (by decide +kernel) (by decide +kernel)
theorem mk_X4_236 : Cond.constantLong RX4 236 (31 : Int64) ∈ W0 := mw 1186 (by decide +kernel) (by decide +kernel)
theorem mf_J0_9 : Cond.fieldLink RJ0 9 "java/lang/String" "value" "[B" ∈ W0 := mw 1187 (by decide +kernel) (by decide +kernel)
theorem mf_J0_15 : Cond.fieldLink RJ0 15 "java/lang/String" "coder" "B" ∈ W0 := mw 1188 (by decide +kernel) (by decide +kernel)
theorem ms_yX2_hasTitle : Cond.selects RX2 yX2_hasTitle yX2_hasTitle ∈ W0 := mw 0 (by decide +kernel) (by decide +kernel)
theorem ms_yX2_hasCourse : Cond.selects RX2 yX2_hasCourse yX2_hasCourse ∈ W0 := mw 1 (by decide +kernel) (by decide +kernel)
theorem ms_yX2_copiesIn : Cond.selects RX2 yX2_copiesIn yX2_copiesIn ∈ W0 := mw 2 (by decide +kernel) (by decide +kernel)
theorem ms_yX2_demandOf : Cond.selects RX2 yX2_demandOf yX2_demandOf ∈ W0 := mw 3 (by decide +kernel) (by decide +kernel)
theorem ms_yX2_supplyOf : Cond.selects RX2 yX2_supplyOf yX2_supplyOf ∈ W0 := mw 4 (by decide +kernel) (by decide +kernel)
theorem ms_yX2_isOfUse : Cond.selects RX2 yX2_isOfUse yX2_isOfUse ∈ W0 := mw 5 (by decide +kernel) (by decide +kernel)
theorem ms_yX2_takes : Cond.selects RX2 yX2_takes yX2_takes ∈ W0 := mw 6 (by decide +kernel) (by decide +kernel)
theorem ms_yX2_copiesOf : Cond.selects RX2 yX2_copiesOf yX2_copiesOf ∈ W0 := mw 7 (by decide +kernel) (by decide +kernel)
theorem ms_yX2_copiesOfIn : Cond.selects RX2 yX2_copiesOfIn yX2_copiesOfIn ∈ W0 := mw 8 (by decide +kernel) (by decide +kernel)
theorem ms_yX2_stockFor : Cond.selects RX2 yX2_stockFor yX2_stockFor ∈ W0 := mw 9 (by decide +kernel) (by decide +kernel)
theorem ms_yX2_suits : Cond.selects RX2 yX2_suits yX2_suits ∈ W0 := mw 10 (by decide +kernel) (by decide +kernel)
theorem ms_yX2_hasCopy : Cond.selects RX2 yX2_hasCopy yX2_hasCopy ∈ W0 := mw 11 (by decide +kernel) (by decide +kernel)
theorem ms_yX2_worthOf : Cond.selects RX2 yX2_worthOf yX2_worthOf ∈ W0 := mw 12 (by decide +kernel) (by decide +kernel)
theorem ms_yX2_worthBy : Cond.selects RX2 yX2_worthBy yX2_worthBy ∈ W0 := mw 13 (by decide +kernel) (by decide +kernel)
theorem ms_yX2_rentCost : Cond.selects RX2 yX2_rentCost yX2_rentCost ∈ W0 := mw 14 (by decide +kernel) (by decide +kernel)
theorem ms_yX2_saleCost : Cond.selects RX2 yX2_saleCost yX2_saleCost ∈ W0 := mw 15 (by decide +kernel) (by decide +kernel)
theorem ms_yX2_daysLate : Cond.selects RX2 yX2_daysLate yX2_daysLate ∈ W0 := mw 16 (by decide +kernel) (by decide +kernel)
theorem ms_yX2_putCopy : Cond.selects RX2 yX2_putCopy yX2_putCopy ∈ W0 := mw 17 (by decide +kernel) (by decide +kernel)
theorem ms_yX2_bestFor : Cond.selects RX2 yX2_bestFor yX2_bestFor ∈ W0 := mw 18 (by decide +kernel) (by decide +kernel)
theorem ms_yX2_goesAhead : Cond.selects RX2 yX2_goesAhead yX2_goesAhead ∈ W0 := mw 19 (by decide +kernel) (by decide +kernel)
theorem ms_yX2_canRent : Cond.selects RX2 yX2_canRent yX2_canRent ∈ W0 := mw 20 (by decide +kernel) (by decide +kernel)
theorem ms_yX2_isRentedBy : Cond.selects RX2 yX2_isRentedBy yX2_isRentedBy ∈ W0 := mw 21 (by decide +kernel) (by decide +kernel)
theorem ms_yX2_rentedBy : Cond.selects RX2 yX2_rentedBy yX2_rentedBy ∈ W0 := mw 22 (by decide +kernel) (by decide +kernel)
theorem ms_yX2_lateCharge : Cond.selects RX2 yX2_lateCharge yX2_lateCharge ∈ W0 := mw 23 (by decide +kernel) (by decide +kernel)
theorem ms_yX2_damageCharge : Cond.selects RX2 yX2_damageCharge yX2_damageCharge ∈ W0 := mw 24 (by decide +kernel) (by decide +kernel)
theorem ms_yX2_isRuinedBy : Cond.selects RX2 yX2_isRuinedBy yX2_isRuinedBy ∈ W0 := mw 25 (by decide +kernel) (by decide +kernel)
theorem ms_yX2_worthWithGrade : Cond.selects RX2 yX2_worthWithGrade yX2_worthWithGrade ∈ W0 := mw 26 (by decide +kernel) (by decide +kernel)
theorem ms_yX2_isLostOn : Cond.selects RX2 yX2_isLostOn yX2_isLostOn ∈ W0 := mw 27 (by decide +kernel) (by decide +kernel)
theorem ms_yX2_loseSight : Cond.selects RX2 yX2_loseSight yX2_loseSight ∈ W0 := mw 28 (by decide +kernel) (by decide +kernel)
theorem ms_yX2_findAgain : Cond.selects RX2 yX2_findAgain yX2_findAgain ∈ W0 := mw 29 (by decide +kernel) (by decide +kernel)
theorem ms_yX2_lateBy : Cond.selects RX2 yX2_lateBy yX2_lateBy ∈ W0 := mw 30 (by decide +kernel) (by decide +kernel)
theorem ms_yX2_isOwned : Cond.selects RX2 yX2_isOwned yX2_isOwned ∈ W0 := mw 31 (by decide +kernel) (by decide +kernel)
theorem ms_yX2_servedWith : Cond.selects RX2 yX2_servedWith yX2_servedWith ∈ W0 := mw 32 (by decide +kernel) (by decide +kernel)
theorem ms_yX2_stockOfEdition : Cond.selects RX2 yX2_stockOfEdition yX2_stockOfEdition ∈ W0 := mw 33 (by decide +kernel) (by decide +kernel)
theorem ms_yX2_studentsFrom : Cond.selects RX2 yX2_studentsFrom yX2_studentsFrom ∈ W0 := mw 34 (by decide +kernel) (by decide +kernel)
theorem ms_yX1_skipBlanks : Cond.selects RX1 yX1_skipBlanks yX1_skipBlanks ∈ W0 := mw 35 (by decide +kernel) (by decide +kernel)
theorem ms_yX1_readWord : Cond.selects RX1 yX1_readWord yX1_readWord ∈ W0 := mw 36 (by decide +kernel) (by decide +kernel)
theorem ms_yX1_stands : Cond.selects RX1 yX1_stands yX1_stands ∈ W0 := mw 37 (by decide +kernel) (by decide +kernel)
theorem ms_yX1_readNumber : Cond.selects RX1 yX1_readNumber yX1_readNumber ∈ W0 := mw 38 (by decide +kernel) (by decide +kernel)
theorem ms_yX1_here : Cond.selects RX1 yX1_here yX1_here ∈ W0 := mw 39 (by decide +kernel) (by decide +kernel)
theorem ms_yX1_readEndOfOrder : Cond.selects RX1 yX1_readEndOfOrder yX1_readEndOfOrder ∈ W0 := mw 40 (by decide +kernel) (by decide +kernel)
theorem ms_yX3_carryOut : Cond.selects RX3 yX3_carryOut yX3_carryOut ∈ W0 := mw 41 (by decide +kernel) (by decide +kernel)
theorem ms_yX4_saves : Cond.selects RX4 yX4_saves yX4_saves ∈ W0 := mw 42 (by decide +kernel) (by decide +kernel)
theorem ms_yX4_copies : Cond.selects RX4 yX4_copies yX4_copies ∈ W0 := mw 43 (by decide +kernel) (by decide +kernel)
theorem ms_yX4_isTitle : Cond.selects RX4 yX4_isTitle yX4_isTitle ∈ W0 := mw 44 (by decide +kernel) (by decide +kernel)
theorem ms_yX4_price : Cond.selects RX4 yX4_price yX4_price ∈ W0 := mw 45 (by decide +kernel) (by decide +kernel)
theorem ms_yX4_current : Cond.selects RX4 yX4_current yX4_current ∈ W0 := mw 46 (by decide +kernel) (by decide +kernel)
theorem ms_yX4_isCourse : Cond.selects RX4 yX4_isCourse yX4_isCourse ∈ W0 := mw 47 (by decide +kernel) (by decide +kernel)
theorem ms_yX4_ofCourse : Cond.selects RX4 yX4_ofCourse yX4_ofCourse ∈ W0 := mw 48 (by decide +kernel) (by decide +kernel)
theorem ms_yX4_number : Cond.selects RX4 yX4_number yX4_number ∈ W0 := mw 49 (by decide +kernel) (by decide +kernel)
theorem ms_yX4_inState : Cond.selects RX4 yX4_inState yX4_inState ∈ W0 := mw 50 (by decide +kernel) (by decide +kernel)
theorem ms_yX4_is : Cond.selects RX4 yX4_is yX4_is ∈ W0 := mw 51 (by decide +kernel) (by decide +kernel)
theorem ms_yX4_of : Cond.selects RX4 yX4_of yX4_of ∈ W0 := mw 52 (by decide +kernel) (by decide +kernel)
theorem ms_yX4_titleNow : Cond.selects RX4 yX4_titleNow yX4_titleNow ∈ W0 := mw 53 (by decide +kernel) (by decide +kernel)
theorem ms_yX4_demand : Cond.selects RX4 yX4_demand yX4_demand ∈ W0 := mw 54 (by decide +kernel) (by decide +kernel)
theorem ms_yX4_supply : Cond.selects RX4 yX4_supply yX4_supply ∈ W0 := mw 55 (by decide +kernel) (by decide +kernel)
theorem ms_yX4_isOfUse : Cond.selects RX4 yX4_isOfUse yX4_isOfUse ∈ W0 := mw 56 (by decide +kernel) (by decide +kernel)
theorem ms_yX4_ofTitle : Cond.selects RX4 yX4_ofTitle yX4_ofTitle ∈ W0 := mw 57 (by decide +kernel) (by decide +kernel)
theorem ms_yX4_courseNow : Cond.selects RX4 yX4_courseNow yX4_courseNow ∈ W0 := mw 58 (by decide +kernel) (by decide +kernel)
theorem ms_yX4_takes : Cond.selects RX4 yX4_takes yX4_takes ∈ W0 := mw 59 (by decide +kernel) (by decide +kernel)
theorem ms_yX4_isCopy : Cond.selects RX4 yX4_isCopy yX4_isCopy ∈ W0 := mw 60 (by decide +kernel) (by decide +kernel)
theorem ms_yX4_copyNow : Cond.selects RX4 yX4_copyNow yX4_copyNow ∈ W0 := mw 61 (by decide +kernel) (by decide +kernel)
theorem ms_yX4_worthOf : Cond.selects RX4 yX4_worthOf yX4_worthOf ∈ W0 := mw 62 (by decide +kernel) (by decide +kernel)
theorem ms_yX4_worth : Cond.selects RX4 yX4_worth yX4_worth ∈ W0 := mw 63 (by decide +kernel) (by decide +kernel)
theorem ms_yX4_late : Cond.selects RX4 yX4_late yX4_late ∈ W0 := mw 64 (by decide +kernel) (by decide +kernel)
theorem ms_yX4_sum : Cond.selects RX4 yX4_sum yX4_sum ∈ W0 := mw 65 (by decide +kernel) (by decide +kernel)
theorem ms_yX4_cannotBuy : Cond.selects RX4 yX4_cannotBuy yX4_cannotBuy ∈ W0 := mw 66 (by decide +kernel) (by decide +kernel)
theorem ms_yX4_buys : Cond.selects RX4 yX4_buys yX4_buys ∈ W0 := mw 67 (by decide +kernel) (by decide +kernel)
theorem ms_yX4_comes : Cond.selects RX4 yX4_comes yX4_comes ∈ W0 := mw 68 (by decide +kernel) (by decide +kernel)
theorem ms_yX4_sets : Cond.selects RX4 yX4_sets yX4_sets ∈ W0 := mw 69 (by decide +kernel) (by decide +kernel)
theorem ms_yX4_cannotOffer : Cond.selects RX4 yX4_cannotOffer yX4_cannotOffer ∈ W0 := mw 70 (by decide +kernel) (by decide +kernel)
theorem ms_yX4_offered : Cond.selects RX4 yX4_offered yX4_offered ∈ W0 := mw 71 (by decide +kernel) (by decide +kernel)
theorem ms_yX4_cannotSell : Cond.selects RX4 yX4_cannotSell yX4_cannotSell ∈ W0 := mw 72 (by decide +kernel) (by decide +kernel)
theorem ms_yX4_sells : Cond.selects RX4 yX4_sells yX4_sells ∈ W0 := mw 73 (by decide +kernel) (by decide +kernel)
theorem ms_yX4_goes : Cond.selects RX4 yX4_goes yX4_goes ∈ W0 := mw 74 (by decide +kernel) (by decide +kernel)
theorem ms_yX4_cannotRent : Cond.selects RX4 yX4_cannotRent yX4_cannotRent ∈ W0 := mw 75 (by decide +kernel) (by decide +kernel)
theorem ms_yX4_canRent : Cond.selects RX4 yX4_canRent yX4_canRent ∈ W0 := mw 76 (by decide +kernel) (by decide +kernel)
theorem ms_yX4_nextOf : Cond.selects RX4 yX4_nextOf yX4_nextOf ∈ W0 := mw 77 (by decide +kernel) (by decide +kernel)
theorem ms_yX4_rents : Cond.selects RX4 yX4_rents yX4_rents ∈ W0 := mw 78 (by decide +kernel) (by decide +kernel)
theorem ms_yX4_charges : Cond.selects RX4 yX4_charges yX4_charges ∈ W0 := mw 79 (by decide +kernel) (by decide +kernel)
theorem ms_yX4_cannotGive : Cond.selects RX4 yX4_cannotGive yX4_cannotGive ∈ W0 := mw 80 (by decide +kernel) (by decide +kernel)
theorem ms_yX4_gives : Cond.selects RX4 yX4_gives yX4_gives ∈ W0 := mw 81 (by decide +kernel) (by decide +kernel)
theorem ms_yX4_lateCharge : Cond.selects RX4 yX4_lateCharge yX4_lateCharge ∈ W0 := mw 82 (by decide +kernel) (by decide +kernel)
theorem ms_yX4_damageCharge : Cond.selects RX4 yX4_damageCharge yX4_damageCharge ∈ W0 := mw 83 (by decide +kernel) (by decide +kernel)
theorem ms_yX4_cannotPass : Cond.selects RX4 yX4_cannotPass yX4_cannotPass ∈ W0 := mw 84 (by decide +kernel) (by decide +kernel)
theorem ms_yX4_passes : Cond.selects RX4 yX4_passes yX4_passes ∈ W0 := mw 85 (by decide +kernel) (by decide +kernel)
theorem ms_yX4_customerNow : Cond.selects RX4 yX4_customerNow yX4_customerNow ∈ W0 := mw 86 (by decide +kernel) (by decide +kernel)
theorem ms_yX4_owned : Cond.selects RX4 yX4_owned yX4_owned ∈ W0 := mw 87 (by decide +kernel) (by decide +kernel)
theorem ms_yX4_servedOf : Cond.selects RX4 yX4_servedOf yX4_servedOf ∈ W0 := mw 88 (by decide +kernel) (by decide +kernel)
theorem ms_yX4_stockFrom : Cond.selects RX4 yX4_stockFrom yX4_stockFrom ∈ W0 := mw 89 (by decide +kernel) (by decide +kernel)
theorem ms_yX4_readsText : Cond.selects RX4 yX4_readsText yX4_readsText ∈ W0 := mw 90 (by decide +kernel) (by decide +kernel)
theorem ms_yX4_readsOrder : Cond.selects RX4 yX4_readsOrder yX4_readsOrder ∈ W0 := mw 91 (by decide +kernel) (by decide +kernel)
theorem ms_yX4_order : Cond.selects RX4 yX4_order yX4_order ∈ W0 := mw 92 (by decide +kernel) (by decide +kernel)
theorem ms_yX4_word : Cond.selects RX4 yX4_word yX4_word ∈ W0 := mw 93 (by decide +kernel) (by decide +kernel)
theorem ms_yX4_here : Cond.selects RX4 yX4_here yX4_here ∈ W0 := mw 94 (by decide +kernel) (by decide +kernel)
theorem ms_yX4_reads : Cond.selects RX4 yX4_reads yX4_reads ∈ W0 := mw 95 (by decide +kernel) (by decide +kernel)
theorem ms_yX4_carries : Cond.selects RX4 yX4_carries yX4_carries ∈ W0 := mw 96 (by decide +kernel) (by decide +kernel)
theorem ms_yX4_note : Cond.selects RX4 yX4_note yX4_note ∈ W0 := mw 97 (by decide +kernel) (by decide +kernel)
theorem inX0 : ∀ w ∈ wsX00, w ∈ W0 := by
  intro w hw
  obtain ⟨k, hk, rfl⟩ := List.mem_map.mp hw
  have hk := List.mem_range.mp hk
  match k, hk with
  | 0, _ => exact my_X0_ring
  | 1, _ => exact my_X0_spare
  | 2, _ => exact my_X0_kept
  | k + 3, h => exact absurd h (by omega)
theorem inX1 : ∀ w ∈ wsX10, w ∈ W0 := by
  intro w hw
  obtain ⟨k, hk, rfl⟩ := List.mem_map.mp hw
  have hk := List.mem_range.mp hk
  match k, hk with
  | 0, _ => exact my_X1_bytes
  | 1, _ => exact my_X1_length
  | 2, _ => exact my_X1_at
  | 3, _ => exact my_X1_more
  | 4, _ => exact my_X1_word
  | 5, _ => exact my_X1_first
  | 6, _ => exact my_X1_second
  | k + 7, h => exact absurd h (by omega)
theorem inX2 : ∀ w ∈ wsX20, w ∈ W0 := by
  intro w hw
  obtain ⟨k, hk, rfl⟩ := List.mem_map.mp hw
  have hk := List.mem_range.mp hk
  match k, hk with
  | 0, _ => exact my_X2_day
  | 1, _ => exact my_X2_titles
  | 2, _ => exact my_X2_courses
  | 3, _ => exact my_X2_copies
  | 4, _ => exact my_X2_settings
  | 5, _ => exact my_X2_price
  | 6, _ => exact my_X2_currentEdition
  | 7, _ => exact my_X2_titleOfCourse
  | 8, _ => exact my_X2_least
  | 9, _ => exact my_X2_students
  | 10, _ => exact my_X2_titleOfCopy
  | 11, _ => exact my_X2_edition
  | 12, _ => exact my_X2_grade
  | 13, _ => exact my_X2_state
  | 14, _ => exact my_X2_renter
  | 15, _ => exact my_X2_due
  | 16, _ => exact my_X2_sums
  | 17, _ => exact my_X2_charged
  | k + 18, h => exact absurd h (by omega)
theorem inX3 : ∀ w ∈ wsX30, w ∈ W0 := by
  intro w hw
  obtain ⟨k, hk, rfl⟩ := List.mem_map.mp hw
  have hk := List.mem_range.mp hk
  match k, hk with
  | 0, _ => exact my_X3_shop
  | 1, _ => exact my_X3_history
  | 2, _ => exact my_X3_text
  | k + 3, h => exact absurd h (by omega)
theorem inX4 : ∀ w ∈ wsX40, w ∈ W0 := by
  intro w hw
  obtain ⟨k, hk, rfl⟩ := List.mem_map.mp hw
  have hk := List.mem_range.mp hk
  match k, hk with
  | 0, _ => exact my_X4_row
  | 1, _ => exact my_X4_saved
  | 2, _ => exact my_X4_least
  | 3, _ => exact my_X4_most
  | 4, _ => exact my_X4_text
  | 5, _ => exact my_X4_length
  | 6, _ => exact my_X4_at
  | 7, _ => exact my_X4_read
  | 8, _ => exact my_X4_done
  | 9, _ => exact my_X4_goesOn
  | 10, _ => exact my_X4_h
  | k + 11, h => exact absurd h (by omega)
end
section
theorem dX0_init_0 : decode cX0_init 0 = .ok (.aload_n 0, 1) := by decide +kernel
theorem dX0_init_1 : decode cX0_init 1 = .ok (.invokespecial 5, 3) := by decide +kernel
theorem dX0_init_4 : decode cX0_init 4 = .ok (.aload_n 0, 1) := by decide +kernel
theorem dX0_init_5 : decode cX0_init 5 = .ok (.bipush 6, 2) := by decide +kernel
theorem dX0_init_7 : decode cX0_init 7 = .ok (.anewarray 11, 3) := by decide +kernel
theorem dX0_init_10 : decode cX0_init 10 = .ok (.putfield 13, 3) := by decide +kernel
theorem dX0_init_13 : decode cX0_init 13 = .ok (.aload_n 0, 1) := by decide +kernel
theorem dX0_init_14 : decode cX0_init 14 = .ok (.iconst 0, 1) := by decide +kernel
theorem dX0_init_15 : decode cX0_init 15 = .ok (.putfield 17, 3) := by decide +kernel
theorem dX0_init_18 : decode cX0_init 18 = .ok (.aload_n 0, 1) := by decide +kernel
theorem dX0_init_19 : decode cX0_init 19 = .ok (.iconst 0, 1) := by decide +kernel
theorem dX0_init_20 : decode cX0_init 20 = .ok (.putfield 21, 3) := by decide +kernel
theorem dX0_init_23 : decode cX0_init 23 = .ok (.iconst 0, 1) := by decide +kernel
theorem dX0_init_24 : decode cX0_init 24 = .ok (.istore_n 1, 1) := by decide +kernel
theorem dX0_init_25 : decode cX0_init 25 = .ok (.iload_n 1, 1) := by decide +kernel
theorem dX0_init_26 : decode cX0_init 26 = .ok (.bipush 6, 2) := by decide +kernel
theorem dX0_init_28 : decode cX0_init 28 = .ok (.if_icmp .ge 22, 3) := by decide +kernel
theorem dX0_init_31 : decode cX0_init 31 = .ok (.aload_n 0, 1) := by decide +kernel
theorem dX0_init_32 : decode cX0_init 32 = .ok (.getfield 13, 3) := by decide +kernel
theorem dX0_init_35 : decode cX0_init 35 = .ok (.iload_n 1, 1) := by decide +kernel
theorem dX0_init_36 : decode cX0_init 36 = .ok (.new 11, 3) := by decide +kernel
theorem dX0_init_39 : decode cX0_init 39 = .ok (.dup, 1) := by decide +kernel
theorem dX0_init_40 : decode cX0_init 40 = .ok (.invokespecial 24, 3) := by decide +kernel
theorem dX0_init_43 : decode cX0_init 43 = .ok (.aastore, 1) := by decide +kernel
theorem dX0_init_44 : decode cX0_init 44 = .ok (.iinc 1 1, 3) := by decide +kernel
theorem dX0_init_47 : decode cX0_init 47 = .ok (.goto (-22), 3) := by decide +kernel
theorem dX0_init_50 : decode cX0_init 50 = .ok (.return_, 1) := by decide +kernel
theorem dX0_prepare_0 : decode cX0_prepare 0 = .ok (.aload_n 0, 1) := by decide +kernel
theorem dX0_prepare_1 : decode cX0_prepare 1 = .ok (.getfield 13, 3) := by decide +kernel
theorem dX0_prepare_4 : decode cX0_prepare 4 = .ok (.aload_n 0, 1) := by decide +kernel
theorem dX0_prepare_5 : decode cX0_prepare 5 = .ok (.getfield 17, 3) := by decide +kernel
theorem dX0_prepare_8 : decode cX0_prepare 8 = .ok (.aaload, 1) := by decide +kernel
theorem dX0_prepare_9 : decode cX0_prepare 9 = .ok (.aload_n 1, 1) := by decide +kernel
theorem dX0_prepare_10 : decode cX0_prepare 10 = .ok (.invokevirtual 25, 3) := by decide +kernel
theorem dX0_prepare_13 : decode cX0_prepare 13 = .ok (.return_, 1) := by decide +kernel
theorem dX0_settle_0 : decode cX0_settle 0 = .ok (.iload_n 1, 1) := by decide +kernel
theorem dX0_settle_1 : decode cX0_settle 1 = .ok (.ifCond .lt 30, 3) := by decide +kernel
theorem dX0_settle_4 : decode cX0_settle 4 = .ok (.aload_n 0, 1) := by decide +kernel
theorem dX0_settle_5 : decode cX0_settle 5 = .ok (.aload_n 0, 1) := by decide +kernel
theorem dX0_settle_6 : decode cX0_settle 6 = .ok (.getfield 17, 3) := by decide +kernel
theorem dX0_settle_9 : decode cX0_settle 9 = .ok (.iconst 1, 1) := by decide +kernel
theorem dX0_settle_10 : decode cX0_settle 10 = .ok (.iadd, 1) := by decide +kernel
theorem dX0_settle_11 : decode cX0_settle 11 = .ok (.bipush 6, 2) := by decide +kernel
theorem dX0_settle_13 : decode cX0_settle 13 = .ok (.irem, 1) := by decide +kernel
theorem dX0_settle_14 : decode cX0_settle 14 = .ok (.putfield 17, 3) := by decide +kernel
theorem dX0_settle_17 : decode cX0_settle 17 = .ok (.aload_n 0, 1) := by decide +kernel
theorem dX0_settle_18 : decode cX0_settle 18 = .ok (.aload_n 0, 1) := by decide +kernel
theorem dX0_settle_19 : decode cX0_settle 19 = .ok (.getfield 21, 3) := by decide +kernel
theorem dX0_settle_22 : decode cX0_settle 22 = .ok (.iconst 1, 1) := by decide +kernel
theorem dX0_settle_23 : decode cX0_settle 23 = .ok (.iadd, 1) := by decide +kernel
theorem dX0_settle_24 : decode cX0_settle 24 = .ok (.iconst 5, 1) := by decide +kernel
theorem dX0_settle_25 : decode cX0_settle 25 = .ok (.invokestatic 29, 3) := by decide +kernel
theorem dX0_settle_28 : decode cX0_settle 28 = .ok (.putfield 21, 3) := by decide +kernel
theorem dX0_settle_31 : decode cX0_settle 31 = .ok (.iload_n 1, 1) := by decide +kernel
theorem dX0_settle_32 : decode cX0_settle 32 = .ok (.ireturn, 1) := by decide +kernel
theorem dX0_restore_0 : decode cX0_restore 0 = .ok (.aload_n 0, 1) := by decide +kernel
theorem dX0_restore_1 : decode cX0_restore 1 = .ok (.getfield 21, 3) := by decide +kernel
theorem dX0_restore_4 : decode cX0_restore 4 = .ok (.ifCond .ne 6, 3) := by decide +kernel
theorem dX0_restore_7 : decode cX0_restore 7 = .ok (.bipush (-4), 2) := by decide +kernel
theorem dX0_restore_9 : decode cX0_restore 9 = .ok (.ireturn, 1) := by decide +kernel
theorem dX0_restore_10 : decode cX0_restore 10 = .ok (.aload_n 0, 1) := by decide +kernel
theorem dX0_restore_11 : decode cX0_restore 11 = .ok (.aload_n 0, 1) := by decide +kernel
theorem dX0_restore_12 : decode cX0_restore 12 = .ok (.getfield 17, 3) := by decide +kernel
theorem dX0_restore_15 : decode cX0_restore 15 = .ok (.bipush 6, 2) := by decide +kernel
theorem dX0_restore_17 : decode cX0_restore 17 = .ok (.iadd, 1) := by decide +kernel
theorem dX0_restore_18 : decode cX0_restore 18 = .ok (.iconst 1, 1) := by decide +kernel
theorem dX0_restore_19 : decode cX0_restore 19 = .ok (.isub, 1) := by decide +kernel
theorem dX0_restore_20 : decode cX0_restore 20 = .ok (.bipush 6, 2) := by decide +kernel
theorem dX0_restore_22 : decode cX0_restore 22 = .ok (.irem, 1) := by decide +kernel
theorem dX0_restore_23 : decode cX0_restore 23 = .ok (.putfield 17, 3) := by decide +kernel
theorem dX0_restore_26 : decode cX0_restore 26 = .ok (.aload_n 0, 1) := by decide +kernel
theorem dX0_restore_27 : decode cX0_restore 27 = .ok (.dup, 1) := by decide +kernel
theorem dX0_restore_28 : decode cX0_restore 28 = .ok (.getfield 21, 3) := by decide +kernel
theorem dX0_restore_31 : decode cX0_restore 31 = .ok (.iconst 1, 1) := by decide +kernel
theorem dX0_restore_32 : decode cX0_restore 32 = .ok (.isub, 1) := by decide +kernel
theorem dX0_restore_33 : decode cX0_restore 33 = .ok (.putfield 21, 3) := by decide +kernel
theorem dX0_restore_36 : decode cX0_restore 36 = .ok (.aload_n 1, 1) := by decide +kernel
theorem dX0_restore_37 : decode cX0_restore 37 = .ok (.aload_n 0, 1) := by decide +kernel
theorem dX0_restore_38 : decode cX0_restore 38 = .ok (.getfield 13, 3) := by decide +kernel
theorem dX0_restore_41 : decode cX0_restore 41 = .ok (.aload_n 0, 1) := by decide +kernel
theorem dX0_restore_42 : decode cX0_restore 42 = .ok (.getfield 17, 3) := by decide +kernel
theorem dX0_restore_45 : decode cX0_restore 45 = .ok (.aaload, 1) := by decide +kernel
theorem dX0_restore_46 : decode cX0_restore 46 = .ok (.invokevirtual 25, 3) := by decide +kernel
theorem dX0_restore_49 : decode cX0_restore 49 = .ok (.aload_n 0, 1) := by decide +kernel
theorem dX0_restore_50 : decode cX0_restore 50 = .ok (.getfield 21, 3) := by decide +kernel
theorem dX0_restore_53 : decode cX0_restore 53 = .ok (.ireturn, 1) := by decide +kernel
theorem dX1_init_0 : decode cX1_init 0 = .ok (.aload_n 0, 1) := by decide +kernel
theorem dX1_init_1 : decode cX1_init 1 = .ok (.invokespecial 3, 3) := by decide +kernel
theorem dX1_init_4 : decode cX1_init 4 = .ok (.aload_n 0, 1) := by decide +kernel
theorem dX1_init_5 : decode cX1_init 5 = .ok (.bipush 100, 2) := by decide +kernel
theorem dX1_init_7 : decode cX1_init 7 = .ok (.newarray .int, 2) := by decide +kernel
theorem dX1_init_9 : decode cX1_init 9 = .ok (.putfield 11, 3) := by decide +kernel
theorem dX1_init_12 : decode cX1_init 12 = .ok (.aload_n 0, 1) := by decide +kernel
theorem dX1_init_13 : decode cX1_init 13 = .ok (.iconst 0, 1) := by decide +kernel
theorem dX1_init_14 : decode cX1_init 14 = .ok (.putfield 15, 3) := by decide +kernel
theorem dX1_init_17 : decode cX1_init 17 = .ok (.aload_n 0, 1) := by decide +kernel
theorem dX1_init_18 : decode cX1_init 18 = .ok (.iconst 0, 1) := by decide +kernel
theorem dX1_init_19 : decode cX1_init 19 = .ok (.putfield 19, 3) := by decide +kernel
theorem dX1_init_22 : decode cX1_init 22 = .ok (.aload_n 0, 1) := by decide +kernel
theorem dX1_init_23 : decode cX1_init 23 = .ok (.iconst 0, 1) := by decide +kernel
theorem dX1_init_24 : decode cX1_init 24 = .ok (.putfield 22, 3) := by decide +kernel
theorem dX1_init_27 : decode cX1_init 27 = .ok (.aload_n 0, 1) := by decide +kernel
theorem dX1_init_28 : decode cX1_init 28 = .ok (.iconst (-1), 1) := by decide +kernel
theorem dX1_init_29 : decode cX1_init 29 = .ok (.putfield 26, 3) := by decide +kernel
theorem dX1_init_32 : decode cX1_init 32 = .ok (.aload_n 0, 1) := by decide +kernel
theorem dX1_init_33 : decode cX1_init 33 = .ok (.iconst 0, 1) := by decide +kernel
theorem dX1_init_34 : decode cX1_init 34 = .ok (.putfield 29, 3) := by decide +kernel
theorem dX1_init_37 : decode cX1_init 37 = .ok (.aload_n 0, 1) := by decide +kernel
theorem dX1_init_38 : decode cX1_init 38 = .ok (.iconst 0, 1) := by decide +kernel
theorem dX1_init_39 : decode cX1_init 39 = .ok (.putfield 32, 3) := by decide +kernel
theorem dX1_init_42 : decode cX1_init 42 = .ok (.return_, 1) := by decide +kernel
theorem dX1_append_0 : decode cX1_append 0 = .ok (.iload_n 1, 1) := by decide +kernel
theorem dX1_append_1 : decode cX1_append 1 = .ok (.ifCond .lt 10, 3) := by decide +kernel
theorem dX1_append_4 : decode cX1_append 4 = .ok (.iload_n 1, 1) := by decide +kernel
theorem dX1_append_5 : decode cX1_append 5 = .ok (.sipush 255, 3) := by decide +kernel
theorem dX1_append_8 : decode cX1_append 8 = .ok (.if_icmp .le 6, 3) := by decide +kernel
theorem dX1_append_11 : decode cX1_append 11 = .ok (.bipush (-3), 2) := by decide +kernel
theorem dX1_append_13 : decode cX1_append 13 = .ok (.ireturn, 1) := by decide +kernel
theorem dX1_append_14 : decode cX1_append 14 = .ok (.aload_n 0, 1) := by decide +kernel
theorem dX1_append_15 : decode cX1_append 15 = .ok (.getfield 15, 3) := by decide +kernel
theorem dX1_append_18 : decode cX1_append 18 = .ok (.bipush 100, 2) := by decide +kernel
theorem dX1_append_20 : decode cX1_append 20 = .ok (.if_icmp .lt 6, 3) := by decide +kernel
theorem dX1_append_23 : decode cX1_append 23 = .ok (.bipush (-5), 2) := by decide +kernel
theorem dX1_append_25 : decode cX1_append 25 = .ok (.ireturn, 1) := by decide +kernel
theorem dX1_append_26 : decode cX1_append 26 = .ok (.aload_n 0, 1) := by decide +kernel
theorem dX1_append_27 : decode cX1_append 27 = .ok (.getfield 11, 3) := by decide +kernel
theorem dX1_append_30 : decode cX1_append 30 = .ok (.aload_n 0, 1) := by decide +kernel
theorem dX1_append_31 : decode cX1_append 31 = .ok (.getfield 15, 3) := by decide +kernel
theorem dX1_append_34 : decode cX1_append 34 = .ok (.iload_n 1, 1) := by decide +kernel
theorem dX1_append_35 : decode cX1_append 35 = .ok (.iastore, 1) := by decide +kernel
theorem dX1_append_36 : decode cX1_append 36 = .ok (.aload_n 0, 1) := by decide +kernel
theorem dX1_append_37 : decode cX1_append 37 = .ok (.dup, 1) := by decide +kernel
theorem dX1_append_38 : decode cX1_append 38 = .ok (.getfield 15, 3) := by decide +kernel
theorem dX1_append_41 : decode cX1_append 41 = .ok (.iconst 1, 1) := by decide +kernel
theorem dX1_append_42 : decode cX1_append 42 = .ok (.iadd, 1) := by decide +kernel
theorem dX1_append_43 : decode cX1_append 43 = .ok (.putfield 15, 3) := by decide +kernel
theorem dX1_append_46 : decode cX1_append 46 = .ok (.aload_n 0, 1) := by decide +kernel
theorem dX1_append_47 : decode cX1_append 47 = .ok (.getfield 15, 3) := by decide +kernel
theorem dX1_append_50 : decode cX1_append 50 = .ok (.ireturn, 1) := by decide +kernel
theorem dX1_empty_0 : decode cX1_empty 0 = .ok (.aload_n 0, 1) := by decide +kernel
theorem dX1_empty_1 : decode cX1_empty 1 = .ok (.getfield 15, 3) := by decide +kernel
theorem dX1_empty_4 : decode cX1_empty 4 = .ok (.istore_n 1, 1) := by decide +kernel
theorem dX1_empty_5 : decode cX1_empty 5 = .ok (.aload_n 0, 1) := by decide +kernel
theorem dX1_empty_6 : decode cX1_empty 6 = .ok (.iconst 0, 1) := by decide +kernel
theorem dX1_empty_7 : decode cX1_empty 7 = .ok (.putfield 15, 3) := by decide +kernel
theorem dX1_empty_10 : decode cX1_empty 10 = .ok (.iload_n 1, 1) := by decide +kernel
theorem dX1_empty_11 : decode cX1_empty 11 = .ok (.ireturn, 1) := by decide +kernel
theorem dX1_faultOf_0 : decode cX1_faultOf 0 = .ok (.aload_n 0, 1) := by decide +kernel
theorem dX1_faultOf_1 : decode cX1_faultOf 1 = .ok (.invokevirtual 35, 3) := by decide +kernel
theorem dX1_faultOf_4 : decode cX1_faultOf 4 = .ok (.iconst 0, 1) := by decide +kernel
theorem dX1_faultOf_5 : decode cX1_faultOf 5 = .ok (.istore_n 1, 1) := by decide +kernel
theorem dX1_faultOf_6 : decode cX1_faultOf 6 = .ok (.iload_n 1, 1) := by decide +kernel
theorem dX1_faultOf_7 : decode cX1_faultOf 7 = .ok (.bipush 100, 2) := by decide +kernel
theorem dX1_faultOf_9 : decode cX1_faultOf 9 = .ok (.if_icmp .gt 28, 3) := by decide +kernel
theorem dX1_faultOf_12 : decode cX1_faultOf 12 = .ok (.aload_n 0, 1) := by decide +kernel
theorem dX1_faultOf_13 : decode cX1_faultOf 13 = .ok (.getfield 22, 3) := by decide +kernel
theorem dX1_faultOf_16 : decode cX1_faultOf 16 = .ok (.ifCond .eq 21, 3) := by decide +kernel
theorem dX1_faultOf_19 : decode cX1_faultOf 19 = .ok (.aload_n 0, 1) := by decide +kernel
theorem dX1_faultOf_20 : decode cX1_faultOf 20 = .ok (.invokevirtual 38, 3) := by decide +kernel
theorem dX1_faultOf_23 : decode cX1_faultOf 23 = .ok (.istore_n 2, 1) := by decide +kernel
theorem dX1_faultOf_24 : decode cX1_faultOf 24 = .ok (.iload_n 2, 1) := by decide +kernel
theorem dX1_faultOf_25 : decode cX1_faultOf 25 = .ok (.iconst (-1), 1) := by decide +kernel
theorem dX1_faultOf_26 : decode cX1_faultOf 26 = .ok (.if_icmp .eq 5, 3) := by decide +kernel
theorem dX1_faultOf_29 : decode cX1_faultOf 29 = .ok (.iload_n 2, 1) := by decide +kernel
theorem dX1_faultOf_30 : decode cX1_faultOf 30 = .ok (.ireturn, 1) := by decide +kernel
theorem dX1_faultOf_31 : decode cX1_faultOf 31 = .ok (.iinc 1 1, 3) := by decide +kernel
theorem dX1_faultOf_34 : decode cX1_faultOf 34 = .ok (.goto (-28), 3) := by decide +kernel
theorem dX1_faultOf_37 : decode cX1_faultOf 37 = .ok (.iconst (-1), 1) := by decide +kernel
theorem dX1_faultOf_38 : decode cX1_faultOf 38 = .ok (.ireturn, 1) := by decide +kernel
theorem dX1_startReading_0 : decode cX1_startReading 0 = .ok (.aload_n 0, 1) := by decide +kernel
theorem dX1_startReading_1 : decode cX1_startReading 1 = .ok (.iconst 0, 1) := by decide +kernel
theorem dX1_startReading_2 : decode cX1_startReading 2 = .ok (.putfield 19, 3) := by decide +kernel
theorem dX1_startReading_5 : decode cX1_startReading 5 = .ok (.aload_n 0, 1) := by decide +kernel
theorem dX1_startReading_6 : decode cX1_startReading 6 = .ok (.iconst 1, 1) := by decide +kernel
theorem dX1_startReading_7 : decode cX1_startReading 7 = .ok (.putfield 22, 3) := by decide +kernel
theorem dX1_startReading_10 : decode cX1_startReading 10 = .ok (.return_, 1) := by decide +kernel
theorem dX1_hasMore_0 : decode cX1_hasMore 0 = .ok (.aload_n 0, 1) := by decide +kernel
theorem dX1_hasMore_1 : decode cX1_hasMore 1 = .ok (.getfield 22, 3) := by decide +kernel
theorem dX1_hasMore_4 : decode cX1_hasMore 4 = .ok (.ireturn, 1) := by decide +kernel
theorem dX1_word_0 : decode cX1_word 0 = .ok (.aload_n 0, 1) := by decide +kernel
theorem dX1_word_1 : decode cX1_word 1 = .ok (.getfield 26, 3) := by decide +kernel
theorem dX1_word_4 : decode cX1_word 4 = .ok (.ireturn, 1) := by decide +kernel
theorem dX1_first_0 : decode cX1_first 0 = .ok (.aload_n 0, 1) := by decide +kernel
theorem dX1_first_1 : decode cX1_first 1 = .ok (.getfield 29, 3) := by decide +kernel
theorem dX1_first_4 : decode cX1_first 4 = .ok (.ireturn, 1) := by decide +kernel
theorem dX1_second_0 : decode cX1_second 0 = .ok (.aload_n 0, 1) := by decide +kernel
theorem dX1_second_1 : decode cX1_second 1 = .ok (.getfield 32, 3) := by decide +kernel
theorem dX1_second_4 : decode cX1_second 4 = .ok (.ireturn, 1) := by decide +kernel
theorem dX1_readOrder_0 : decode cX1_readOrder 0 = .ok (.aload_n 0, 1) := by decide +kernel
theorem dX1_readOrder_1 : decode cX1_readOrder 1 = .ok (.invokevirtual 42, 3) := by decide +kernel
theorem dX1_readOrder_4 : decode cX1_readOrder 4 = .ok (.aload_n 0, 1) := by decide +kernel
theorem dX1_readOrder_5 : decode cX1_readOrder 5 = .ok (.getfield 19, 3) := by decide +kernel
theorem dX1_readOrder_8 : decode cX1_readOrder 8 = .ok (.istore_n 1, 1) := by decide +kernel
theorem dX1_readOrder_9 : decode cX1_readOrder 9 = .ok (.aload_n 0, 1) := by decide +kernel
theorem dX1_readOrder_10 : decode cX1_readOrder 10 = .ok (.aload_n 0, 1) := by decide +kernel
theorem dX1_readOrder_11 : decode cX1_readOrder 11 = .ok (.invokevirtual 45, 3) := by decide +kernel
theorem dX1_readOrder_14 : decode cX1_readOrder 14 = .ok (.putfield 26, 3) := by decide +kernel
theorem dX1_readOrder_17 : decode cX1_readOrder 17 = .ok (.aload_n 0, 1) := by decide +kernel
theorem dX1_readOrder_18 : decode cX1_readOrder 18 = .ok (.getfield 26, 3) := by decide +kernel
theorem dX1_readOrder_21 : decode cX1_readOrder 21 = .ok (.iconst (-1), 1) := by decide +kernel
theorem dX1_readOrder_22 : decode cX1_readOrder 22 = .ok (.if_icmp .ne 5, 3) := by decide +kernel
theorem dX1_readOrder_25 : decode cX1_readOrder 25 = .ok (.iload_n 1, 1) := by decide +kernel
theorem dX1_readOrder_26 : decode cX1_readOrder 26 = .ok (.ireturn, 1) := by decide +kernel
theorem dX1_readOrder_27 : decode cX1_readOrder 27 = .ok (.aload_n 0, 1) := by decide +kernel
theorem dX1_readOrder_28 : decode cX1_readOrder 28 = .ok (.invokevirtual 42, 3) := by decide +kernel
theorem dX1_readOrder_31 : decode cX1_readOrder 31 = .ok (.aload_n 0, 1) := by decide +kernel
theorem dX1_readOrder_32 : decode cX1_readOrder 32 = .ok (.aload_n 0, 1) := by decide +kernel
theorem dX1_readOrder_33 : decode cX1_readOrder 33 = .ok (.invokevirtual 48, 3) := by decide +kernel
theorem dX1_readOrder_36 : decode cX1_readOrder 36 = .ok (.putfield 29, 3) := by decide +kernel
theorem dX1_readOrder_39 : decode cX1_readOrder 39 = .ok (.aload_n 0, 1) := by decide +kernel
theorem dX1_readOrder_40 : decode cX1_readOrder 40 = .ok (.getfield 29, 3) := by decide +kernel
theorem dX1_readOrder_43 : decode cX1_readOrder 43 = .ok (.iconst (-1), 1) := by decide +kernel
theorem dX1_readOrder_44 : decode cX1_readOrder 44 = .ok (.if_icmp .ne 8, 3) := by decide +kernel
theorem dX1_readOrder_47 : decode cX1_readOrder 47 = .ok (.aload_n 0, 1) := by decide +kernel
theorem dX1_readOrder_48 : decode cX1_readOrder 48 = .ok (.getfield 19, 3) := by decide +kernel
theorem dX1_readOrder_51 : decode cX1_readOrder 51 = .ok (.ireturn, 1) := by decide +kernel
theorem dX1_readOrder_52 : decode cX1_readOrder 52 = .ok (.aload_n 0, 1) := by decide +kernel
theorem dX1_readOrder_53 : decode cX1_readOrder 53 = .ok (.getfield 26, 3) := by decide +kernel
theorem dX1_readOrder_56 : decode cX1_readOrder 56 = .ok (.invokestatic 51, 3) := by decide +kernel
theorem dX1_readOrder_59 : decode cX1_readOrder 59 = .ok (.ifCond .eq 42, 3) := by decide +kernel
theorem dX1_readOrder_62 : decode cX1_readOrder 62 = .ok (.aload_n 0, 1) := by decide +kernel
theorem dX1_readOrder_63 : decode cX1_readOrder 63 = .ok (.invokevirtual 55, 3) := by decide +kernel
theorem dX1_readOrder_66 : decode cX1_readOrder 66 = .ok (.bipush 32, 2) := by decide +kernel
theorem dX1_readOrder_68 : decode cX1_readOrder 68 = .ok (.if_icmp .eq 8, 3) := by decide +kernel
theorem dX1_readOrder_71 : decode cX1_readOrder 71 = .ok (.aload_n 0, 1) := by decide +kernel
theorem dX1_readOrder_72 : decode cX1_readOrder 72 = .ok (.getfield 19, 3) := by decide +kernel
theorem dX1_readOrder_75 : decode cX1_readOrder 75 = .ok (.ireturn, 1) := by decide +kernel
theorem dX1_readOrder_76 : decode cX1_readOrder 76 = .ok (.aload_n 0, 1) := by decide +kernel
theorem dX1_readOrder_77 : decode cX1_readOrder 77 = .ok (.invokevirtual 42, 3) := by decide +kernel
theorem dX1_readOrder_80 : decode cX1_readOrder 80 = .ok (.aload_n 0, 1) := by decide +kernel
theorem dX1_readOrder_81 : decode cX1_readOrder 81 = .ok (.aload_n 0, 1) := by decide +kernel
theorem dX1_readOrder_82 : decode cX1_readOrder 82 = .ok (.invokevirtual 48, 3) := by decide +kernel
theorem dX1_readOrder_85 : decode cX1_readOrder 85 = .ok (.putfield 32, 3) := by decide +kernel
theorem dX1_readOrder_88 : decode cX1_readOrder 88 = .ok (.aload_n 0, 1) := by decide +kernel
theorem dX1_readOrder_89 : decode cX1_readOrder 89 = .ok (.getfield 32, 3) := by decide +kernel
theorem dX1_readOrder_92 : decode cX1_readOrder 92 = .ok (.iconst (-1), 1) := by decide +kernel
theorem dX1_readOrder_93 : decode cX1_readOrder 93 = .ok (.if_icmp .ne 8, 3) := by decide +kernel
theorem dX1_readOrder_96 : decode cX1_readOrder 96 = .ok (.aload_n 0, 1) := by decide +kernel
theorem dX1_readOrder_97 : decode cX1_readOrder 97 = .ok (.getfield 19, 3) := by decide +kernel
theorem dX1_readOrder_100 : decode cX1_readOrder 100 = .ok (.ireturn, 1) := by decide +kernel
theorem dX1_readOrder_101 : decode cX1_readOrder 101 = .ok (.aload_n 0, 1) := by decide +kernel
theorem dX1_readOrder_102 : decode cX1_readOrder 102 = .ok (.invokevirtual 42, 3) := by decide +kernel
theorem dX1_readOrder_105 : decode cX1_readOrder 105 = .ok (.aload_n 0, 1) := by decide +kernel
theorem dX1_readOrder_106 : decode cX1_readOrder 106 = .ok (.invokevirtual 58, 3) := by decide +kernel
theorem dX1_readOrder_109 : decode cX1_readOrder 109 = .ok (.ireturn, 1) := by decide +kernel
theorem dX1_readEndOfOrder_0 : decode cX1_readEndOfOrder 0 = .ok (.aload_n 0, 1) := by decide +kernel
theorem dX1_readEndOfOrder_1 : decode cX1_readEndOfOrder 1 = .ok (.aload_n 0, 1) := by decide +kernel
theorem dX1_readEndOfOrder_2 : decode cX1_readEndOfOrder 2 = .ok (.invokevirtual 55, 3) := by decide +kernel
theorem dX1_readEndOfOrder_5 : decode cX1_readEndOfOrder 5 = .ok (.bipush 59, 2) := by decide +kernel
theorem dX1_readEndOfOrder_7 : decode cX1_readEndOfOrder 7 = .ok (.if_icmp .ne 7, 3) := by decide +kernel
theorem dX1_readEndOfOrder_10 : decode cX1_readEndOfOrder 10 = .ok (.iconst 1, 1) := by decide +kernel
theorem dX1_readEndOfOrder_11 : decode cX1_readEndOfOrder 11 = .ok (.goto 4, 3) := by decide +kernel
theorem dX1_readEndOfOrder_14 : decode cX1_readEndOfOrder 14 = .ok (.iconst 0, 1) := by decide +kernel
theorem dX1_readEndOfOrder_15 : decode cX1_readEndOfOrder 15 = .ok (.putfield 22, 3) := by decide +kernel
theorem dX1_readEndOfOrder_18 : decode cX1_readEndOfOrder 18 = .ok (.aload_n 0, 1) := by decide +kernel
theorem dX1_readEndOfOrder_19 : decode cX1_readEndOfOrder 19 = .ok (.getfield 22, 3) := by decide +kernel
theorem dX1_readEndOfOrder_22 : decode cX1_readEndOfOrder 22 = .ok (.ifCond .eq 15, 3) := by decide +kernel
theorem dX1_readEndOfOrder_25 : decode cX1_readEndOfOrder 25 = .ok (.aload_n 0, 1) := by decide +kernel
theorem dX1_readEndOfOrder_26 : decode cX1_readEndOfOrder 26 = .ok (.dup, 1) := by decide +kernel
theorem dX1_readEndOfOrder_27 : decode cX1_readEndOfOrder 27 = .ok (.getfield 19, 3) := by decide +kernel
theorem dX1_readEndOfOrder_30 : decode cX1_readEndOfOrder 30 = .ok (.iconst 1, 1) := by decide +kernel
theorem dX1_readEndOfOrder_31 : decode cX1_readEndOfOrder 31 = .ok (.iadd, 1) := by decide +kernel
theorem dX1_readEndOfOrder_32 : decode cX1_readEndOfOrder 32 = .ok (.putfield 19, 3) := by decide +kernel
theorem dX1_readEndOfOrder_35 : decode cX1_readEndOfOrder 35 = .ok (.iconst (-1), 1) := by decide +kernel
theorem dX1_readEndOfOrder_36 : decode cX1_readEndOfOrder 36 = .ok (.ireturn, 1) := by decide +kernel
theorem dX1_readEndOfOrder_37 : decode cX1_readEndOfOrder 37 = .ok (.aload_n 0, 1) := by decide +kernel
theorem dX1_readEndOfOrder_38 : decode cX1_readEndOfOrder 38 = .ok (.invokevirtual 55, 3) := by decide +kernel
theorem dX1_readEndOfOrder_41 : decode cX1_readEndOfOrder 41 = .ok (.iconst (-1), 1) := by decide +kernel
theorem dX1_readEndOfOrder_42 : decode cX1_readEndOfOrder 42 = .ok (.if_icmp .ne 7, 3) := by decide +kernel
theorem dX1_readEndOfOrder_45 : decode cX1_readEndOfOrder 45 = .ok (.iconst (-1), 1) := by decide +kernel
theorem dX1_readEndOfOrder_46 : decode cX1_readEndOfOrder 46 = .ok (.goto 7, 3) := by decide +kernel
theorem dX1_readEndOfOrder_49 : decode cX1_readEndOfOrder 49 = .ok (.aload_n 0, 1) := by decide +kernel
theorem dX1_readEndOfOrder_50 : decode cX1_readEndOfOrder 50 = .ok (.getfield 19, 3) := by decide +kernel
theorem dX1_readEndOfOrder_53 : decode cX1_readEndOfOrder 53 = .ok (.ireturn, 1) := by decide +kernel
theorem dX1_readWord_0 : decode cX1_readWord 0 = .ok (.aload_n 0, 1) := by decide +kernel
theorem dX1_readWord_1 : decode cX1_readWord 1 = .ok (.getfield 19, 3) := by decide +kernel
theorem dX1_readWord_4 : decode cX1_readWord 4 = .ok (.istore_n 1, 1) := by decide +kernel
theorem dX1_readWord_5 : decode cX1_readWord 5 = .ok (.aload_n 0, 1) := by decide +kernel
theorem dX1_readWord_6 : decode cX1_readWord 6 = .ok (.getfield 19, 3) := by decide +kernel
theorem dX1_readWord_9 : decode cX1_readWord 9 = .ok (.aload_n 0, 1) := by decide +kernel
theorem dX1_readWord_10 : decode cX1_readWord 10 = .ok (.getfield 15, 3) := by decide +kernel
theorem dX1_readWord_13 : decode cX1_readWord 13 = .ok (.if_icmp .ge 44, 3) := by decide +kernel
theorem dX1_readWord_16 : decode cX1_readWord 16 = .ok (.aload_n 0, 1) := by decide +kernel
theorem dX1_readWord_17 : decode cX1_readWord 17 = .ok (.getfield 11, 3) := by decide +kernel
theorem dX1_readWord_20 : decode cX1_readWord 20 = .ok (.aload_n 0, 1) := by decide +kernel
theorem dX1_readWord_21 : decode cX1_readWord 21 = .ok (.getfield 19, 3) := by decide +kernel
theorem dX1_readWord_24 : decode cX1_readWord 24 = .ok (.iaload, 1) := by decide +kernel
theorem dX1_readWord_25 : decode cX1_readWord 25 = .ok (.bipush 97, 2) := by decide +kernel
theorem dX1_readWord_27 : decode cX1_readWord 27 = .ok (.if_icmp .lt 30, 3) := by decide +kernel
theorem dX1_readWord_30 : decode cX1_readWord 30 = .ok (.aload_n 0, 1) := by decide +kernel
theorem dX1_readWord_31 : decode cX1_readWord 31 = .ok (.getfield 11, 3) := by decide +kernel
theorem dX1_readWord_34 : decode cX1_readWord 34 = .ok (.aload_n 0, 1) := by decide +kernel
theorem dX1_readWord_35 : decode cX1_readWord 35 = .ok (.getfield 19, 3) := by decide +kernel
theorem dX1_readWord_38 : decode cX1_readWord 38 = .ok (.iaload, 1) := by decide +kernel
theorem dX1_readWord_39 : decode cX1_readWord 39 = .ok (.bipush 122, 2) := by decide +kernel
theorem dX1_readWord_41 : decode cX1_readWord 41 = .ok (.if_icmp .gt 16, 3) := by decide +kernel
theorem dX1_readWord_44 : decode cX1_readWord 44 = .ok (.aload_n 0, 1) := by decide +kernel
theorem dX1_readWord_45 : decode cX1_readWord 45 = .ok (.dup, 1) := by decide +kernel
theorem dX1_readWord_46 : decode cX1_readWord 46 = .ok (.getfield 19, 3) := by decide +kernel
theorem dX1_readWord_49 : decode cX1_readWord 49 = .ok (.iconst 1, 1) := by decide +kernel
theorem dX1_readWord_50 : decode cX1_readWord 50 = .ok (.iadd, 1) := by decide +kernel
theorem dX1_readWord_51 : decode cX1_readWord 51 = .ok (.putfield 19, 3) := by decide +kernel
theorem dX1_readWord_54 : decode cX1_readWord 54 = .ok (.goto (-49), 3) := by decide +kernel
theorem dX1_readWord_57 : decode cX1_readWord 57 = .ok (.aload_n 0, 1) := by decide +kernel
theorem dX1_readWord_58 : decode cX1_readWord 58 = .ok (.ldc 61, 2) := by decide +kernel
theorem dX1_readWord_60 : decode cX1_readWord 60 = .ok (.iload_n 1, 1) := by decide +kernel
theorem dX1_readWord_61 : decode cX1_readWord 61 = .ok (.invokevirtual 63, 3) := by decide +kernel
theorem dX1_readWord_64 : decode cX1_readWord 64 = .ok (.ifCond .eq 5, 3) := by decide +kernel
theorem dX1_readWord_67 : decode cX1_readWord 67 = .ok (.iconst 0, 1) := by decide +kernel
theorem dX1_readWord_68 : decode cX1_readWord 68 = .ok (.ireturn, 1) := by decide +kernel
theorem dX1_readWord_69 : decode cX1_readWord 69 = .ok (.aload_n 0, 1) := by decide +kernel
theorem dX1_readWord_70 : decode cX1_readWord 70 = .ok (.ldc 67, 2) := by decide +kernel
theorem dX1_readWord_72 : decode cX1_readWord 72 = .ok (.iload_n 1, 1) := by decide +kernel
theorem dX1_readWord_73 : decode cX1_readWord 73 = .ok (.invokevirtual 63, 3) := by decide +kernel
theorem dX1_readWord_76 : decode cX1_readWord 76 = .ok (.ifCond .eq 5, 3) := by decide +kernel
theorem dX1_readWord_79 : decode cX1_readWord 79 = .ok (.iconst 1, 1) := by decide +kernel
theorem dX1_readWord_80 : decode cX1_readWord 80 = .ok (.ireturn, 1) := by decide +kernel
theorem dX1_readWord_81 : decode cX1_readWord 81 = .ok (.aload_n 0, 1) := by decide +kernel
theorem dX1_readWord_82 : decode cX1_readWord 82 = .ok (.ldc 69, 2) := by decide +kernel
theorem dX1_readWord_84 : decode cX1_readWord 84 = .ok (.iload_n 1, 1) := by decide +kernel
theorem dX1_readWord_85 : decode cX1_readWord 85 = .ok (.invokevirtual 63, 3) := by decide +kernel
theorem dX1_readWord_88 : decode cX1_readWord 88 = .ok (.ifCond .eq 5, 3) := by decide +kernel
theorem dX1_readWord_91 : decode cX1_readWord 91 = .ok (.iconst 2, 1) := by decide +kernel
theorem dX1_readWord_92 : decode cX1_readWord 92 = .ok (.ireturn, 1) := by decide +kernel
theorem dX1_readWord_93 : decode cX1_readWord 93 = .ok (.aload_n 0, 1) := by decide +kernel
theorem dX1_readWord_94 : decode cX1_readWord 94 = .ok (.ldc 71, 2) := by decide +kernel
theorem dX1_readWord_96 : decode cX1_readWord 96 = .ok (.iload_n 1, 1) := by decide +kernel
theorem dX1_readWord_97 : decode cX1_readWord 97 = .ok (.invokevirtual 63, 3) := by decide +kernel
theorem dX1_readWord_100 : decode cX1_readWord 100 = .ok (.ifCond .eq 5, 3) := by decide +kernel
theorem dX1_readWord_103 : decode cX1_readWord 103 = .ok (.iconst 3, 1) := by decide +kernel
theorem dX1_readWord_104 : decode cX1_readWord 104 = .ok (.ireturn, 1) := by decide +kernel
theorem dX1_readWord_105 : decode cX1_readWord 105 = .ok (.aload_n 0, 1) := by decide +kernel
theorem dX1_readWord_106 : decode cX1_readWord 106 = .ok (.ldc 73, 2) := by decide +kernel
theorem dX1_readWord_108 : decode cX1_readWord 108 = .ok (.iload_n 1, 1) := by decide +kernel
theorem dX1_readWord_109 : decode cX1_readWord 109 = .ok (.invokevirtual 63, 3) := by decide +kernel
theorem dX1_readWord_112 : decode cX1_readWord 112 = .ok (.ifCond .eq 7, 3) := by decide +kernel
theorem dX1_readWord_115 : decode cX1_readWord 115 = .ok (.iconst 4, 1) := by decide +kernel
theorem dX1_readWord_116 : decode cX1_readWord 116 = .ok (.goto 4, 3) := by decide +kernel
theorem dX1_readWord_119 : decode cX1_readWord 119 = .ok (.iconst (-1), 1) := by decide +kernel
theorem dX1_readWord_120 : decode cX1_readWord 120 = .ok (.ireturn, 1) := by decide +kernel
theorem dX1_stands_0 : decode cX1_stands 0 = .ok (.aload_n 1, 1) := by decide +kernel
theorem dX1_stands_1 : decode cX1_stands 1 = .ok (.invokevirtual 75, 3) := by decide +kernel
theorem dX1_stands_4 : decode cX1_stands 4 = .ok (.aload_n 0, 1) := by decide +kernel
theorem dX1_stands_5 : decode cX1_stands 5 = .ok (.getfield 19, 3) := by decide +kernel
theorem dX1_stands_8 : decode cX1_stands 8 = .ok (.iload_n 2, 1) := by decide +kernel
theorem dX1_stands_9 : decode cX1_stands 9 = .ok (.isub, 1) := by decide +kernel
theorem dX1_stands_10 : decode cX1_stands 10 = .ok (.if_icmp .eq 5, 3) := by decide +kernel
theorem dX1_stands_13 : decode cX1_stands 13 = .ok (.iconst 0, 1) := by decide +kernel
theorem dX1_stands_14 : decode cX1_stands 14 = .ok (.ireturn, 1) := by decide +kernel
theorem dX1_stands_15 : decode cX1_stands 15 = .ok (.iconst 0, 1) := by decide +kernel
theorem dX1_stands_16 : decode cX1_stands 16 = .ok (.istore_n 3, 1) := by decide +kernel
theorem dX1_stands_17 : decode cX1_stands 17 = .ok (.iload_n 3, 1) := by decide +kernel
theorem dX1_stands_18 : decode cX1_stands 18 = .ok (.aload_n 1, 1) := by decide +kernel
theorem dX1_stands_19 : decode cX1_stands 19 = .ok (.invokevirtual 75, 3) := by decide +kernel
theorem dX1_stands_22 : decode cX1_stands 22 = .ok (.if_icmp .ge 37, 3) := by decide +kernel
theorem dX1_stands_25 : decode cX1_stands 25 = .ok (.iload_n 2, 1) := by decide +kernel
theorem dX1_stands_26 : decode cX1_stands 26 = .ok (.iload_n 3, 1) := by decide +kernel
theorem dX1_stands_27 : decode cX1_stands 27 = .ok (.iadd, 1) := by decide +kernel
theorem dX1_stands_28 : decode cX1_stands 28 = .ok (.aload_n 0, 1) := by decide +kernel
theorem dX1_stands_29 : decode cX1_stands 29 = .ok (.getfield 15, 3) := by decide +kernel
theorem dX1_stands_32 : decode cX1_stands 32 = .ok (.if_icmp .ge 27, 3) := by decide +kernel
theorem dX1_stands_35 : decode cX1_stands 35 = .ok (.aload_n 0, 1) := by decide +kernel
theorem dX1_stands_36 : decode cX1_stands 36 = .ok (.getfield 11, 3) := by decide +kernel
theorem dX1_stands_39 : decode cX1_stands 39 = .ok (.iload_n 2, 1) := by decide +kernel
theorem dX1_stands_40 : decode cX1_stands 40 = .ok (.iload_n 3, 1) := by decide +kernel
theorem dX1_stands_41 : decode cX1_stands 41 = .ok (.iadd, 1) := by decide +kernel
theorem dX1_stands_42 : decode cX1_stands 42 = .ok (.iaload, 1) := by decide +kernel
theorem dX1_stands_43 : decode cX1_stands 43 = .ok (.aload_n 1, 1) := by decide +kernel
theorem dX1_stands_44 : decode cX1_stands 44 = .ok (.iload_n 3, 1) := by decide +kernel
theorem dX1_stands_45 : decode cX1_stands 45 = .ok (.invokevirtual 79, 3) := by decide +kernel
theorem dX1_stands_48 : decode cX1_stands 48 = .ok (.if_icmp .eq 5, 3) := by decide +kernel
theorem dX1_stands_51 : decode cX1_stands 51 = .ok (.iconst 0, 1) := by decide +kernel
theorem dX1_stands_52 : decode cX1_stands 52 = .ok (.ireturn, 1) := by decide +kernel
theorem dX1_stands_53 : decode cX1_stands 53 = .ok (.iinc 3 1, 3) := by decide +kernel
theorem dX1_stands_56 : decode cX1_stands 56 = .ok (.goto (-39), 3) := by decide +kernel
theorem dX1_stands_59 : decode cX1_stands 59 = .ok (.iconst 1, 1) := by decide +kernel
theorem dX1_stands_60 : decode cX1_stands 60 = .ok (.ireturn, 1) := by decide +kernel
theorem dX1_takesTwo_0 : decode cX1_takesTwo 0 = .ok (.iload_n 0, 1) := by decide +kernel
theorem dX1_takesTwo_1 : decode cX1_takesTwo 1 = .ok (.ifCond .eq 13, 3) := by decide +kernel
theorem dX1_takesTwo_4 : decode cX1_takesTwo 4 = .ok (.iload_n 0, 1) := by decide +kernel
theorem dX1_takesTwo_5 : decode cX1_takesTwo 5 = .ok (.iconst 1, 1) := by decide +kernel
theorem dX1_takesTwo_6 : decode cX1_takesTwo 6 = .ok (.if_icmp .eq 8, 3) := by decide +kernel
theorem dX1_takesTwo_9 : decode cX1_takesTwo 9 = .ok (.iload_n 0, 1) := by decide +kernel
theorem dX1_takesTwo_10 : decode cX1_takesTwo 10 = .ok (.iconst 2, 1) := by decide +kernel
theorem dX1_takesTwo_11 : decode cX1_takesTwo 11 = .ok (.if_icmp .ne 7, 3) := by decide +kernel
theorem dX1_takesTwo_14 : decode cX1_takesTwo 14 = .ok (.iconst 1, 1) := by decide +kernel
theorem dX1_takesTwo_15 : decode cX1_takesTwo 15 = .ok (.goto 4, 3) := by decide +kernel
theorem dX1_takesTwo_18 : decode cX1_takesTwo 18 = .ok (.iconst 0, 1) := by decide +kernel
theorem dX1_takesTwo_19 : decode cX1_takesTwo 19 = .ok (.ireturn, 1) := by decide +kernel
theorem dX1_readNumber_0 : decode cX1_readNumber 0 = .ok (.iconst 0, 1) := by decide +kernel
theorem dX1_readNumber_1 : decode cX1_readNumber 1 = .ok (.istore_n 1, 1) := by decide +kernel
theorem dX1_readNumber_2 : decode cX1_readNumber 2 = .ok (.iconst 0, 1) := by decide +kernel
theorem dX1_readNumber_3 : decode cX1_readNumber 3 = .ok (.istore_n 2, 1) := by decide +kernel
theorem dX1_readNumber_4 : decode cX1_readNumber 4 = .ok (.aload_n 0, 1) := by decide +kernel
theorem dX1_readNumber_5 : decode cX1_readNumber 5 = .ok (.getfield 19, 3) := by decide +kernel
theorem dX1_readNumber_8 : decode cX1_readNumber 8 = .ok (.aload_n 0, 1) := by decide +kernel
theorem dX1_readNumber_9 : decode cX1_readNumber 9 = .ok (.getfield 15, 3) := by decide +kernel
theorem dX1_readNumber_12 : decode cX1_readNumber 12 = .ok (.if_icmp .ge 72, 3) := by decide +kernel
theorem dX1_readNumber_15 : decode cX1_readNumber 15 = .ok (.aload_n 0, 1) := by decide +kernel
theorem dX1_readNumber_16 : decode cX1_readNumber 16 = .ok (.getfield 11, 3) := by decide +kernel
theorem dX1_readNumber_19 : decode cX1_readNumber 19 = .ok (.aload_n 0, 1) := by decide +kernel
theorem dX1_readNumber_20 : decode cX1_readNumber 20 = .ok (.getfield 19, 3) := by decide +kernel
theorem dX1_readNumber_23 : decode cX1_readNumber 23 = .ok (.iaload, 1) := by decide +kernel
theorem dX1_readNumber_24 : decode cX1_readNumber 24 = .ok (.bipush 48, 2) := by decide +kernel
theorem dX1_readNumber_26 : decode cX1_readNumber 26 = .ok (.if_icmp .lt 58, 3) := by decide +kernel
theorem dX1_readNumber_29 : decode cX1_readNumber 29 = .ok (.aload_n 0, 1) := by decide +kernel
theorem dX1_readNumber_30 : decode cX1_readNumber 30 = .ok (.getfield 11, 3) := by decide +kernel
theorem dX1_readNumber_33 : decode cX1_readNumber 33 = .ok (.aload_n 0, 1) := by decide +kernel
theorem dX1_readNumber_34 : decode cX1_readNumber 34 = .ok (.getfield 19, 3) := by decide +kernel
theorem dX1_readNumber_37 : decode cX1_readNumber 37 = .ok (.iaload, 1) := by decide +kernel
theorem dX1_readNumber_38 : decode cX1_readNumber 38 = .ok (.bipush 57, 2) := by decide +kernel
theorem dX1_readNumber_40 : decode cX1_readNumber 40 = .ok (.if_icmp .gt 44, 3) := by decide +kernel
theorem dX1_readNumber_43 : decode cX1_readNumber 43 = .ok (.iload_n 2, 1) := by decide +kernel
theorem dX1_readNumber_44 : decode cX1_readNumber 44 = .ok (.iconst 5, 1) := by decide +kernel
theorem dX1_readNumber_45 : decode cX1_readNumber 45 = .ok (.if_icmp .ne 5, 3) := by decide +kernel
theorem dX1_readNumber_48 : decode cX1_readNumber 48 = .ok (.iconst (-1), 1) := by decide +kernel
theorem dX1_readNumber_49 : decode cX1_readNumber 49 = .ok (.ireturn, 1) := by decide +kernel
theorem dX1_readNumber_50 : decode cX1_readNumber 50 = .ok (.iload_n 1, 1) := by decide +kernel
theorem dX1_readNumber_51 : decode cX1_readNumber 51 = .ok (.bipush 10, 2) := by decide +kernel
theorem dX1_readNumber_53 : decode cX1_readNumber 53 = .ok (.imul, 1) := by decide +kernel
theorem dX1_readNumber_54 : decode cX1_readNumber 54 = .ok (.aload_n 0, 1) := by decide +kernel
theorem dX1_readNumber_55 : decode cX1_readNumber 55 = .ok (.getfield 11, 3) := by decide +kernel
theorem dX1_readNumber_58 : decode cX1_readNumber 58 = .ok (.aload_n 0, 1) := by decide +kernel
theorem dX1_readNumber_59 : decode cX1_readNumber 59 = .ok (.getfield 19, 3) := by decide +kernel
theorem dX1_readNumber_62 : decode cX1_readNumber 62 = .ok (.iaload, 1) := by decide +kernel
theorem dX1_readNumber_63 : decode cX1_readNumber 63 = .ok (.iadd, 1) := by decide +kernel
theorem dX1_readNumber_64 : decode cX1_readNumber 64 = .ok (.bipush 48, 2) := by decide +kernel
theorem dX1_readNumber_66 : decode cX1_readNumber 66 = .ok (.isub, 1) := by decide +kernel
theorem dX1_readNumber_67 : decode cX1_readNumber 67 = .ok (.istore_n 1, 1) := by decide +kernel
theorem dX1_readNumber_68 : decode cX1_readNumber 68 = .ok (.iinc 2 1, 3) := by decide +kernel
theorem dX1_readNumber_71 : decode cX1_readNumber 71 = .ok (.aload_n 0, 1) := by decide +kernel
theorem dX1_readNumber_72 : decode cX1_readNumber 72 = .ok (.dup, 1) := by decide +kernel
theorem dX1_readNumber_73 : decode cX1_readNumber 73 = .ok (.getfield 19, 3) := by decide +kernel
theorem dX1_readNumber_76 : decode cX1_readNumber 76 = .ok (.iconst 1, 1) := by decide +kernel
theorem dX1_readNumber_77 : decode cX1_readNumber 77 = .ok (.iadd, 1) := by decide +kernel
theorem dX1_readNumber_78 : decode cX1_readNumber 78 = .ok (.putfield 19, 3) := by decide +kernel
theorem dX1_readNumber_81 : decode cX1_readNumber 81 = .ok (.goto (-77), 3) := by decide +kernel
theorem dX1_readNumber_84 : decode cX1_readNumber 84 = .ok (.iload_n 2, 1) := by decide +kernel
theorem dX1_readNumber_85 : decode cX1_readNumber 85 = .ok (.ifCond .ne 7, 3) := by decide +kernel
theorem dX1_readNumber_88 : decode cX1_readNumber 88 = .ok (.iconst (-1), 1) := by decide +kernel
theorem dX1_readNumber_89 : decode cX1_readNumber 89 = .ok (.goto 4, 3) := by decide +kernel
theorem dX1_readNumber_92 : decode cX1_readNumber 92 = .ok (.iload_n 1, 1) := by decide +kernel
theorem dX1_readNumber_93 : decode cX1_readNumber 93 = .ok (.ireturn, 1) := by decide +kernel
theorem dX1_skipBlanks_0 : decode cX1_skipBlanks 0 = .ok (.aload_n 0, 1) := by decide +kernel
theorem dX1_skipBlanks_1 : decode cX1_skipBlanks 1 = .ok (.getfield 19, 3) := by decide +kernel
theorem dX1_skipBlanks_4 : decode cX1_skipBlanks 4 = .ok (.aload_n 0, 1) := by decide +kernel
theorem dX1_skipBlanks_5 : decode cX1_skipBlanks 5 = .ok (.getfield 15, 3) := by decide +kernel
theorem dX1_skipBlanks_8 : decode cX1_skipBlanks 8 = .ok (.if_icmp .ge 30, 3) := by decide +kernel
theorem dX1_skipBlanks_11 : decode cX1_skipBlanks 11 = .ok (.aload_n 0, 1) := by decide +kernel
theorem dX1_skipBlanks_12 : decode cX1_skipBlanks 12 = .ok (.getfield 11, 3) := by decide +kernel
theorem dX1_skipBlanks_15 : decode cX1_skipBlanks 15 = .ok (.aload_n 0, 1) := by decide +kernel
theorem dX1_skipBlanks_16 : decode cX1_skipBlanks 16 = .ok (.getfield 19, 3) := by decide +kernel
theorem dX1_skipBlanks_19 : decode cX1_skipBlanks 19 = .ok (.iaload, 1) := by decide +kernel
theorem dX1_skipBlanks_20 : decode cX1_skipBlanks 20 = .ok (.bipush 32, 2) := by decide +kernel
theorem dX1_skipBlanks_22 : decode cX1_skipBlanks 22 = .ok (.if_icmp .ne 16, 3) := by decide +kernel
theorem dX1_skipBlanks_25 : decode cX1_skipBlanks 25 = .ok (.aload_n 0, 1) := by decide +kernel
theorem dX1_skipBlanks_26 : decode cX1_skipBlanks 26 = .ok (.dup, 1) := by decide +kernel
theorem dX1_skipBlanks_27 : decode cX1_skipBlanks 27 = .ok (.getfield 19, 3) := by decide +kernel
theorem dX1_skipBlanks_30 : decode cX1_skipBlanks 30 = .ok (.iconst 1, 1) := by decide +kernel
theorem dX1_skipBlanks_31 : decode cX1_skipBlanks 31 = .ok (.iadd, 1) := by decide +kernel
theorem dX1_skipBlanks_32 : decode cX1_skipBlanks 32 = .ok (.putfield 19, 3) := by decide +kernel
theorem dX1_skipBlanks_35 : decode cX1_skipBlanks 35 = .ok (.goto (-35), 3) := by decide +kernel
theorem dX1_skipBlanks_38 : decode cX1_skipBlanks 38 = .ok (.return_, 1) := by decide +kernel
theorem dX1_here_0 : decode cX1_here 0 = .ok (.aload_n 0, 1) := by decide +kernel
theorem dX1_here_1 : decode cX1_here 1 = .ok (.getfield 19, 3) := by decide +kernel
theorem dX1_here_4 : decode cX1_here 4 = .ok (.aload_n 0, 1) := by decide +kernel
theorem dX1_here_5 : decode cX1_here 5 = .ok (.getfield 15, 3) := by decide +kernel
theorem dX1_here_8 : decode cX1_here 8 = .ok (.if_icmp .ge 15, 3) := by decide +kernel
theorem dX1_here_11 : decode cX1_here 11 = .ok (.aload_n 0, 1) := by decide +kernel
theorem dX1_here_12 : decode cX1_here 12 = .ok (.getfield 11, 3) := by decide +kernel
theorem dX1_here_15 : decode cX1_here 15 = .ok (.aload_n 0, 1) := by decide +kernel
theorem dX1_here_16 : decode cX1_here 16 = .ok (.getfield 19, 3) := by decide +kernel
theorem dX1_here_19 : decode cX1_here 19 = .ok (.iaload, 1) := by decide +kernel
theorem dX1_here_20 : decode cX1_here 20 = .ok (.goto 4, 3) := by decide +kernel
theorem dX1_here_23 : decode cX1_here 23 = .ok (.iconst (-1), 1) := by decide +kernel
theorem dX1_here_24 : decode cX1_here 24 = .ok (.ireturn, 1) := by decide +kernel
theorem dX2_init_0 : decode cX2_init 0 = .ok (.aload_n 0, 1) := by decide +kernel
theorem dX2_init_1 : decode cX2_init 1 = .ok (.invokespecial 3, 3) := by decide +kernel
theorem dX2_init_4 : decode cX2_init 4 = .ok (.aload_n 0, 1) := by decide +kernel
theorem dX2_init_5 : decode cX2_init 5 = .ok (.iconst 0, 1) := by decide +kernel
theorem dX2_init_6 : decode cX2_init 6 = .ok (.putfield 9, 3) := by decide +kernel
theorem dX2_init_9 : decode cX2_init 9 = .ok (.aload_n 0, 1) := by decide +kernel
theorem dX2_init_10 : decode cX2_init 10 = .ok (.iconst 0, 1) := by decide +kernel
theorem dX2_init_11 : decode cX2_init 11 = .ok (.putfield 15, 3) := by decide +kernel
theorem dX2_init_14 : decode cX2_init 14 = .ok (.aload_n 0, 1) := by decide +kernel
theorem dX2_init_15 : decode cX2_init 15 = .ok (.iconst 0, 1) := by decide +kernel
theorem dX2_init_16 : decode cX2_init 16 = .ok (.putfield 18, 3) := by decide +kernel
theorem dX2_init_19 : decode cX2_init 19 = .ok (.aload_n 0, 1) := by decide +kernel
theorem dX2_init_20 : decode cX2_init 20 = .ok (.iconst 0, 1) := by decide +kernel
theorem dX2_init_21 : decode cX2_init 21 = .ok (.putfield 21, 3) := by decide +kernel
theorem dX2_init_24 : decode cX2_init 24 = .ok (.aload_n 0, 1) := by decide +kernel
theorem dX2_init_25 : decode cX2_init 25 = .ok (.iconst 4, 1) := by decide +kernel
theorem dX2_init_26 : decode cX2_init 26 = .ok (.newarray .int, 2) := by decide +kernel
theorem dX2_init_28 : decode cX2_init 28 = .ok (.dup, 1) := by decide +kernel
theorem dX2_init_29 : decode cX2_init 29 = .ok (.iconst 0, 1) := by decide +kernel
theorem dX2_init_30 : decode cX2_init 30 = .ok (.bipush 100, 2) := by decide +kernel
theorem dX2_init_32 : decode cX2_init 32 = .ok (.iastore, 1) := by decide +kernel
theorem dX2_init_33 : decode cX2_init 33 = .ok (.dup, 1) := by decide +kernel
theorem dX2_init_34 : decode cX2_init 34 = .ok (.iconst 1, 1) := by decide +kernel
theorem dX2_init_35 : decode cX2_init 35 = .ok (.bipush 25, 2) := by decide +kernel
theorem dX2_init_37 : decode cX2_init 37 = .ok (.iastore, 1) := by decide +kernel
theorem dX2_init_38 : decode cX2_init 38 = .ok (.dup, 1) := by decide +kernel
theorem dX2_init_39 : decode cX2_init 39 = .ok (.iconst 2, 1) := by decide +kernel
theorem dX2_init_40 : decode cX2_init 40 = .ok (.bipush 30, 2) := by decide +kernel
theorem dX2_init_42 : decode cX2_init 42 = .ok (.iastore, 1) := by decide +kernel
theorem dX2_init_43 : decode cX2_init 43 = .ok (.dup, 1) := by decide +kernel
theorem dX2_init_44 : decode cX2_init 44 = .ok (.iconst 3, 1) := by decide +kernel
theorem dX2_init_45 : decode cX2_init 45 = .ok (.bipush 20, 2) := by decide +kernel
theorem dX2_init_47 : decode cX2_init 47 = .ok (.iastore, 1) := by decide +kernel
theorem dX2_init_48 : decode cX2_init 48 = .ok (.putfield 24, 3) := by decide +kernel
theorem dX2_init_51 : decode cX2_init 51 = .ok (.aload_n 0, 1) := by decide +kernel
theorem dX2_init_52 : decode cX2_init 52 = .ok (.bipush 6, 2) := by decide +kernel
theorem dX2_init_54 : decode cX2_init 54 = .ok (.newarray .int, 2) := by decide +kernel
theorem dX2_init_56 : decode cX2_init 56 = .ok (.putfield 28, 3) := by decide +kernel
theorem dX2_init_59 : decode cX2_init 59 = .ok (.aload_n 0, 1) := by decide +kernel
theorem dX2_init_60 : decode cX2_init 60 = .ok (.bipush 6, 2) := by decide +kernel
theorem dX2_init_62 : decode cX2_init 62 = .ok (.newarray .int, 2) := by decide +kernel
theorem dX2_init_64 : decode cX2_init 64 = .ok (.putfield 31, 3) := by decide +kernel
theorem dX2_init_67 : decode cX2_init 67 = .ok (.aload_n 0, 1) := by decide +kernel
theorem dX2_init_68 : decode cX2_init 68 = .ok (.bipush 6, 2) := by decide +kernel
theorem dX2_init_70 : decode cX2_init 70 = .ok (.newarray .int, 2) := by decide +kernel
theorem dX2_init_72 : decode cX2_init 72 = .ok (.putfield 34, 3) := by decide +kernel
theorem dX2_init_75 : decode cX2_init 75 = .ok (.aload_n 0, 1) := by decide +kernel
theorem dX2_init_76 : decode cX2_init 76 = .ok (.bipush 6, 2) := by decide +kernel
theorem dX2_init_78 : decode cX2_init 78 = .ok (.newarray .int, 2) := by decide +kernel
theorem dX2_init_80 : decode cX2_init 80 = .ok (.putfield 37, 3) := by decide +kernel
theorem dX2_init_83 : decode cX2_init 83 = .ok (.aload_n 0, 1) := by decide +kernel
theorem dX2_init_84 : decode cX2_init 84 = .ok (.bipush 6, 2) := by decide +kernel
theorem dX2_init_86 : decode cX2_init 86 = .ok (.newarray .int, 2) := by decide +kernel
theorem dX2_init_88 : decode cX2_init 88 = .ok (.putfield 40, 3) := by decide +kernel
theorem dX2_init_91 : decode cX2_init 91 = .ok (.aload_n 0, 1) := by decide +kernel
theorem dX2_init_92 : decode cX2_init 92 = .ok (.bipush 60, 2) := by decide +kernel
theorem dX2_init_94 : decode cX2_init 94 = .ok (.newarray .int, 2) := by decide +kernel
theorem dX2_init_96 : decode cX2_init 96 = .ok (.putfield 43, 3) := by decide +kernel
theorem dX2_init_99 : decode cX2_init 99 = .ok (.aload_n 0, 1) := by decide +kernel
theorem dX2_init_100 : decode cX2_init 100 = .ok (.bipush 60, 2) := by decide +kernel
theorem dX2_init_102 : decode cX2_init 102 = .ok (.newarray .int, 2) := by decide +kernel
theorem dX2_init_104 : decode cX2_init 104 = .ok (.putfield 46, 3) := by decide +kernel
theorem dX2_init_107 : decode cX2_init 107 = .ok (.aload_n 0, 1) := by decide +kernel
theorem dX2_init_108 : decode cX2_init 108 = .ok (.bipush 60, 2) := by decide +kernel
theorem dX2_init_110 : decode cX2_init 110 = .ok (.newarray .int, 2) := by decide +kernel
theorem dX2_init_112 : decode cX2_init 112 = .ok (.putfield 49, 3) := by decide +kernel
theorem dX2_init_115 : decode cX2_init 115 = .ok (.aload_n 0, 1) := by decide +kernel
theorem dX2_init_116 : decode cX2_init 116 = .ok (.bipush 60, 2) := by decide +kernel
theorem dX2_init_118 : decode cX2_init 118 = .ok (.newarray .int, 2) := by decide +kernel
theorem dX2_init_120 : decode cX2_init 120 = .ok (.putfield 52, 3) := by decide +kernel
theorem dX2_init_123 : decode cX2_init 123 = .ok (.aload_n 0, 1) := by decide +kernel
theorem dX2_init_124 : decode cX2_init 124 = .ok (.bipush 60, 2) := by decide +kernel
theorem dX2_init_126 : decode cX2_init 126 = .ok (.newarray .int, 2) := by decide +kernel
theorem dX2_init_128 : decode cX2_init 128 = .ok (.putfield 55, 3) := by decide +kernel
theorem dX2_init_131 : decode cX2_init 131 = .ok (.aload_n 0, 1) := by decide +kernel
theorem dX2_init_132 : decode cX2_init 132 = .ok (.bipush 60, 2) := by decide +kernel
theorem dX2_init_134 : decode cX2_init 134 = .ok (.newarray .int, 2) := by decide +kernel
theorem dX2_init_136 : decode cX2_init 136 = .ok (.putfield 58, 3) := by decide +kernel
theorem dX2_init_139 : decode cX2_init 139 = .ok (.aload_n 0, 1) := by decide +kernel
theorem dX2_init_140 : decode cX2_init 140 = .ok (.bipush 7, 2) := by decide +kernel
theorem dX2_init_142 : decode cX2_init 142 = .ok (.newarray .int, 2) := by decide +kernel
theorem dX2_init_144 : decode cX2_init 144 = .ok (.putfield 61, 3) := by decide +kernel
theorem dX2_init_147 : decode cX2_init 147 = .ok (.aload_n 0, 1) := by decide +kernel
theorem dX2_init_148 : decode cX2_init 148 = .ok (.bipush 8, 2) := by decide +kernel
theorem dX2_init_150 : decode cX2_init 150 = .ok (.newarray .int, 2) := by decide +kernel
theorem dX2_init_152 : decode cX2_init 152 = .ok (.putfield 64, 3) := by decide +kernel
theorem dX2_init_155 : decode cX2_init 155 = .ok (.return_, 1) := by decide +kernel
theorem dX2_becomeLike_0 : decode cX2_becomeLike 0 = .ok (.aload_n 0, 1) := by decide +kernel
theorem dX2_becomeLike_1 : decode cX2_becomeLike 1 = .ok (.aload_n 1, 1) := by decide +kernel
theorem dX2_becomeLike_2 : decode cX2_becomeLike 2 = .ok (.getfield 9, 3) := by decide +kernel
theorem dX2_becomeLike_5 : decode cX2_becomeLike 5 = .ok (.putfield 9, 3) := by decide +kernel
theorem dX2_becomeLike_8 : decode cX2_becomeLike 8 = .ok (.aload_n 0, 1) := by decide +kernel
theorem dX2_becomeLike_9 : decode cX2_becomeLike 9 = .ok (.aload_n 1, 1) := by decide +kernel
theorem dX2_becomeLike_10 : decode cX2_becomeLike 10 = .ok (.getfield 15, 3) := by decide +kernel
theorem dX2_becomeLike_13 : decode cX2_becomeLike 13 = .ok (.putfield 15, 3) := by decide +kernel
theorem dX2_becomeLike_16 : decode cX2_becomeLike 16 = .ok (.aload_n 0, 1) := by decide +kernel
theorem dX2_becomeLike_17 : decode cX2_becomeLike 17 = .ok (.aload_n 1, 1) := by decide +kernel
theorem dX2_becomeLike_18 : decode cX2_becomeLike 18 = .ok (.getfield 18, 3) := by decide +kernel
theorem dX2_becomeLike_21 : decode cX2_becomeLike 21 = .ok (.putfield 18, 3) := by decide +kernel
theorem dX2_becomeLike_24 : decode cX2_becomeLike 24 = .ok (.aload_n 0, 1) := by decide +kernel
theorem dX2_becomeLike_25 : decode cX2_becomeLike 25 = .ok (.aload_n 1, 1) := by decide +kernel
theorem dX2_becomeLike_26 : decode cX2_becomeLike 26 = .ok (.getfield 21, 3) := by decide +kernel
theorem dX2_becomeLike_29 : decode cX2_becomeLike 29 = .ok (.putfield 21, 3) := by decide +kernel
theorem dX2_becomeLike_32 : decode cX2_becomeLike 32 = .ok (.aload_n 0, 1) := by decide +kernel
theorem dX2_becomeLike_33 : decode cX2_becomeLike 33 = .ok (.getfield 24, 3) := by decide +kernel
theorem dX2_becomeLike_36 : decode cX2_becomeLike 36 = .ok (.aload_n 1, 1) := by decide +kernel
theorem dX2_becomeLike_37 : decode cX2_becomeLike 37 = .ok (.getfield 24, 3) := by decide +kernel
theorem dX2_becomeLike_40 : decode cX2_becomeLike 40 = .ok (.invokestatic 67, 3) := by decide +kernel
theorem dX2_becomeLike_43 : decode cX2_becomeLike 43 = .ok (.aload_n 0, 1) := by decide +kernel
theorem dX2_becomeLike_44 : decode cX2_becomeLike 44 = .ok (.getfield 28, 3) := by decide +kernel
theorem dX2_becomeLike_47 : decode cX2_becomeLike 47 = .ok (.aload_n 1, 1) := by decide +kernel
theorem dX2_becomeLike_48 : decode cX2_becomeLike 48 = .ok (.getfield 28, 3) := by decide +kernel
theorem dX2_becomeLike_51 : decode cX2_becomeLike 51 = .ok (.invokestatic 67, 3) := by decide +kernel
theorem dX2_becomeLike_54 : decode cX2_becomeLike 54 = .ok (.aload_n 0, 1) := by decide +kernel
theorem dX2_becomeLike_55 : decode cX2_becomeLike 55 = .ok (.getfield 31, 3) := by decide +kernel
theorem dX2_becomeLike_58 : decode cX2_becomeLike 58 = .ok (.aload_n 1, 1) := by decide +kernel
theorem dX2_becomeLike_59 : decode cX2_becomeLike 59 = .ok (.getfield 31, 3) := by decide +kernel
theorem dX2_becomeLike_62 : decode cX2_becomeLike 62 = .ok (.invokestatic 67, 3) := by decide +kernel
theorem dX2_becomeLike_65 : decode cX2_becomeLike 65 = .ok (.aload_n 0, 1) := by decide +kernel
theorem dX2_becomeLike_66 : decode cX2_becomeLike 66 = .ok (.getfield 34, 3) := by decide +kernel
theorem dX2_becomeLike_69 : decode cX2_becomeLike 69 = .ok (.aload_n 1, 1) := by decide +kernel
theorem dX2_becomeLike_70 : decode cX2_becomeLike 70 = .ok (.getfield 34, 3) := by decide +kernel
theorem dX2_becomeLike_73 : decode cX2_becomeLike 73 = .ok (.invokestatic 67, 3) := by decide +kernel
theorem dX2_becomeLike_76 : decode cX2_becomeLike 76 = .ok (.aload_n 0, 1) := by decide +kernel
theorem dX2_becomeLike_77 : decode cX2_becomeLike 77 = .ok (.getfield 37, 3) := by decide +kernel
theorem dX2_becomeLike_80 : decode cX2_becomeLike 80 = .ok (.aload_n 1, 1) := by decide +kernel
theorem dX2_becomeLike_81 : decode cX2_becomeLike 81 = .ok (.getfield 37, 3) := by decide +kernel
theorem dX2_becomeLike_84 : decode cX2_becomeLike 84 = .ok (.invokestatic 67, 3) := by decide +kernel
theorem dX2_becomeLike_87 : decode cX2_becomeLike 87 = .ok (.aload_n 0, 1) := by decide +kernel
theorem dX2_becomeLike_88 : decode cX2_becomeLike 88 = .ok (.getfield 40, 3) := by decide +kernel
theorem dX2_becomeLike_91 : decode cX2_becomeLike 91 = .ok (.aload_n 1, 1) := by decide +kernel
theorem dX2_becomeLike_92 : decode cX2_becomeLike 92 = .ok (.getfield 40, 3) := by decide +kernel
theorem dX2_becomeLike_95 : decode cX2_becomeLike 95 = .ok (.invokestatic 67, 3) := by decide +kernel
theorem dX2_becomeLike_98 : decode cX2_becomeLike 98 = .ok (.aload_n 0, 1) := by decide +kernel
theorem dX2_becomeLike_99 : decode cX2_becomeLike 99 = .ok (.getfield 43, 3) := by decide +kernel
theorem dX2_becomeLike_102 : decode cX2_becomeLike 102 = .ok (.aload_n 1, 1) := by decide +kernel
theorem dX2_becomeLike_103 : decode cX2_becomeLike 103 = .ok (.getfield 43, 3) := by decide +kernel
theorem dX2_becomeLike_106 : decode cX2_becomeLike 106 = .ok (.invokestatic 67, 3) := by decide +kernel
theorem dX2_becomeLike_109 : decode cX2_becomeLike 109 = .ok (.aload_n 0, 1) := by decide +kernel
theorem dX2_becomeLike_110 : decode cX2_becomeLike 110 = .ok (.getfield 46, 3) := by decide +kernel
theorem dX2_becomeLike_113 : decode cX2_becomeLike 113 = .ok (.aload_n 1, 1) := by decide +kernel
theorem dX2_becomeLike_114 : decode cX2_becomeLike 114 = .ok (.getfield 46, 3) := by decide +kernel
theorem dX2_becomeLike_117 : decode cX2_becomeLike 117 = .ok (.invokestatic 67, 3) := by decide +kernel
theorem dX2_becomeLike_120 : decode cX2_becomeLike 120 = .ok (.aload_n 0, 1) := by decide +kernel
theorem dX2_becomeLike_121 : decode cX2_becomeLike 121 = .ok (.getfield 49, 3) := by decide +kernel
theorem dX2_becomeLike_124 : decode cX2_becomeLike 124 = .ok (.aload_n 1, 1) := by decide +kernel
theorem dX2_becomeLike_125 : decode cX2_becomeLike 125 = .ok (.getfield 49, 3) := by decide +kernel
theorem dX2_becomeLike_128 : decode cX2_becomeLike 128 = .ok (.invokestatic 67, 3) := by decide +kernel
theorem dX2_becomeLike_131 : decode cX2_becomeLike 131 = .ok (.aload_n 0, 1) := by decide +kernel
theorem dX2_becomeLike_132 : decode cX2_becomeLike 132 = .ok (.getfield 52, 3) := by decide +kernel
theorem dX2_becomeLike_135 : decode cX2_becomeLike 135 = .ok (.aload_n 1, 1) := by decide +kernel
theorem dX2_becomeLike_136 : decode cX2_becomeLike 136 = .ok (.getfield 52, 3) := by decide +kernel
theorem dX2_becomeLike_139 : decode cX2_becomeLike 139 = .ok (.invokestatic 67, 3) := by decide +kernel
theorem dX2_becomeLike_142 : decode cX2_becomeLike 142 = .ok (.aload_n 0, 1) := by decide +kernel
theorem dX2_becomeLike_143 : decode cX2_becomeLike 143 = .ok (.getfield 55, 3) := by decide +kernel
theorem dX2_becomeLike_146 : decode cX2_becomeLike 146 = .ok (.aload_n 1, 1) := by decide +kernel
theorem dX2_becomeLike_147 : decode cX2_becomeLike 147 = .ok (.getfield 55, 3) := by decide +kernel
theorem dX2_becomeLike_150 : decode cX2_becomeLike 150 = .ok (.invokestatic 67, 3) := by decide +kernel
theorem dX2_becomeLike_153 : decode cX2_becomeLike 153 = .ok (.aload_n 0, 1) := by decide +kernel
theorem dX2_becomeLike_154 : decode cX2_becomeLike 154 = .ok (.getfield 58, 3) := by decide +kernel
theorem dX2_becomeLike_157 : decode cX2_becomeLike 157 = .ok (.aload_n 1, 1) := by decide +kernel
theorem dX2_becomeLike_158 : decode cX2_becomeLike 158 = .ok (.getfield 58, 3) := by decide +kernel
theorem dX2_becomeLike_161 : decode cX2_becomeLike 161 = .ok (.invokestatic 67, 3) := by decide +kernel
theorem dX2_becomeLike_164 : decode cX2_becomeLike 164 = .ok (.aload_n 0, 1) := by decide +kernel
theorem dX2_becomeLike_165 : decode cX2_becomeLike 165 = .ok (.getfield 61, 3) := by decide +kernel
theorem dX2_becomeLike_168 : decode cX2_becomeLike 168 = .ok (.aload_n 1, 1) := by decide +kernel
theorem dX2_becomeLike_169 : decode cX2_becomeLike 169 = .ok (.getfield 61, 3) := by decide +kernel
theorem dX2_becomeLike_172 : decode cX2_becomeLike 172 = .ok (.invokestatic 67, 3) := by decide +kernel
theorem dX2_becomeLike_175 : decode cX2_becomeLike 175 = .ok (.aload_n 0, 1) := by decide +kernel
theorem dX2_becomeLike_176 : decode cX2_becomeLike 176 = .ok (.getfield 64, 3) := by decide +kernel
theorem dX2_becomeLike_179 : decode cX2_becomeLike 179 = .ok (.aload_n 1, 1) := by decide +kernel
theorem dX2_becomeLike_180 : decode cX2_becomeLike 180 = .ok (.getfield 64, 3) := by decide +kernel
theorem dX2_becomeLike_183 : decode cX2_becomeLike 183 = .ok (.invokestatic 67, 3) := by decide +kernel
theorem dX2_becomeLike_186 : decode cX2_becomeLike 186 = .ok (.return_, 1) := by decide +kernel
theorem dX2_fill_0 : decode cX2_fill 0 = .ok (.aload_n 1, 1) := by decide +kernel
theorem dX2_fill_1 : decode cX2_fill 1 = .ok (.iconst 0, 1) := by decide +kernel
theorem dX2_fill_2 : decode cX2_fill 2 = .ok (.aload_n 0, 1) := by decide +kernel
theorem dX2_fill_3 : decode cX2_fill 3 = .ok (.iconst 0, 1) := by decide +kernel
theorem dX2_fill_4 : decode cX2_fill 4 = .ok (.aload_n 0, 1) := by decide +kernel
theorem dX2_fill_5 : decode cX2_fill 5 = .ok (.arraylength, 1) := by decide +kernel
theorem dX2_fill_6 : decode cX2_fill 6 = .ok (.aload_n 1, 1) := by decide +kernel
theorem dX2_fill_7 : decode cX2_fill 7 = .ok (.arraylength, 1) := by decide +kernel
theorem dX2_fill_8 : decode cX2_fill 8 = .ok (.invokestatic 71, 3) := by decide +kernel
theorem dX2_fill_11 : decode cX2_fill 11 = .ok (.invokestatic 77, 3) := by decide +kernel
theorem dX2_fill_14 : decode cX2_fill 14 = .ok (.return_, 1) := by decide +kernel
theorem dX2_putTitle_0 : decode cX2_putTitle 0 = .ok (.iload_n 1, 1) := by decide +kernel
theorem dX2_putTitle_1 : decode cX2_putTitle 1 = .ok (.invokestatic 83, 3) := by decide +kernel
theorem dX2_putTitle_4 : decode cX2_putTitle 4 = .ok (.ifCond .eq 10, 3) := by decide +kernel
theorem dX2_putTitle_7 : decode cX2_putTitle 7 = .ok (.iload_n 2, 1) := by decide +kernel
theorem dX2_putTitle_8 : decode cX2_putTitle 8 = .ok (.invokestatic 87, 3) := by decide +kernel
theorem dX2_putTitle_11 : decode cX2_putTitle 11 = .ok (.ifCond .ne 6, 3) := by decide +kernel
theorem dX2_putTitle_14 : decode cX2_putTitle 14 = .ok (.bipush (-3), 2) := by decide +kernel
theorem dX2_putTitle_16 : decode cX2_putTitle 16 = .ok (.ireturn, 1) := by decide +kernel
theorem dX2_putTitle_17 : decode cX2_putTitle 17 = .ok (.aload_n 0, 1) := by decide +kernel
theorem dX2_putTitle_18 : decode cX2_putTitle 18 = .ok (.getfield 15, 3) := by decide +kernel
theorem dX2_putTitle_21 : decode cX2_putTitle 21 = .ok (.bipush 6, 2) := by decide +kernel
theorem dX2_putTitle_23 : decode cX2_putTitle 23 = .ok (.if_icmp .lt 6, 3) := by decide +kernel
theorem dX2_putTitle_26 : decode cX2_putTitle 26 = .ok (.bipush (-5), 2) := by decide +kernel
theorem dX2_putTitle_28 : decode cX2_putTitle 28 = .ok (.ireturn, 1) := by decide +kernel
theorem dX2_putTitle_29 : decode cX2_putTitle 29 = .ok (.aload_n 0, 1) := by decide +kernel
theorem dX2_putTitle_30 : decode cX2_putTitle 30 = .ok (.getfield 28, 3) := by decide +kernel
theorem dX2_putTitle_33 : decode cX2_putTitle 33 = .ok (.aload_n 0, 1) := by decide +kernel
theorem dX2_putTitle_34 : decode cX2_putTitle 34 = .ok (.getfield 15, 3) := by decide +kernel
theorem dX2_putTitle_37 : decode cX2_putTitle 37 = .ok (.iload_n 1, 1) := by decide +kernel
theorem dX2_putTitle_38 : decode cX2_putTitle 38 = .ok (.iastore, 1) := by decide +kernel
theorem dX2_putTitle_39 : decode cX2_putTitle 39 = .ok (.aload_n 0, 1) := by decide +kernel
theorem dX2_putTitle_40 : decode cX2_putTitle 40 = .ok (.getfield 31, 3) := by decide +kernel
theorem dX2_putTitle_43 : decode cX2_putTitle 43 = .ok (.aload_n 0, 1) := by decide +kernel
theorem dX2_putTitle_44 : decode cX2_putTitle 44 = .ok (.getfield 15, 3) := by decide +kernel
theorem dX2_putTitle_47 : decode cX2_putTitle 47 = .ok (.iload_n 2, 1) := by decide +kernel
theorem dX2_putTitle_48 : decode cX2_putTitle 48 = .ok (.iastore, 1) := by decide +kernel
theorem dX2_putTitle_49 : decode cX2_putTitle 49 = .ok (.aload_n 0, 1) := by decide +kernel
theorem dX2_putTitle_50 : decode cX2_putTitle 50 = .ok (.dup, 1) := by decide +kernel
theorem dX2_putTitle_51 : decode cX2_putTitle 51 = .ok (.getfield 15, 3) := by decide +kernel
theorem dX2_putTitle_54 : decode cX2_putTitle 54 = .ok (.iconst 1, 1) := by decide +kernel
theorem dX2_putTitle_55 : decode cX2_putTitle 55 = .ok (.iadd, 1) := by decide +kernel
theorem dX2_putTitle_56 : decode cX2_putTitle 56 = .ok (.putfield 15, 3) := by decide +kernel
theorem dX2_putTitle_59 : decode cX2_putTitle 59 = .ok (.aload_n 0, 1) := by decide +kernel
theorem dX2_putTitle_60 : decode cX2_putTitle 60 = .ok (.getfield 15, 3) := by decide +kernel
theorem dX2_putTitle_63 : decode cX2_putTitle 63 = .ok (.iconst 1, 1) := by decide +kernel
theorem dX2_putTitle_64 : decode cX2_putTitle 64 = .ok (.isub, 1) := by decide +kernel
theorem dX2_putTitle_65 : decode cX2_putTitle 65 = .ok (.ireturn, 1) := by decide +kernel
theorem dX2_changePrice_0 : decode cX2_changePrice 0 = .ok (.aload_n 0, 1) := by decide +kernel
theorem dX2_changePrice_1 : decode cX2_changePrice 1 = .ok (.iload_n 1, 1) := by decide +kernel
theorem dX2_changePrice_2 : decode cX2_changePrice 2 = .ok (.invokevirtual 90, 3) := by decide +kernel
theorem dX2_changePrice_5 : decode cX2_changePrice 5 = .ok (.ifCond .ne 6, 3) := by decide +kernel
theorem dX2_changePrice_8 : decode cX2_changePrice 8 = .ok (.bipush (-2), 2) := by decide +kernel
theorem dX2_changePrice_10 : decode cX2_changePrice 10 = .ok (.ireturn, 1) := by decide +kernel
theorem dX2_changePrice_11 : decode cX2_changePrice 11 = .ok (.iload_n 2, 1) := by decide +kernel
theorem dX2_changePrice_12 : decode cX2_changePrice 12 = .ok (.invokestatic 83, 3) := by decide +kernel
theorem dX2_changePrice_15 : decode cX2_changePrice 15 = .ok (.ifCond .ne 6, 3) := by decide +kernel
theorem dX2_changePrice_18 : decode cX2_changePrice 18 = .ok (.bipush (-3), 2) := by decide +kernel
theorem dX2_changePrice_20 : decode cX2_changePrice 20 = .ok (.ireturn, 1) := by decide +kernel
theorem dX2_changePrice_21 : decode cX2_changePrice 21 = .ok (.aload_n 0, 1) := by decide +kernel
theorem dX2_changePrice_22 : decode cX2_changePrice 22 = .ok (.getfield 28, 3) := by decide +kernel
theorem dX2_changePrice_25 : decode cX2_changePrice 25 = .ok (.iload_n 1, 1) := by decide +kernel
theorem dX2_changePrice_26 : decode cX2_changePrice 26 = .ok (.iaload, 1) := by decide +kernel
theorem dX2_changePrice_27 : decode cX2_changePrice 27 = .ok (.istore_n 3, 1) := by decide +kernel
theorem dX2_changePrice_28 : decode cX2_changePrice 28 = .ok (.aload_n 0, 1) := by decide +kernel
theorem dX2_changePrice_29 : decode cX2_changePrice 29 = .ok (.getfield 28, 3) := by decide +kernel
theorem dX2_changePrice_32 : decode cX2_changePrice 32 = .ok (.iload_n 1, 1) := by decide +kernel
theorem dX2_changePrice_33 : decode cX2_changePrice 33 = .ok (.iload_n 2, 1) := by decide +kernel
theorem dX2_changePrice_34 : decode cX2_changePrice 34 = .ok (.iastore, 1) := by decide +kernel
theorem dX2_changePrice_35 : decode cX2_changePrice 35 = .ok (.iload_n 3, 1) := by decide +kernel
theorem dX2_changePrice_36 : decode cX2_changePrice 36 = .ok (.ireturn, 1) := by decide +kernel
theorem dX2_advanceEdition_0 : decode cX2_advanceEdition 0 = .ok (.aload_n 0, 1) := by decide +kernel
theorem dX2_advanceEdition_1 : decode cX2_advanceEdition 1 = .ok (.iload_n 1, 1) := by decide +kernel
theorem dX2_advanceEdition_2 : decode cX2_advanceEdition 2 = .ok (.invokevirtual 90, 3) := by decide +kernel
theorem dX2_advanceEdition_5 : decode cX2_advanceEdition 5 = .ok (.ifCond .ne 6, 3) := by decide +kernel
theorem dX2_advanceEdition_8 : decode cX2_advanceEdition 8 = .ok (.bipush (-2), 2) := by decide +kernel
theorem dX2_advanceEdition_10 : decode cX2_advanceEdition 10 = .ok (.ireturn, 1) := by decide +kernel
theorem dX2_advanceEdition_11 : decode cX2_advanceEdition 11 = .ok (.aload_n 0, 1) := by decide +kernel
theorem dX2_advanceEdition_12 : decode cX2_advanceEdition 12 = .ok (.getfield 31, 3) := by decide +kernel
theorem dX2_advanceEdition_15 : decode cX2_advanceEdition 15 = .ok (.iload_n 1, 1) := by decide +kernel
theorem dX2_advanceEdition_16 : decode cX2_advanceEdition 16 = .ok (.iaload, 1) := by decide +kernel
theorem dX2_advanceEdition_17 : decode cX2_advanceEdition 17 = .ok (.bipush 30, 2) := by decide +kernel
theorem dX2_advanceEdition_19 : decode cX2_advanceEdition 19 = .ok (.if_icmp .lt 6, 3) := by decide +kernel
theorem dX2_advanceEdition_22 : decode cX2_advanceEdition 22 = .ok (.bipush (-5), 2) := by decide +kernel
theorem dX2_advanceEdition_24 : decode cX2_advanceEdition 24 = .ok (.ireturn, 1) := by decide +kernel
theorem dX2_advanceEdition_25 : decode cX2_advanceEdition 25 = .ok (.aload_n 0, 1) := by decide +kernel
theorem dX2_advanceEdition_26 : decode cX2_advanceEdition 26 = .ok (.getfield 31, 3) := by decide +kernel
theorem dX2_advanceEdition_29 : decode cX2_advanceEdition 29 = .ok (.iload_n 1, 1) := by decide +kernel
theorem dX2_advanceEdition_30 : decode cX2_advanceEdition 30 = .ok (.dup2, 1) := by decide +kernel
theorem dX2_advanceEdition_31 : decode cX2_advanceEdition 31 = .ok (.iaload, 1) := by decide +kernel
theorem dX2_advanceEdition_32 : decode cX2_advanceEdition 32 = .ok (.iconst 1, 1) := by decide +kernel
theorem dX2_advanceEdition_33 : decode cX2_advanceEdition 33 = .ok (.iadd, 1) := by decide +kernel
theorem dX2_advanceEdition_34 : decode cX2_advanceEdition 34 = .ok (.iastore, 1) := by decide +kernel
theorem dX2_advanceEdition_35 : decode cX2_advanceEdition 35 = .ok (.aload_n 0, 1) := by decide +kernel
theorem dX2_advanceEdition_36 : decode cX2_advanceEdition 36 = .ok (.getfield 31, 3) := by decide +kernel
theorem dX2_advanceEdition_39 : decode cX2_advanceEdition 39 = .ok (.iload_n 1, 1) := by decide +kernel
theorem dX2_advanceEdition_40 : decode cX2_advanceEdition 40 = .ok (.iaload, 1) := by decide +kernel
theorem dX2_advanceEdition_41 : decode cX2_advanceEdition 41 = .ok (.ireturn, 1) := by decide +kernel
theorem dX2_putCourse_0 : decode cX2_putCourse 0 = .ok (.aload_n 0, 1) := by decide +kernel
theorem dX2_putCourse_1 : decode cX2_putCourse 1 = .ok (.iload_n 1, 1) := by decide +kernel
theorem dX2_putCourse_2 : decode cX2_putCourse 2 = .ok (.invokevirtual 90, 3) := by decide +kernel
theorem dX2_putCourse_5 : decode cX2_putCourse 5 = .ok (.ifCond .ne 6, 3) := by decide +kernel
theorem dX2_putCourse_8 : decode cX2_putCourse 8 = .ok (.bipush (-2), 2) := by decide +kernel
theorem dX2_putCourse_10 : decode cX2_putCourse 10 = .ok (.ireturn, 1) := by decide +kernel
theorem dX2_putCourse_11 : decode cX2_putCourse 11 = .ok (.iload_n 2, 1) := by decide +kernel
theorem dX2_putCourse_12 : decode cX2_putCourse 12 = .ok (.invokestatic 87, 3) := by decide +kernel
theorem dX2_putCourse_15 : decode cX2_putCourse 15 = .ok (.ifCond .eq 14, 3) := by decide +kernel
theorem dX2_putCourse_18 : decode cX2_putCourse 18 = .ok (.iload_n 3, 1) := by decide +kernel
theorem dX2_putCourse_19 : decode cX2_putCourse 19 = .ok (.iconst 0, 1) := by decide +kernel
theorem dX2_putCourse_20 : decode cX2_putCourse 20 = .ok (.sipush 200, 3) := by decide +kernel
theorem dX2_putCourse_23 : decode cX2_putCourse 23 = .ok (.invokestatic 93, 3) := by decide +kernel
theorem dX2_putCourse_26 : decode cX2_putCourse 26 = .ok (.ifCond .ne 6, 3) := by decide +kernel
theorem dX2_putCourse_29 : decode cX2_putCourse 29 = .ok (.bipush (-3), 2) := by decide +kernel
theorem dX2_putCourse_31 : decode cX2_putCourse 31 = .ok (.ireturn, 1) := by decide +kernel
theorem dX2_putCourse_32 : decode cX2_putCourse 32 = .ok (.aload_n 0, 1) := by decide +kernel
theorem dX2_putCourse_33 : decode cX2_putCourse 33 = .ok (.getfield 18, 3) := by decide +kernel
theorem dX2_putCourse_36 : decode cX2_putCourse 36 = .ok (.bipush 6, 2) := by decide +kernel
theorem dX2_putCourse_38 : decode cX2_putCourse 38 = .ok (.if_icmp .lt 6, 3) := by decide +kernel
theorem dX2_putCourse_41 : decode cX2_putCourse 41 = .ok (.bipush (-5), 2) := by decide +kernel
theorem dX2_putCourse_43 : decode cX2_putCourse 43 = .ok (.ireturn, 1) := by decide +kernel
theorem dX2_putCourse_44 : decode cX2_putCourse 44 = .ok (.aload_n 0, 1) := by decide +kernel
theorem dX2_putCourse_45 : decode cX2_putCourse 45 = .ok (.getfield 34, 3) := by decide +kernel
theorem dX2_putCourse_48 : decode cX2_putCourse 48 = .ok (.aload_n 0, 1) := by decide +kernel
theorem dX2_putCourse_49 : decode cX2_putCourse 49 = .ok (.getfield 18, 3) := by decide +kernel
theorem dX2_putCourse_52 : decode cX2_putCourse 52 = .ok (.iload_n 1, 1) := by decide +kernel
theorem dX2_putCourse_53 : decode cX2_putCourse 53 = .ok (.iastore, 1) := by decide +kernel
theorem dX2_putCourse_54 : decode cX2_putCourse 54 = .ok (.aload_n 0, 1) := by decide +kernel
theorem dX2_putCourse_55 : decode cX2_putCourse 55 = .ok (.getfield 37, 3) := by decide +kernel
theorem dX2_putCourse_58 : decode cX2_putCourse 58 = .ok (.aload_n 0, 1) := by decide +kernel
theorem dX2_putCourse_59 : decode cX2_putCourse 59 = .ok (.getfield 18, 3) := by decide +kernel
theorem dX2_putCourse_62 : decode cX2_putCourse 62 = .ok (.iload_n 2, 1) := by decide +kernel
theorem dX2_putCourse_63 : decode cX2_putCourse 63 = .ok (.iastore, 1) := by decide +kernel
theorem dX2_putCourse_64 : decode cX2_putCourse 64 = .ok (.aload_n 0, 1) := by decide +kernel
theorem dX2_putCourse_65 : decode cX2_putCourse 65 = .ok (.getfield 40, 3) := by decide +kernel
theorem dX2_putCourse_68 : decode cX2_putCourse 68 = .ok (.aload_n 0, 1) := by decide +kernel
theorem dX2_putCourse_69 : decode cX2_putCourse 69 = .ok (.getfield 18, 3) := by decide +kernel
theorem dX2_putCourse_72 : decode cX2_putCourse 72 = .ok (.iload_n 3, 1) := by decide +kernel
theorem dX2_putCourse_73 : decode cX2_putCourse 73 = .ok (.iastore, 1) := by decide +kernel
theorem dX2_putCourse_74 : decode cX2_putCourse 74 = .ok (.aload_n 0, 1) := by decide +kernel
theorem dX2_putCourse_75 : decode cX2_putCourse 75 = .ok (.dup, 1) := by decide +kernel
theorem dX2_putCourse_76 : decode cX2_putCourse 76 = .ok (.getfield 18, 3) := by decide +kernel
theorem dX2_putCourse_79 : decode cX2_putCourse 79 = .ok (.iconst 1, 1) := by decide +kernel
theorem dX2_putCourse_80 : decode cX2_putCourse 80 = .ok (.iadd, 1) := by decide +kernel
theorem dX2_putCourse_81 : decode cX2_putCourse 81 = .ok (.putfield 18, 3) := by decide +kernel
theorem dX2_putCourse_84 : decode cX2_putCourse 84 = .ok (.aload_n 0, 1) := by decide +kernel
theorem dX2_putCourse_85 : decode cX2_putCourse 85 = .ok (.getfield 18, 3) := by decide +kernel
theorem dX2_putCourse_88 : decode cX2_putCourse 88 = .ok (.iconst 1, 1) := by decide +kernel
theorem dX2_putCourse_89 : decode cX2_putCourse 89 = .ok (.isub, 1) := by decide +kernel
theorem dX2_putCourse_90 : decode cX2_putCourse 90 = .ok (.ireturn, 1) := by decide +kernel
theorem dX2_changeCourse_0 : decode cX2_changeCourse 0 = .ok (.aload_n 0, 1) := by decide +kernel
theorem dX2_changeCourse_1 : decode cX2_changeCourse 1 = .ok (.iload_n 1, 1) := by decide +kernel
theorem dX2_changeCourse_2 : decode cX2_changeCourse 2 = .ok (.invokevirtual 97, 3) := by decide +kernel
theorem dX2_changeCourse_5 : decode cX2_changeCourse 5 = .ok (.ifCond .ne 6, 3) := by decide +kernel
theorem dX2_changeCourse_8 : decode cX2_changeCourse 8 = .ok (.bipush (-2), 2) := by decide +kernel
theorem dX2_changeCourse_10 : decode cX2_changeCourse 10 = .ok (.ireturn, 1) := by decide +kernel
theorem dX2_changeCourse_11 : decode cX2_changeCourse 11 = .ok (.iload_n 2, 1) := by decide +kernel
theorem dX2_changeCourse_12 : decode cX2_changeCourse 12 = .ok (.invokestatic 87, 3) := by decide +kernel
theorem dX2_changeCourse_15 : decode cX2_changeCourse 15 = .ok (.ifCond .eq 14, 3) := by decide +kernel
theorem dX2_changeCourse_18 : decode cX2_changeCourse 18 = .ok (.iload_n 3, 1) := by decide +kernel
theorem dX2_changeCourse_19 : decode cX2_changeCourse 19 = .ok (.iconst 0, 1) := by decide +kernel
theorem dX2_changeCourse_20 : decode cX2_changeCourse 20 = .ok (.sipush 200, 3) := by decide +kernel
theorem dX2_changeCourse_23 : decode cX2_changeCourse 23 = .ok (.invokestatic 93, 3) := by decide +kernel
theorem dX2_changeCourse_26 : decode cX2_changeCourse 26 = .ok (.ifCond .ne 6, 3) := by decide +kernel
theorem dX2_changeCourse_29 : decode cX2_changeCourse 29 = .ok (.bipush (-3), 2) := by decide +kernel
theorem dX2_changeCourse_31 : decode cX2_changeCourse 31 = .ok (.ireturn, 1) := by decide +kernel
theorem dX2_changeCourse_32 : decode cX2_changeCourse 32 = .ok (.aload_n 0, 1) := by decide +kernel
theorem dX2_changeCourse_33 : decode cX2_changeCourse 33 = .ok (.getfield 40, 3) := by decide +kernel
theorem dX2_changeCourse_36 : decode cX2_changeCourse 36 = .ok (.iload_n 1, 1) := by decide +kernel
theorem dX2_changeCourse_37 : decode cX2_changeCourse 37 = .ok (.iaload, 1) := by decide +kernel
theorem dX2_changeCourse_38 : decode cX2_changeCourse 38 = .ok (.istore 4, 2) := by decide +kernel
theorem dX2_changeCourse_40 : decode cX2_changeCourse 40 = .ok (.aload_n 0, 1) := by decide +kernel
theorem dX2_changeCourse_41 : decode cX2_changeCourse 41 = .ok (.getfield 37, 3) := by decide +kernel
theorem dX2_changeCourse_44 : decode cX2_changeCourse 44 = .ok (.iload_n 1, 1) := by decide +kernel
theorem dX2_changeCourse_45 : decode cX2_changeCourse 45 = .ok (.iload_n 2, 1) := by decide +kernel
theorem dX2_changeCourse_46 : decode cX2_changeCourse 46 = .ok (.iastore, 1) := by decide +kernel
theorem dX2_changeCourse_47 : decode cX2_changeCourse 47 = .ok (.aload_n 0, 1) := by decide +kernel
theorem dX2_changeCourse_48 : decode cX2_changeCourse 48 = .ok (.getfield 40, 3) := by decide +kernel
theorem dX2_changeCourse_51 : decode cX2_changeCourse 51 = .ok (.iload_n 1, 1) := by decide +kernel
theorem dX2_changeCourse_52 : decode cX2_changeCourse 52 = .ok (.iload_n 3, 1) := by decide +kernel
theorem dX2_changeCourse_53 : decode cX2_changeCourse 53 = .ok (.iastore, 1) := by decide +kernel
theorem dX2_changeCourse_54 : decode cX2_changeCourse 54 = .ok (.iload 4, 2) := by decide +kernel
theorem dX2_changeCourse_56 : decode cX2_changeCourse 56 = .ok (.ireturn, 1) := by decide +kernel
theorem dX2_changeSetting_0 : decode cX2_changeSetting 0 = .ok (.iload_n 1, 1) := by decide +kernel
theorem dX2_changeSetting_1 : decode cX2_changeSetting 1 = .ok (.iconst 0, 1) := by decide +kernel
theorem dX2_changeSetting_2 : decode cX2_changeSetting 2 = .ok (.iconst 3, 1) := by decide +kernel
theorem dX2_changeSetting_3 : decode cX2_changeSetting 3 = .ok (.invokestatic 93, 3) := by decide +kernel
theorem dX2_changeSetting_6 : decode cX2_changeSetting 6 = .ok (.ifCond .ne 6, 3) := by decide +kernel
theorem dX2_changeSetting_9 : decode cX2_changeSetting 9 = .ok (.bipush (-2), 2) := by decide +kernel
theorem dX2_changeSetting_11 : decode cX2_changeSetting 11 = .ok (.ireturn, 1) := by decide +kernel
theorem dX2_changeSetting_12 : decode cX2_changeSetting 12 = .ok (.iload_n 2, 1) := by decide +kernel
theorem dX2_changeSetting_13 : decode cX2_changeSetting 13 = .ok (.getstatic 100, 3) := by decide +kernel
theorem dX2_changeSetting_16 : decode cX2_changeSetting 16 = .ok (.iload_n 1, 1) := by decide +kernel
theorem dX2_changeSetting_17 : decode cX2_changeSetting 17 = .ok (.iaload, 1) := by decide +kernel
theorem dX2_changeSetting_18 : decode cX2_changeSetting 18 = .ok (.getstatic 103, 3) := by decide +kernel
theorem dX2_changeSetting_21 : decode cX2_changeSetting 21 = .ok (.iload_n 1, 1) := by decide +kernel
theorem dX2_changeSetting_22 : decode cX2_changeSetting 22 = .ok (.iaload, 1) := by decide +kernel
theorem dX2_changeSetting_23 : decode cX2_changeSetting 23 = .ok (.invokestatic 93, 3) := by decide +kernel
theorem dX2_changeSetting_26 : decode cX2_changeSetting 26 = .ok (.ifCond .ne 6, 3) := by decide +kernel
theorem dX2_changeSetting_29 : decode cX2_changeSetting 29 = .ok (.bipush (-3), 2) := by decide +kernel
theorem dX2_changeSetting_31 : decode cX2_changeSetting 31 = .ok (.ireturn, 1) := by decide +kernel
theorem dX2_changeSetting_32 : decode cX2_changeSetting 32 = .ok (.aload_n 0, 1) := by decide +kernel
theorem dX2_changeSetting_33 : decode cX2_changeSetting 33 = .ok (.getfield 24, 3) := by decide +kernel
theorem dX2_changeSetting_36 : decode cX2_changeSetting 36 = .ok (.iload_n 1, 1) := by decide +kernel
theorem dX2_changeSetting_37 : decode cX2_changeSetting 37 = .ok (.iaload, 1) := by decide +kernel
theorem dX2_changeSetting_38 : decode cX2_changeSetting 38 = .ok (.istore_n 3, 1) := by decide +kernel
theorem dX2_changeSetting_39 : decode cX2_changeSetting 39 = .ok (.aload_n 0, 1) := by decide +kernel
theorem dX2_changeSetting_40 : decode cX2_changeSetting 40 = .ok (.getfield 24, 3) := by decide +kernel
theorem dX2_changeSetting_43 : decode cX2_changeSetting 43 = .ok (.iload_n 1, 1) := by decide +kernel
theorem dX2_changeSetting_44 : decode cX2_changeSetting 44 = .ok (.iload_n 2, 1) := by decide +kernel
theorem dX2_changeSetting_45 : decode cX2_changeSetting 45 = .ok (.iastore, 1) := by decide +kernel
theorem dX2_changeSetting_46 : decode cX2_changeSetting 46 = .ok (.iload_n 3, 1) := by decide +kernel
theorem dX2_changeSetting_47 : decode cX2_changeSetting 47 = .ok (.ireturn, 1) := by decide +kernel
theorem dX2_numberOf_0 : decode cX2_numberOf 0 = .ok (.iload_n 1, 1) := by decide +kernel
theorem dX2_numberOf_1 : decode cX2_numberOf 1 = .ok (.tableswitch 167 0 13 #[71, 76, 81, 86, 91, 97, 103, 109, 115, 121, 139, 146, 153, 160], 71) := by decide +kernel
theorem dX2_numberOf_72 : decode cX2_numberOf 72 = .ok (.aload_n 0, 1) := by decide +kernel
theorem dX2_numberOf_73 : decode cX2_numberOf 73 = .ok (.getfield 15, 3) := by decide +kernel
theorem dX2_numberOf_76 : decode cX2_numberOf 76 = .ok (.ireturn, 1) := by decide +kernel
theorem dX2_numberOf_77 : decode cX2_numberOf 77 = .ok (.aload_n 0, 1) := by decide +kernel
theorem dX2_numberOf_78 : decode cX2_numberOf 78 = .ok (.getfield 21, 3) := by decide +kernel
theorem dX2_numberOf_81 : decode cX2_numberOf 81 = .ok (.ireturn, 1) := by decide +kernel
theorem dX2_numberOf_82 : decode cX2_numberOf 82 = .ok (.aload_n 0, 1) := by decide +kernel
theorem dX2_numberOf_83 : decode cX2_numberOf 83 = .ok (.getfield 18, 3) := by decide +kernel
theorem dX2_numberOf_86 : decode cX2_numberOf 86 = .ok (.ireturn, 1) := by decide +kernel
theorem dX2_numberOf_87 : decode cX2_numberOf 87 = .ok (.aload_n 0, 1) := by decide +kernel
theorem dX2_numberOf_88 : decode cX2_numberOf 88 = .ok (.getfield 9, 3) := by decide +kernel
theorem dX2_numberOf_91 : decode cX2_numberOf 91 = .ok (.ireturn, 1) := by decide +kernel
theorem dX2_numberOf_92 : decode cX2_numberOf 92 = .ok (.aload_n 0, 1) := by decide +kernel
theorem dX2_numberOf_93 : decode cX2_numberOf 93 = .ok (.iconst 0, 1) := by decide +kernel
theorem dX2_numberOf_94 : decode cX2_numberOf 94 = .ok (.invokevirtual 106, 3) := by decide +kernel
theorem dX2_numberOf_97 : decode cX2_numberOf 97 = .ok (.ireturn, 1) := by decide +kernel
theorem dX2_numberOf_98 : decode cX2_numberOf 98 = .ok (.aload_n 0, 1) := by decide +kernel
theorem dX2_numberOf_99 : decode cX2_numberOf 99 = .ok (.iconst 1, 1) := by decide +kernel
theorem dX2_numberOf_100 : decode cX2_numberOf 100 = .ok (.invokevirtual 106, 3) := by decide +kernel
theorem dX2_numberOf_103 : decode cX2_numberOf 103 = .ok (.ireturn, 1) := by decide +kernel
theorem dX2_numberOf_104 : decode cX2_numberOf 104 = .ok (.aload_n 0, 1) := by decide +kernel
theorem dX2_numberOf_105 : decode cX2_numberOf 105 = .ok (.iconst 2, 1) := by decide +kernel
theorem dX2_numberOf_106 : decode cX2_numberOf 106 = .ok (.invokevirtual 106, 3) := by decide +kernel
theorem dX2_numberOf_109 : decode cX2_numberOf 109 = .ok (.ireturn, 1) := by decide +kernel
theorem dX2_numberOf_110 : decode cX2_numberOf 110 = .ok (.aload_n 0, 1) := by decide +kernel
theorem dX2_numberOf_111 : decode cX2_numberOf 111 = .ok (.iconst 3, 1) := by decide +kernel
theorem dX2_numberOf_112 : decode cX2_numberOf 112 = .ok (.invokevirtual 106, 3) := by decide +kernel
theorem dX2_numberOf_115 : decode cX2_numberOf 115 = .ok (.ireturn, 1) := by decide +kernel
theorem dX2_numberOf_116 : decode cX2_numberOf 116 = .ok (.aload_n 0, 1) := by decide +kernel
theorem dX2_numberOf_117 : decode cX2_numberOf 117 = .ok (.iconst 4, 1) := by decide +kernel
theorem dX2_numberOf_118 : decode cX2_numberOf 118 = .ok (.invokevirtual 106, 3) := by decide +kernel
theorem dX2_numberOf_121 : decode cX2_numberOf 121 = .ok (.ireturn, 1) := by decide +kernel
theorem dX2_numberOf_122 : decode cX2_numberOf 122 = .ok (.aload_n 0, 1) := by decide +kernel
theorem dX2_numberOf_123 : decode cX2_numberOf 123 = .ok (.iconst 0, 1) := by decide +kernel
theorem dX2_numberOf_124 : decode cX2_numberOf 124 = .ok (.invokevirtual 106, 3) := by decide +kernel
theorem dX2_numberOf_127 : decode cX2_numberOf 127 = .ok (.aload_n 0, 1) := by decide +kernel
theorem dX2_numberOf_128 : decode cX2_numberOf 128 = .ok (.iconst 1, 1) := by decide +kernel
theorem dX2_numberOf_129 : decode cX2_numberOf 129 = .ok (.invokevirtual 106, 3) := by decide +kernel
theorem dX2_numberOf_132 : decode cX2_numberOf 132 = .ok (.iadd, 1) := by decide +kernel
theorem dX2_numberOf_133 : decode cX2_numberOf 133 = .ok (.aload_n 0, 1) := by decide +kernel
theorem dX2_numberOf_134 : decode cX2_numberOf 134 = .ok (.iconst 4, 1) := by decide +kernel
theorem dX2_numberOf_135 : decode cX2_numberOf 135 = .ok (.invokevirtual 106, 3) := by decide +kernel
theorem dX2_numberOf_138 : decode cX2_numberOf 138 = .ok (.iadd, 1) := by decide +kernel
theorem dX2_numberOf_139 : decode cX2_numberOf 139 = .ok (.ireturn, 1) := by decide +kernel
theorem dX2_numberOf_140 : decode cX2_numberOf 140 = .ok (.aload_n 0, 1) := by decide +kernel
theorem dX2_numberOf_141 : decode cX2_numberOf 141 = .ok (.getfield 24, 3) := by decide +kernel
theorem dX2_numberOf_144 : decode cX2_numberOf 144 = .ok (.iconst 0, 1) := by decide +kernel
theorem dX2_numberOf_145 : decode cX2_numberOf 145 = .ok (.iaload, 1) := by decide +kernel
theorem dX2_numberOf_146 : decode cX2_numberOf 146 = .ok (.ireturn, 1) := by decide +kernel
theorem dX2_numberOf_147 : decode cX2_numberOf 147 = .ok (.aload_n 0, 1) := by decide +kernel
theorem dX2_numberOf_148 : decode cX2_numberOf 148 = .ok (.getfield 24, 3) := by decide +kernel
theorem dX2_numberOf_151 : decode cX2_numberOf 151 = .ok (.iconst 1, 1) := by decide +kernel
theorem dX2_numberOf_152 : decode cX2_numberOf 152 = .ok (.iaload, 1) := by decide +kernel
theorem dX2_numberOf_153 : decode cX2_numberOf 153 = .ok (.ireturn, 1) := by decide +kernel
theorem dX2_numberOf_154 : decode cX2_numberOf 154 = .ok (.aload_n 0, 1) := by decide +kernel
theorem dX2_numberOf_155 : decode cX2_numberOf 155 = .ok (.getfield 24, 3) := by decide +kernel
theorem dX2_numberOf_158 : decode cX2_numberOf 158 = .ok (.iconst 2, 1) := by decide +kernel
theorem dX2_numberOf_159 : decode cX2_numberOf 159 = .ok (.iaload, 1) := by decide +kernel
theorem dX2_numberOf_160 : decode cX2_numberOf 160 = .ok (.ireturn, 1) := by decide +kernel
theorem dX2_numberOf_161 : decode cX2_numberOf 161 = .ok (.aload_n 0, 1) := by decide +kernel
theorem dX2_numberOf_162 : decode cX2_numberOf 162 = .ok (.getfield 24, 3) := by decide +kernel
theorem dX2_numberOf_165 : decode cX2_numberOf 165 = .ok (.iconst 3, 1) := by decide +kernel
theorem dX2_numberOf_166 : decode cX2_numberOf 166 = .ok (.iaload, 1) := by decide +kernel
theorem dX2_numberOf_167 : decode cX2_numberOf 167 = .ok (.ireturn, 1) := by decide +kernel
theorem dX2_numberOf_168 : decode cX2_numberOf 168 = .ok (.bipush (-3), 2) := by decide +kernel
theorem dX2_numberOf_170 : decode cX2_numberOf 170 = .ok (.ireturn, 1) := by decide +kernel
theorem dX2_titleProperty_0 : decode cX2_titleProperty 0 = .ok (.aload_n 0, 1) := by decide +kernel
theorem dX2_titleProperty_1 : decode cX2_titleProperty 1 = .ok (.iload_n 1, 1) := by decide +kernel
theorem dX2_titleProperty_2 : decode cX2_titleProperty 2 = .ok (.invokevirtual 90, 3) := by decide +kernel
theorem dX2_titleProperty_5 : decode cX2_titleProperty 5 = .ok (.ifCond .ne 6, 3) := by decide +kernel
theorem dX2_titleProperty_8 : decode cX2_titleProperty 8 = .ok (.bipush (-2), 2) := by decide +kernel
theorem dX2_titleProperty_10 : decode cX2_titleProperty 10 = .ok (.ireturn, 1) := by decide +kernel
theorem dX2_titleProperty_11 : decode cX2_titleProperty 11 = .ok (.iload_n 2, 1) := by decide +kernel
theorem dX2_titleProperty_12 : decode cX2_titleProperty 12 = .ok (.tableswitch 99 0 6 #[44, 51, 58, 64, 70, 86, 92], 44) := by decide +kernel
theorem dX2_titleProperty_56 : decode cX2_titleProperty 56 = .ok (.aload_n 0, 1) := by decide +kernel
theorem dX2_titleProperty_57 : decode cX2_titleProperty 57 = .ok (.getfield 28, 3) := by decide +kernel
theorem dX2_titleProperty_60 : decode cX2_titleProperty 60 = .ok (.iload_n 1, 1) := by decide +kernel
theorem dX2_titleProperty_61 : decode cX2_titleProperty 61 = .ok (.iaload, 1) := by decide +kernel
theorem dX2_titleProperty_62 : decode cX2_titleProperty 62 = .ok (.ireturn, 1) := by decide +kernel
theorem dX2_titleProperty_63 : decode cX2_titleProperty 63 = .ok (.aload_n 0, 1) := by decide +kernel
theorem dX2_titleProperty_64 : decode cX2_titleProperty 64 = .ok (.getfield 31, 3) := by decide +kernel
theorem dX2_titleProperty_67 : decode cX2_titleProperty 67 = .ok (.iload_n 1, 1) := by decide +kernel
theorem dX2_titleProperty_68 : decode cX2_titleProperty 68 = .ok (.iaload, 1) := by decide +kernel
theorem dX2_titleProperty_69 : decode cX2_titleProperty 69 = .ok (.ireturn, 1) := by decide +kernel
theorem dX2_titleProperty_70 : decode cX2_titleProperty 70 = .ok (.aload_n 0, 1) := by decide +kernel
theorem dX2_titleProperty_71 : decode cX2_titleProperty 71 = .ok (.iload_n 1, 1) := by decide +kernel
theorem dX2_titleProperty_72 : decode cX2_titleProperty 72 = .ok (.invokevirtual 110, 3) := by decide +kernel
theorem dX2_titleProperty_75 : decode cX2_titleProperty 75 = .ok (.ireturn, 1) := by decide +kernel
theorem dX2_titleProperty_76 : decode cX2_titleProperty 76 = .ok (.aload_n 0, 1) := by decide +kernel
theorem dX2_titleProperty_77 : decode cX2_titleProperty 77 = .ok (.iload_n 1, 1) := by decide +kernel
theorem dX2_titleProperty_78 : decode cX2_titleProperty 78 = .ok (.invokevirtual 113, 3) := by decide +kernel
theorem dX2_titleProperty_81 : decode cX2_titleProperty 81 = .ok (.ireturn, 1) := by decide +kernel
theorem dX2_titleProperty_82 : decode cX2_titleProperty 82 = .ok (.iconst 0, 1) := by decide +kernel
theorem dX2_titleProperty_83 : decode cX2_titleProperty 83 = .ok (.aload_n 0, 1) := by decide +kernel
theorem dX2_titleProperty_84 : decode cX2_titleProperty 84 = .ok (.iload_n 1, 1) := by decide +kernel
theorem dX2_titleProperty_85 : decode cX2_titleProperty 85 = .ok (.invokevirtual 110, 3) := by decide +kernel
theorem dX2_titleProperty_88 : decode cX2_titleProperty 88 = .ok (.aload_n 0, 1) := by decide +kernel
theorem dX2_titleProperty_89 : decode cX2_titleProperty 89 = .ok (.iload_n 1, 1) := by decide +kernel
theorem dX2_titleProperty_90 : decode cX2_titleProperty 90 = .ok (.invokevirtual 113, 3) := by decide +kernel
theorem dX2_titleProperty_93 : decode cX2_titleProperty 93 = .ok (.isub, 1) := by decide +kernel
theorem dX2_titleProperty_94 : decode cX2_titleProperty 94 = .ok (.invokestatic 116, 3) := by decide +kernel
theorem dX2_titleProperty_97 : decode cX2_titleProperty 97 = .ok (.ireturn, 1) := by decide +kernel
theorem dX2_titleProperty_98 : decode cX2_titleProperty 98 = .ok (.aload_n 0, 1) := by decide +kernel
theorem dX2_titleProperty_99 : decode cX2_titleProperty 99 = .ok (.iload_n 1, 1) := by decide +kernel
theorem dX2_titleProperty_100 : decode cX2_titleProperty 100 = .ok (.invokevirtual 119, 3) := by decide +kernel
theorem dX2_titleProperty_103 : decode cX2_titleProperty 103 = .ok (.ireturn, 1) := by decide +kernel
theorem dX2_titleProperty_104 : decode cX2_titleProperty 104 = .ok (.aload_n 0, 1) := by decide +kernel
theorem dX2_titleProperty_105 : decode cX2_titleProperty 105 = .ok (.iload_n 1, 1) := by decide +kernel
theorem dX2_titleProperty_106 : decode cX2_titleProperty 106 = .ok (.iconst 0, 1) := by decide +kernel
theorem dX2_titleProperty_107 : decode cX2_titleProperty 107 = .ok (.invokevirtual 122, 3) := by decide +kernel
theorem dX2_titleProperty_110 : decode cX2_titleProperty 110 = .ok (.ireturn, 1) := by decide +kernel
theorem dX2_titleProperty_111 : decode cX2_titleProperty 111 = .ok (.bipush (-3), 2) := by decide +kernel
theorem dX2_titleProperty_113 : decode cX2_titleProperty 113 = .ok (.ireturn, 1) := by decide +kernel
theorem dX2_courseProperty_0 : decode cX2_courseProperty 0 = .ok (.aload_n 0, 1) := by decide +kernel
theorem dX2_courseProperty_1 : decode cX2_courseProperty 1 = .ok (.iload_n 1, 1) := by decide +kernel
theorem dX2_courseProperty_2 : decode cX2_courseProperty 2 = .ok (.invokevirtual 97, 3) := by decide +kernel
theorem dX2_courseProperty_5 : decode cX2_courseProperty 5 = .ok (.ifCond .ne 6, 3) := by decide +kernel
theorem dX2_courseProperty_8 : decode cX2_courseProperty 8 = .ok (.bipush (-2), 2) := by decide +kernel
theorem dX2_courseProperty_10 : decode cX2_courseProperty 10 = .ok (.ireturn, 1) := by decide +kernel
theorem dX2_courseProperty_11 : decode cX2_courseProperty 11 = .ok (.iload_n 2, 1) := by decide +kernel
theorem dX2_courseProperty_12 : decode cX2_courseProperty 12 = .ok (.tableswitch 59 0 3 #[32, 39, 46, 53], 32) := by decide +kernel
theorem dX2_courseProperty_44 : decode cX2_courseProperty 44 = .ok (.aload_n 0, 1) := by decide +kernel
theorem dX2_courseProperty_45 : decode cX2_courseProperty 45 = .ok (.getfield 34, 3) := by decide +kernel
theorem dX2_courseProperty_48 : decode cX2_courseProperty 48 = .ok (.iload_n 1, 1) := by decide +kernel
theorem dX2_courseProperty_49 : decode cX2_courseProperty 49 = .ok (.iaload, 1) := by decide +kernel
theorem dX2_courseProperty_50 : decode cX2_courseProperty 50 = .ok (.ireturn, 1) := by decide +kernel
theorem dX2_courseProperty_51 : decode cX2_courseProperty 51 = .ok (.aload_n 0, 1) := by decide +kernel
theorem dX2_courseProperty_52 : decode cX2_courseProperty 52 = .ok (.getfield 37, 3) := by decide +kernel
theorem dX2_courseProperty_55 : decode cX2_courseProperty 55 = .ok (.iload_n 1, 1) := by decide +kernel
theorem dX2_courseProperty_56 : decode cX2_courseProperty 56 = .ok (.iaload, 1) := by decide +kernel
theorem dX2_courseProperty_57 : decode cX2_courseProperty 57 = .ok (.ireturn, 1) := by decide +kernel
theorem dX2_courseProperty_58 : decode cX2_courseProperty 58 = .ok (.aload_n 0, 1) := by decide +kernel
theorem dX2_courseProperty_59 : decode cX2_courseProperty 59 = .ok (.getfield 40, 3) := by decide +kernel
theorem dX2_courseProperty_62 : decode cX2_courseProperty 62 = .ok (.iload_n 1, 1) := by decide +kernel
theorem dX2_courseProperty_63 : decode cX2_courseProperty 63 = .ok (.iaload, 1) := by decide +kernel
theorem dX2_courseProperty_64 : decode cX2_courseProperty 64 = .ok (.ireturn, 1) := by decide +kernel
theorem dX2_courseProperty_65 : decode cX2_courseProperty 65 = .ok (.aload_n 0, 1) := by decide +kernel
theorem dX2_courseProperty_66 : decode cX2_courseProperty 66 = .ok (.iload_n 1, 1) := by decide +kernel
theorem dX2_courseProperty_67 : decode cX2_courseProperty 67 = .ok (.invokevirtual 125, 3) := by decide +kernel
theorem dX2_courseProperty_70 : decode cX2_courseProperty 70 = .ok (.ireturn, 1) := by decide +kernel
theorem dX2_courseProperty_71 : decode cX2_courseProperty 71 = .ok (.bipush (-3), 2) := by decide +kernel
theorem dX2_courseProperty_73 : decode cX2_courseProperty 73 = .ok (.ireturn, 1) := by decide +kernel
theorem dX2_copyProperty_0 : decode cX2_copyProperty 0 = .ok (.aload_n 0, 1) := by decide +kernel
theorem dX2_copyProperty_1 : decode cX2_copyProperty 1 = .ok (.iload_n 1, 1) := by decide +kernel
theorem dX2_copyProperty_2 : decode cX2_copyProperty 2 = .ok (.invokevirtual 128, 3) := by decide +kernel
theorem dX2_copyProperty_5 : decode cX2_copyProperty 5 = .ok (.ifCond .ne 6, 3) := by decide +kernel
theorem dX2_copyProperty_8 : decode cX2_copyProperty 8 = .ok (.bipush (-2), 2) := by decide +kernel
theorem dX2_copyProperty_10 : decode cX2_copyProperty 10 = .ok (.ireturn, 1) := by decide +kernel
theorem dX2_copyProperty_11 : decode cX2_copyProperty 11 = .ok (.aload_n 0, 1) := by decide +kernel
theorem dX2_copyProperty_12 : decode cX2_copyProperty 12 = .ok (.getfield 52, 3) := by decide +kernel
theorem dX2_copyProperty_15 : decode cX2_copyProperty 15 = .ok (.iload_n 1, 1) := by decide +kernel
theorem dX2_copyProperty_16 : decode cX2_copyProperty 16 = .ok (.iaload, 1) := by decide +kernel
theorem dX2_copyProperty_17 : decode cX2_copyProperty 17 = .ok (.iconst 1, 1) := by decide +kernel
theorem dX2_copyProperty_18 : decode cX2_copyProperty 18 = .ok (.if_icmp .ne 7, 3) := by decide +kernel
theorem dX2_copyProperty_21 : decode cX2_copyProperty 21 = .ok (.iconst 1, 1) := by decide +kernel
theorem dX2_copyProperty_22 : decode cX2_copyProperty 22 = .ok (.goto 4, 3) := by decide +kernel
theorem dX2_copyProperty_25 : decode cX2_copyProperty 25 = .ok (.iconst 0, 1) := by decide +kernel
theorem dX2_copyProperty_26 : decode cX2_copyProperty 26 = .ok (.istore_n 3, 1) := by decide +kernel
theorem dX2_copyProperty_27 : decode cX2_copyProperty 27 = .ok (.iload_n 2, 1) := by decide +kernel
theorem dX2_copyProperty_28 : decode cX2_copyProperty 28 = .ok (.tableswitch 175 0 10 #[60, 67, 74, 81, 88, 103, 118, 124, 130, 136, 161], 60) := by decide +kernel
theorem dX2_copyProperty_88 : decode cX2_copyProperty 88 = .ok (.aload_n 0, 1) := by decide +kernel
theorem dX2_copyProperty_89 : decode cX2_copyProperty 89 = .ok (.getfield 43, 3) := by decide +kernel
theorem dX2_copyProperty_92 : decode cX2_copyProperty 92 = .ok (.iload_n 1, 1) := by decide +kernel
theorem dX2_copyProperty_93 : decode cX2_copyProperty 93 = .ok (.iaload, 1) := by decide +kernel
theorem dX2_copyProperty_94 : decode cX2_copyProperty 94 = .ok (.ireturn, 1) := by decide +kernel
theorem dX2_copyProperty_95 : decode cX2_copyProperty 95 = .ok (.aload_n 0, 1) := by decide +kernel
theorem dX2_copyProperty_96 : decode cX2_copyProperty 96 = .ok (.getfield 46, 3) := by decide +kernel
theorem dX2_copyProperty_99 : decode cX2_copyProperty 99 = .ok (.iload_n 1, 1) := by decide +kernel
theorem dX2_copyProperty_100 : decode cX2_copyProperty 100 = .ok (.iaload, 1) := by decide +kernel
theorem dX2_copyProperty_101 : decode cX2_copyProperty 101 = .ok (.ireturn, 1) := by decide +kernel
theorem dX2_copyProperty_102 : decode cX2_copyProperty 102 = .ok (.aload_n 0, 1) := by decide +kernel
theorem dX2_copyProperty_103 : decode cX2_copyProperty 103 = .ok (.getfield 49, 3) := by decide +kernel
theorem dX2_copyProperty_106 : decode cX2_copyProperty 106 = .ok (.iload_n 1, 1) := by decide +kernel
theorem dX2_copyProperty_107 : decode cX2_copyProperty 107 = .ok (.iaload, 1) := by decide +kernel
theorem dX2_copyProperty_108 : decode cX2_copyProperty 108 = .ok (.ireturn, 1) := by decide +kernel
theorem dX2_copyProperty_109 : decode cX2_copyProperty 109 = .ok (.aload_n 0, 1) := by decide +kernel
theorem dX2_copyProperty_110 : decode cX2_copyProperty 110 = .ok (.getfield 52, 3) := by decide +kernel
theorem dX2_copyProperty_113 : decode cX2_copyProperty 113 = .ok (.iload_n 1, 1) := by decide +kernel
theorem dX2_copyProperty_114 : decode cX2_copyProperty 114 = .ok (.iaload, 1) := by decide +kernel
theorem dX2_copyProperty_115 : decode cX2_copyProperty 115 = .ok (.ireturn, 1) := by decide +kernel
theorem dX2_copyProperty_116 : decode cX2_copyProperty 116 = .ok (.iload_n 3, 1) := by decide +kernel
theorem dX2_copyProperty_117 : decode cX2_copyProperty 117 = .ok (.ifCond .eq 12, 3) := by decide +kernel
theorem dX2_copyProperty_120 : decode cX2_copyProperty 120 = .ok (.aload_n 0, 1) := by decide +kernel
theorem dX2_copyProperty_121 : decode cX2_copyProperty 121 = .ok (.getfield 55, 3) := by decide +kernel
theorem dX2_copyProperty_124 : decode cX2_copyProperty 124 = .ok (.iload_n 1, 1) := by decide +kernel
theorem dX2_copyProperty_125 : decode cX2_copyProperty 125 = .ok (.iaload, 1) := by decide +kernel
theorem dX2_copyProperty_126 : decode cX2_copyProperty 126 = .ok (.goto 4, 3) := by decide +kernel
theorem dX2_copyProperty_129 : decode cX2_copyProperty 129 = .ok (.iconst (-1), 1) := by decide +kernel
theorem dX2_copyProperty_130 : decode cX2_copyProperty 130 = .ok (.ireturn, 1) := by decide +kernel
theorem dX2_copyProperty_131 : decode cX2_copyProperty 131 = .ok (.iload_n 3, 1) := by decide +kernel
theorem dX2_copyProperty_132 : decode cX2_copyProperty 132 = .ok (.ifCond .eq 12, 3) := by decide +kernel
theorem dX2_copyProperty_135 : decode cX2_copyProperty 135 = .ok (.aload_n 0, 1) := by decide +kernel
theorem dX2_copyProperty_136 : decode cX2_copyProperty 136 = .ok (.getfield 58, 3) := by decide +kernel
theorem dX2_copyProperty_139 : decode cX2_copyProperty 139 = .ok (.iload_n 1, 1) := by decide +kernel
theorem dX2_copyProperty_140 : decode cX2_copyProperty 140 = .ok (.iaload, 1) := by decide +kernel
theorem dX2_copyProperty_141 : decode cX2_copyProperty 141 = .ok (.goto 4, 3) := by decide +kernel
theorem dX2_copyProperty_144 : decode cX2_copyProperty 144 = .ok (.iconst (-1), 1) := by decide +kernel
theorem dX2_copyProperty_145 : decode cX2_copyProperty 145 = .ok (.ireturn, 1) := by decide +kernel
theorem dX2_copyProperty_146 : decode cX2_copyProperty 146 = .ok (.aload_n 0, 1) := by decide +kernel
theorem dX2_copyProperty_147 : decode cX2_copyProperty 147 = .ok (.iload_n 1, 1) := by decide +kernel
theorem dX2_copyProperty_148 : decode cX2_copyProperty 148 = .ok (.invokevirtual 131, 3) := by decide +kernel
theorem dX2_copyProperty_151 : decode cX2_copyProperty 151 = .ok (.ireturn, 1) := by decide +kernel
theorem dX2_copyProperty_152 : decode cX2_copyProperty 152 = .ok (.aload_n 0, 1) := by decide +kernel
theorem dX2_copyProperty_153 : decode cX2_copyProperty 153 = .ok (.iload_n 1, 1) := by decide +kernel
theorem dX2_copyProperty_154 : decode cX2_copyProperty 154 = .ok (.invokevirtual 134, 3) := by decide +kernel
theorem dX2_copyProperty_157 : decode cX2_copyProperty 157 = .ok (.ireturn, 1) := by decide +kernel
theorem dX2_copyProperty_158 : decode cX2_copyProperty 158 = .ok (.aload_n 0, 1) := by decide +kernel
theorem dX2_copyProperty_159 : decode cX2_copyProperty 159 = .ok (.iload_n 1, 1) := by decide +kernel
theorem dX2_copyProperty_160 : decode cX2_copyProperty 160 = .ok (.invokevirtual 137, 3) := by decide +kernel
theorem dX2_copyProperty_163 : decode cX2_copyProperty 163 = .ok (.ireturn, 1) := by decide +kernel
theorem dX2_copyProperty_164 : decode cX2_copyProperty 164 = .ok (.aload_n 0, 1) := by decide +kernel
theorem dX2_copyProperty_165 : decode cX2_copyProperty 165 = .ok (.aload_n 0, 1) := by decide +kernel
theorem dX2_copyProperty_166 : decode cX2_copyProperty 166 = .ok (.getfield 43, 3) := by decide +kernel
theorem dX2_copyProperty_169 : decode cX2_copyProperty 169 = .ok (.iload_n 1, 1) := by decide +kernel
theorem dX2_copyProperty_170 : decode cX2_copyProperty 170 = .ok (.iaload, 1) := by decide +kernel
theorem dX2_copyProperty_171 : decode cX2_copyProperty 171 = .ok (.aload_n 0, 1) := by decide +kernel
theorem dX2_copyProperty_172 : decode cX2_copyProperty 172 = .ok (.getfield 46, 3) := by decide +kernel
theorem dX2_copyProperty_175 : decode cX2_copyProperty 175 = .ok (.iload_n 1, 1) := by decide +kernel
theorem dX2_copyProperty_176 : decode cX2_copyProperty 176 = .ok (.iaload, 1) := by decide +kernel
theorem dX2_copyProperty_177 : decode cX2_copyProperty 177 = .ok (.invokevirtual 140, 3) := by decide +kernel
theorem dX2_copyProperty_180 : decode cX2_copyProperty 180 = .ok (.ifCond .eq 7, 3) := by decide +kernel
theorem dX2_copyProperty_183 : decode cX2_copyProperty 183 = .ok (.iconst 1, 1) := by decide +kernel
theorem dX2_copyProperty_184 : decode cX2_copyProperty 184 = .ok (.goto 4, 3) := by decide +kernel
theorem dX2_copyProperty_187 : decode cX2_copyProperty 187 = .ok (.iconst 0, 1) := by decide +kernel
theorem dX2_copyProperty_188 : decode cX2_copyProperty 188 = .ok (.ireturn, 1) := by decide +kernel
theorem dX2_copyProperty_189 : decode cX2_copyProperty 189 = .ok (.iload_n 3, 1) := by decide +kernel
theorem dX2_copyProperty_190 : decode cX2_copyProperty 190 = .ok (.ifCond .eq 11, 3) := by decide +kernel
theorem dX2_copyProperty_193 : decode cX2_copyProperty 193 = .ok (.aload_n 0, 1) := by decide +kernel
theorem dX2_copyProperty_194 : decode cX2_copyProperty 194 = .ok (.iload_n 1, 1) := by decide +kernel
theorem dX2_copyProperty_195 : decode cX2_copyProperty 195 = .ok (.invokevirtual 144, 3) := by decide +kernel
theorem dX2_copyProperty_198 : decode cX2_copyProperty 198 = .ok (.goto 4, 3) := by decide +kernel
theorem dX2_copyProperty_201 : decode cX2_copyProperty 201 = .ok (.iconst 0, 1) := by decide +kernel
theorem dX2_copyProperty_202 : decode cX2_copyProperty 202 = .ok (.ireturn, 1) := by decide +kernel
theorem dX2_copyProperty_203 : decode cX2_copyProperty 203 = .ok (.bipush (-3), 2) := by decide +kernel
theorem dX2_copyProperty_205 : decode cX2_copyProperty 205 = .ok (.ireturn, 1) := by decide +kernel
theorem dX2_sumOf_0 : decode cX2_sumOf 0 = .ok (.iload_n 1, 1) := by decide +kernel
theorem dX2_sumOf_1 : decode cX2_sumOf 1 = .ok (.iconst 0, 1) := by decide +kernel
theorem dX2_sumOf_2 : decode cX2_sumOf 2 = .ok (.bipush 7, 2) := by decide +kernel
theorem dX2_sumOf_4 : decode cX2_sumOf 4 = .ok (.invokestatic 93, 3) := by decide +kernel
theorem dX2_sumOf_7 : decode cX2_sumOf 7 = .ok (.ifCond .ne 6, 3) := by decide +kernel
theorem dX2_sumOf_10 : decode cX2_sumOf 10 = .ok (.bipush (-3), 2) := by decide +kernel
theorem dX2_sumOf_12 : decode cX2_sumOf 12 = .ok (.ireturn, 1) := by decide +kernel
theorem dX2_sumOf_13 : decode cX2_sumOf 13 = .ok (.iload_n 1, 1) := by decide +kernel
theorem dX2_sumOf_14 : decode cX2_sumOf 14 = .ok (.bipush 7, 2) := by decide +kernel
theorem dX2_sumOf_16 : decode cX2_sumOf 16 = .ok (.if_icmp .ge 10, 3) := by decide +kernel
theorem dX2_sumOf_19 : decode cX2_sumOf 19 = .ok (.aload_n 0, 1) := by decide +kernel
theorem dX2_sumOf_20 : decode cX2_sumOf 20 = .ok (.getfield 61, 3) := by decide +kernel
theorem dX2_sumOf_23 : decode cX2_sumOf 23 = .ok (.iload_n 1, 1) := by decide +kernel
theorem dX2_sumOf_24 : decode cX2_sumOf 24 = .ok (.iaload, 1) := by decide +kernel
theorem dX2_sumOf_25 : decode cX2_sumOf 25 = .ok (.ireturn, 1) := by decide +kernel
theorem dX2_sumOf_26 : decode cX2_sumOf 26 = .ok (.aload_n 0, 1) := by decide +kernel
theorem dX2_sumOf_27 : decode cX2_sumOf 27 = .ok (.getfield 61, 3) := by decide +kernel
theorem dX2_sumOf_30 : decode cX2_sumOf 30 = .ok (.iconst 0, 1) := by decide +kernel
theorem dX2_sumOf_31 : decode cX2_sumOf 31 = .ok (.iaload, 1) := by decide +kernel
theorem dX2_sumOf_32 : decode cX2_sumOf 32 = .ok (.aload_n 0, 1) := by decide +kernel
theorem dX2_sumOf_33 : decode cX2_sumOf 33 = .ok (.getfield 61, 3) := by decide +kernel
theorem dX2_sumOf_36 : decode cX2_sumOf 36 = .ok (.iconst 1, 1) := by decide +kernel
theorem dX2_sumOf_37 : decode cX2_sumOf 37 = .ok (.iaload, 1) := by decide +kernel
theorem dX2_sumOf_38 : decode cX2_sumOf 38 = .ok (.iadd, 1) := by decide +kernel
theorem dX2_sumOf_39 : decode cX2_sumOf 39 = .ok (.aload_n 0, 1) := by decide +kernel
theorem dX2_sumOf_40 : decode cX2_sumOf 40 = .ok (.getfield 61, 3) := by decide +kernel
theorem dX2_sumOf_43 : decode cX2_sumOf 43 = .ok (.iconst 2, 1) := by decide +kernel
theorem dX2_sumOf_44 : decode cX2_sumOf 44 = .ok (.iaload, 1) := by decide +kernel
theorem dX2_sumOf_45 : decode cX2_sumOf 45 = .ok (.iadd, 1) := by decide +kernel
theorem dX2_sumOf_46 : decode cX2_sumOf 46 = .ok (.aload_n 0, 1) := by decide +kernel
theorem dX2_sumOf_47 : decode cX2_sumOf 47 = .ok (.getfield 61, 3) := by decide +kernel
theorem dX2_sumOf_50 : decode cX2_sumOf 50 = .ok (.iconst 3, 1) := by decide +kernel
theorem dX2_sumOf_51 : decode cX2_sumOf 51 = .ok (.iaload, 1) := by decide +kernel
theorem dX2_sumOf_52 : decode cX2_sumOf 52 = .ok (.iadd, 1) := by decide +kernel
theorem dX2_sumOf_53 : decode cX2_sumOf 53 = .ok (.aload_n 0, 1) := by decide +kernel
theorem dX2_sumOf_54 : decode cX2_sumOf 54 = .ok (.getfield 61, 3) := by decide +kernel
theorem dX2_sumOf_57 : decode cX2_sumOf 57 = .ok (.iconst 4, 1) := by decide +kernel
theorem dX2_sumOf_58 : decode cX2_sumOf 58 = .ok (.iaload, 1) := by decide +kernel
theorem dX2_sumOf_59 : decode cX2_sumOf 59 = .ok (.iadd, 1) := by decide +kernel
theorem dX2_sumOf_60 : decode cX2_sumOf 60 = .ok (.istore_n 2, 1) := by decide +kernel
theorem dX2_sumOf_61 : decode cX2_sumOf 61 = .ok (.ldc 147, 2) := by decide +kernel
theorem dX2_sumOf_63 : decode cX2_sumOf 63 = .ok (.iload_n 2, 1) := by decide +kernel
theorem dX2_sumOf_64 : decode cX2_sumOf 64 = .ok (.iadd, 1) := by decide +kernel
theorem dX2_sumOf_65 : decode cX2_sumOf 65 = .ok (.aload_n 0, 1) := by decide +kernel
theorem dX2_sumOf_66 : decode cX2_sumOf 66 = .ok (.getfield 61, 3) := by decide +kernel
theorem dX2_sumOf_69 : decode cX2_sumOf 69 = .ok (.iconst 5, 1) := by decide +kernel
theorem dX2_sumOf_70 : decode cX2_sumOf 70 = .ok (.iaload, 1) := by decide +kernel
theorem dX2_sumOf_71 : decode cX2_sumOf 71 = .ok (.isub, 1) := by decide +kernel
theorem dX2_sumOf_72 : decode cX2_sumOf 72 = .ok (.aload_n 0, 1) := by decide +kernel
theorem dX2_sumOf_73 : decode cX2_sumOf 73 = .ok (.getfield 61, 3) := by decide +kernel
theorem dX2_sumOf_76 : decode cX2_sumOf 76 = .ok (.bipush 6, 2) := by decide +kernel
theorem dX2_sumOf_78 : decode cX2_sumOf 78 = .ok (.iaload, 1) := by decide +kernel
theorem dX2_sumOf_79 : decode cX2_sumOf 79 = .ok (.isub, 1) := by decide +kernel
theorem dX2_sumOf_80 : decode cX2_sumOf 80 = .ok (.ireturn, 1) := by decide +kernel
theorem dX2_customerNumber_0 : decode cX2_customerNumber 0 = .ok (.iload_n 1, 1) := by decide +kernel
theorem dX2_customerNumber_1 : decode cX2_customerNumber 1 = .ok (.invokestatic 148, 3) := by decide +kernel
theorem dX2_customerNumber_4 : decode cX2_customerNumber 4 = .ok (.ifCond .ne 6, 3) := by decide +kernel
theorem dX2_customerNumber_7 : decode cX2_customerNumber 7 = .ok (.bipush (-2), 2) := by decide +kernel
theorem dX2_customerNumber_9 : decode cX2_customerNumber 9 = .ok (.ireturn, 1) := by decide +kernel
theorem dX2_customerNumber_10 : decode cX2_customerNumber 10 = .ok (.iload_n 2, 1) := by decide +kernel
theorem dX2_customerNumber_11 : decode cX2_customerNumber 11 = .ok (.tableswitch 44 0 2 #[25, 31, 37], 25) := by decide +kernel
theorem dX2_customerNumber_36 : decode cX2_customerNumber 36 = .ok (.aload_n 0, 1) := by decide +kernel
theorem dX2_customerNumber_37 : decode cX2_customerNumber 37 = .ok (.iload_n 1, 1) := by decide +kernel
theorem dX2_customerNumber_38 : decode cX2_customerNumber 38 = .ok (.invokevirtual 151, 3) := by decide +kernel
theorem dX2_customerNumber_41 : decode cX2_customerNumber 41 = .ok (.ireturn, 1) := by decide +kernel
theorem dX2_customerNumber_42 : decode cX2_customerNumber 42 = .ok (.aload_n 0, 1) := by decide +kernel
theorem dX2_customerNumber_43 : decode cX2_customerNumber 43 = .ok (.iload_n 1, 1) := by decide +kernel
theorem dX2_customerNumber_44 : decode cX2_customerNumber 44 = .ok (.invokevirtual 154, 3) := by decide +kernel
theorem dX2_customerNumber_47 : decode cX2_customerNumber 47 = .ok (.ireturn, 1) := by decide +kernel
theorem dX2_customerNumber_48 : decode cX2_customerNumber 48 = .ok (.aload_n 0, 1) := by decide +kernel
theorem dX2_customerNumber_49 : decode cX2_customerNumber 49 = .ok (.getfield 64, 3) := by decide +kernel
theorem dX2_customerNumber_52 : decode cX2_customerNumber 52 = .ok (.iload_n 1, 1) := by decide +kernel
theorem dX2_customerNumber_53 : decode cX2_customerNumber 53 = .ok (.iaload, 1) := by decide +kernel
theorem dX2_customerNumber_54 : decode cX2_customerNumber 54 = .ok (.ireturn, 1) := by decide +kernel
theorem dX2_customerNumber_55 : decode cX2_customerNumber 55 = .ok (.bipush (-3), 2) := by decide +kernel
theorem dX2_customerNumber_57 : decode cX2_customerNumber 57 = .ok (.ireturn, 1) := by decide +kernel
theorem dX2_buyNew_0 : decode cX2_buyNew 0 = .ok (.aload_n 0, 1) := by decide +kernel
theorem dX2_buyNew_1 : decode cX2_buyNew 1 = .ok (.iload_n 1, 1) := by decide +kernel
theorem dX2_buyNew_2 : decode cX2_buyNew 2 = .ok (.invokevirtual 90, 3) := by decide +kernel
theorem dX2_buyNew_5 : decode cX2_buyNew 5 = .ok (.ifCond .ne 6, 3) := by decide +kernel
theorem dX2_buyNew_8 : decode cX2_buyNew 8 = .ok (.bipush (-2), 2) := by decide +kernel
theorem dX2_buyNew_10 : decode cX2_buyNew 10 = .ok (.ireturn, 1) := by decide +kernel
theorem dX2_buyNew_11 : decode cX2_buyNew 11 = .ok (.iload_n 2, 1) := by decide +kernel
theorem dX2_buyNew_12 : decode cX2_buyNew 12 = .ok (.iconst 1, 1) := by decide +kernel
theorem dX2_buyNew_13 : decode cX2_buyNew 13 = .ok (.bipush 20, 2) := by decide +kernel
theorem dX2_buyNew_15 : decode cX2_buyNew 15 = .ok (.invokestatic 93, 3) := by decide +kernel
theorem dX2_buyNew_18 : decode cX2_buyNew 18 = .ok (.ifCond .ne 6, 3) := by decide +kernel
theorem dX2_buyNew_21 : decode cX2_buyNew 21 = .ok (.bipush (-3), 2) := by decide +kernel
theorem dX2_buyNew_23 : decode cX2_buyNew 23 = .ok (.ireturn, 1) := by decide +kernel
theorem dX2_buyNew_24 : decode cX2_buyNew 24 = .ok (.aload_n 0, 1) := by decide +kernel
theorem dX2_buyNew_25 : decode cX2_buyNew 25 = .ok (.getfield 21, 3) := by decide +kernel
theorem dX2_buyNew_28 : decode cX2_buyNew 28 = .ok (.iload_n 2, 1) := by decide +kernel
theorem dX2_buyNew_29 : decode cX2_buyNew 29 = .ok (.iadd, 1) := by decide +kernel
theorem dX2_buyNew_30 : decode cX2_buyNew 30 = .ok (.bipush 60, 2) := by decide +kernel
theorem dX2_buyNew_32 : decode cX2_buyNew 32 = .ok (.if_icmp .le 6, 3) := by decide +kernel
theorem dX2_buyNew_35 : decode cX2_buyNew 35 = .ok (.bipush (-5), 2) := by decide +kernel
theorem dX2_buyNew_37 : decode cX2_buyNew 37 = .ok (.ireturn, 1) := by decide +kernel
theorem dX2_buyNew_38 : decode cX2_buyNew 38 = .ok (.aload_n 0, 1) := by decide +kernel
theorem dX2_buyNew_39 : decode cX2_buyNew 39 = .ok (.getfield 21, 3) := by decide +kernel
theorem dX2_buyNew_42 : decode cX2_buyNew 42 = .ok (.istore_n 3, 1) := by decide +kernel
theorem dX2_buyNew_43 : decode cX2_buyNew 43 = .ok (.iconst 0, 1) := by decide +kernel
theorem dX2_buyNew_44 : decode cX2_buyNew 44 = .ok (.istore 4, 2) := by decide +kernel
theorem dX2_buyNew_46 : decode cX2_buyNew 46 = .ok (.iload 4, 2) := by decide +kernel
theorem dX2_buyNew_48 : decode cX2_buyNew 48 = .ok (.iload_n 2, 1) := by decide +kernel
theorem dX2_buyNew_49 : decode cX2_buyNew 49 = .ok (.if_icmp .ge 21, 3) := by decide +kernel
theorem dX2_buyNew_52 : decode cX2_buyNew 52 = .ok (.aload_n 0, 1) := by decide +kernel
theorem dX2_buyNew_53 : decode cX2_buyNew 53 = .ok (.iload_n 1, 1) := by decide +kernel
theorem dX2_buyNew_54 : decode cX2_buyNew 54 = .ok (.aload_n 0, 1) := by decide +kernel
theorem dX2_buyNew_55 : decode cX2_buyNew 55 = .ok (.getfield 31, 3) := by decide +kernel
theorem dX2_buyNew_58 : decode cX2_buyNew 58 = .ok (.iload_n 1, 1) := by decide +kernel
theorem dX2_buyNew_59 : decode cX2_buyNew 59 = .ok (.iaload, 1) := by decide +kernel
theorem dX2_buyNew_60 : decode cX2_buyNew 60 = .ok (.iconst 0, 1) := by decide +kernel
theorem dX2_buyNew_61 : decode cX2_buyNew 61 = .ok (.invokevirtual 157, 3) := by decide +kernel
theorem dX2_buyNew_64 : decode cX2_buyNew 64 = .ok (.iinc 4 1, 3) := by decide +kernel
theorem dX2_buyNew_67 : decode cX2_buyNew 67 = .ok (.goto (-21), 3) := by decide +kernel
theorem dX2_buyNew_70 : decode cX2_buyNew 70 = .ok (.aload_n 0, 1) := by decide +kernel
theorem dX2_buyNew_71 : decode cX2_buyNew 71 = .ok (.getfield 61, 3) := by decide +kernel
theorem dX2_buyNew_74 : decode cX2_buyNew 74 = .ok (.iconst 5, 1) := by decide +kernel
theorem dX2_buyNew_75 : decode cX2_buyNew 75 = .ok (.dup2, 1) := by decide +kernel
theorem dX2_buyNew_76 : decode cX2_buyNew 76 = .ok (.iaload, 1) := by decide +kernel
theorem dX2_buyNew_77 : decode cX2_buyNew 77 = .ok (.iload_n 2, 1) := by decide +kernel
theorem dX2_buyNew_78 : decode cX2_buyNew 78 = .ok (.aload_n 0, 1) := by decide +kernel
theorem dX2_buyNew_79 : decode cX2_buyNew 79 = .ok (.getfield 28, 3) := by decide +kernel
theorem dX2_buyNew_82 : decode cX2_buyNew 82 = .ok (.iload_n 1, 1) := by decide +kernel
theorem dX2_buyNew_83 : decode cX2_buyNew 83 = .ok (.iaload, 1) := by decide +kernel
theorem dX2_buyNew_84 : decode cX2_buyNew 84 = .ok (.imul, 1) := by decide +kernel
theorem dX2_buyNew_85 : decode cX2_buyNew 85 = .ok (.iadd, 1) := by decide +kernel
theorem dX2_buyNew_86 : decode cX2_buyNew 86 = .ok (.iastore, 1) := by decide +kernel
theorem dX2_buyNew_87 : decode cX2_buyNew 87 = .ok (.iload_n 3, 1) := by decide +kernel
theorem dX2_buyNew_88 : decode cX2_buyNew 88 = .ok (.ireturn, 1) := by decide +kernel
theorem dX2_offerFor_0 : decode cX2_offerFor 0 = .ok (.aload_n 0, 1) := by decide +kernel
theorem dX2_offerFor_1 : decode cX2_offerFor 1 = .ok (.iload_n 1, 1) := by decide +kernel
theorem dX2_offerFor_2 : decode cX2_offerFor 2 = .ok (.invokevirtual 90, 3) := by decide +kernel
theorem dX2_offerFor_5 : decode cX2_offerFor 5 = .ok (.ifCond .ne 6, 3) := by decide +kernel
theorem dX2_offerFor_8 : decode cX2_offerFor 8 = .ok (.bipush (-2), 2) := by decide +kernel
theorem dX2_offerFor_10 : decode cX2_offerFor 10 = .ok (.ireturn, 1) := by decide +kernel
theorem dX2_offerFor_11 : decode cX2_offerFor 11 = .ok (.iload_n 2, 1) := by decide +kernel
theorem dX2_offerFor_12 : decode cX2_offerFor 12 = .ok (.invokestatic 87, 3) := by decide +kernel
theorem dX2_offerFor_15 : decode cX2_offerFor 15 = .ok (.ifCond .eq 10, 3) := by decide +kernel
theorem dX2_offerFor_18 : decode cX2_offerFor 18 = .ok (.iload_n 3, 1) := by decide +kernel
theorem dX2_offerFor_19 : decode cX2_offerFor 19 = .ok (.invokestatic 161, 3) := by decide +kernel
theorem dX2_offerFor_22 : decode cX2_offerFor 22 = .ok (.ifCond .ne 6, 3) := by decide +kernel
theorem dX2_offerFor_25 : decode cX2_offerFor 25 = .ok (.bipush (-3), 2) := by decide +kernel
theorem dX2_offerFor_27 : decode cX2_offerFor 27 = .ok (.ireturn, 1) := by decide +kernel
theorem dX2_offerFor_28 : decode cX2_offerFor 28 = .ok (.aload_n 0, 1) := by decide +kernel
theorem dX2_offerFor_29 : decode cX2_offerFor 29 = .ok (.iload_n 1, 1) := by decide +kernel
theorem dX2_offerFor_30 : decode cX2_offerFor 30 = .ok (.iload_n 2, 1) := by decide +kernel
theorem dX2_offerFor_31 : decode cX2_offerFor 31 = .ok (.invokevirtual 140, 3) := by decide +kernel
theorem dX2_offerFor_34 : decode cX2_offerFor 34 = .ok (.ifCond .ne 5, 3) := by decide +kernel
theorem dX2_offerFor_37 : decode cX2_offerFor 37 = .ok (.iconst 0, 1) := by decide +kernel
theorem dX2_offerFor_38 : decode cX2_offerFor 38 = .ok (.ireturn, 1) := by decide +kernel
theorem dX2_offerFor_39 : decode cX2_offerFor 39 = .ok (.aload_n 0, 1) := by decide +kernel
theorem dX2_offerFor_40 : decode cX2_offerFor 40 = .ok (.iload_n 1, 1) := by decide +kernel
theorem dX2_offerFor_41 : decode cX2_offerFor 41 = .ok (.aload_n 0, 1) := by decide +kernel
theorem dX2_offerFor_42 : decode cX2_offerFor 42 = .ok (.getfield 31, 3) := by decide +kernel
theorem dX2_offerFor_45 : decode cX2_offerFor 45 = .ok (.iload_n 1, 1) := by decide +kernel
theorem dX2_offerFor_46 : decode cX2_offerFor 46 = .ok (.iaload, 1) := by decide +kernel
theorem dX2_offerFor_47 : decode cX2_offerFor 47 = .ok (.iload_n 2, 1) := by decide +kernel
theorem dX2_offerFor_48 : decode cX2_offerFor 48 = .ok (.iload_n 3, 1) := by decide +kernel
theorem dX2_offerFor_49 : decode cX2_offerFor 49 = .ok (.invokevirtual 164, 3) := by decide +kernel
theorem dX2_offerFor_52 : decode cX2_offerFor 52 = .ok (.bipush 40, 2) := by decide +kernel
theorem dX2_offerFor_54 : decode cX2_offerFor 54 = .ok (.imul, 1) := by decide +kernel
theorem dX2_offerFor_55 : decode cX2_offerFor 55 = .ok (.bipush 100, 2) := by decide +kernel
theorem dX2_offerFor_57 : decode cX2_offerFor 57 = .ok (.idiv, 1) := by decide +kernel
theorem dX2_offerFor_58 : decode cX2_offerFor 58 = .ok (.istore 4, 2) := by decide +kernel
theorem dX2_offerFor_60 : decode cX2_offerFor 60 = .ok (.aload_n 0, 1) := by decide +kernel
theorem dX2_offerFor_61 : decode cX2_offerFor 61 = .ok (.iload_n 1, 1) := by decide +kernel
theorem dX2_offerFor_62 : decode cX2_offerFor 62 = .ok (.invokevirtual 113, 3) := by decide +kernel
theorem dX2_offerFor_65 : decode cX2_offerFor 65 = .ok (.aload_n 0, 1) := by decide +kernel
theorem dX2_offerFor_66 : decode cX2_offerFor 66 = .ok (.iload_n 1, 1) := by decide +kernel
theorem dX2_offerFor_67 : decode cX2_offerFor 67 = .ok (.invokevirtual 110, 3) := by decide +kernel
theorem dX2_offerFor_70 : decode cX2_offerFor 70 = .ok (.if_icmp .lt 10, 3) := by decide +kernel
theorem dX2_offerFor_73 : decode cX2_offerFor 73 = .ok (.iload 4, 2) := by decide +kernel
theorem dX2_offerFor_75 : decode cX2_offerFor 75 = .ok (.iconst 2, 1) := by decide +kernel
theorem dX2_offerFor_76 : decode cX2_offerFor 76 = .ok (.idiv, 1) := by decide +kernel
theorem dX2_offerFor_77 : decode cX2_offerFor 77 = .ok (.goto 5, 3) := by decide +kernel
theorem dX2_offerFor_80 : decode cX2_offerFor 80 = .ok (.iload 4, 2) := by decide +kernel
theorem dX2_offerFor_82 : decode cX2_offerFor 82 = .ok (.ireturn, 1) := by decide +kernel
theorem dX2_buyUsed_0 : decode cX2_buyUsed 0 = .ok (.aload_n 0, 1) := by decide +kernel
theorem dX2_buyUsed_1 : decode cX2_buyUsed 1 = .ok (.iload_n 1, 1) := by decide +kernel
theorem dX2_buyUsed_2 : decode cX2_buyUsed 2 = .ok (.iload_n 2, 1) := by decide +kernel
theorem dX2_buyUsed_3 : decode cX2_buyUsed 3 = .ok (.iload_n 3, 1) := by decide +kernel
theorem dX2_buyUsed_4 : decode cX2_buyUsed 4 = .ok (.invokevirtual 168, 3) := by decide +kernel
theorem dX2_buyUsed_7 : decode cX2_buyUsed 7 = .ok (.istore 4, 2) := by decide +kernel
theorem dX2_buyUsed_9 : decode cX2_buyUsed 9 = .ok (.iload 4, 2) := by decide +kernel
theorem dX2_buyUsed_11 : decode cX2_buyUsed 11 = .ok (.ifCond .ge 6, 3) := by decide +kernel
theorem dX2_buyUsed_14 : decode cX2_buyUsed 14 = .ok (.iload 4, 2) := by decide +kernel
theorem dX2_buyUsed_16 : decode cX2_buyUsed 16 = .ok (.ireturn, 1) := by decide +kernel
theorem dX2_buyUsed_17 : decode cX2_buyUsed 17 = .ok (.iload 4, 2) := by decide +kernel
theorem dX2_buyUsed_19 : decode cX2_buyUsed 19 = .ok (.ifCond .ne 6, 3) := by decide +kernel
theorem dX2_buyUsed_22 : decode cX2_buyUsed 22 = .ok (.bipush (-4), 2) := by decide +kernel
theorem dX2_buyUsed_24 : decode cX2_buyUsed 24 = .ok (.ireturn, 1) := by decide +kernel
theorem dX2_buyUsed_25 : decode cX2_buyUsed 25 = .ok (.aload_n 0, 1) := by decide +kernel
theorem dX2_buyUsed_26 : decode cX2_buyUsed 26 = .ok (.getfield 21, 3) := by decide +kernel
theorem dX2_buyUsed_29 : decode cX2_buyUsed 29 = .ok (.bipush 60, 2) := by decide +kernel
theorem dX2_buyUsed_31 : decode cX2_buyUsed 31 = .ok (.if_icmp .lt 6, 3) := by decide +kernel
theorem dX2_buyUsed_34 : decode cX2_buyUsed 34 = .ok (.bipush (-5), 2) := by decide +kernel
theorem dX2_buyUsed_36 : decode cX2_buyUsed 36 = .ok (.ireturn, 1) := by decide +kernel
theorem dX2_buyUsed_37 : decode cX2_buyUsed 37 = .ok (.aload_n 0, 1) := by decide +kernel
theorem dX2_buyUsed_38 : decode cX2_buyUsed 38 = .ok (.iload_n 1, 1) := by decide +kernel
theorem dX2_buyUsed_39 : decode cX2_buyUsed 39 = .ok (.iload_n 2, 1) := by decide +kernel
theorem dX2_buyUsed_40 : decode cX2_buyUsed 40 = .ok (.iload_n 3, 1) := by decide +kernel
theorem dX2_buyUsed_41 : decode cX2_buyUsed 41 = .ok (.invokevirtual 157, 3) := by decide +kernel
theorem dX2_buyUsed_44 : decode cX2_buyUsed 44 = .ok (.aload_n 0, 1) := by decide +kernel
theorem dX2_buyUsed_45 : decode cX2_buyUsed 45 = .ok (.getfield 61, 3) := by decide +kernel
theorem dX2_buyUsed_48 : decode cX2_buyUsed 48 = .ok (.bipush 6, 2) := by decide +kernel
theorem dX2_buyUsed_50 : decode cX2_buyUsed 50 = .ok (.dup2, 1) := by decide +kernel
theorem dX2_buyUsed_51 : decode cX2_buyUsed 51 = .ok (.iaload, 1) := by decide +kernel
theorem dX2_buyUsed_52 : decode cX2_buyUsed 52 = .ok (.iload 4, 2) := by decide +kernel
theorem dX2_buyUsed_54 : decode cX2_buyUsed 54 = .ok (.iadd, 1) := by decide +kernel
theorem dX2_buyUsed_55 : decode cX2_buyUsed 55 = .ok (.iastore, 1) := by decide +kernel
theorem dX2_buyUsed_56 : decode cX2_buyUsed 56 = .ok (.aload_n 0, 1) := by decide +kernel
theorem dX2_buyUsed_57 : decode cX2_buyUsed 57 = .ok (.getfield 21, 3) := by decide +kernel
theorem dX2_buyUsed_60 : decode cX2_buyUsed 60 = .ok (.iconst 1, 1) := by decide +kernel
theorem dX2_buyUsed_61 : decode cX2_buyUsed 61 = .ok (.isub, 1) := by decide +kernel
theorem dX2_buyUsed_62 : decode cX2_buyUsed 62 = .ok (.ireturn, 1) := by decide +kernel
theorem dX2_sellCopy_0 : decode cX2_sellCopy 0 = .ok (.aload_n 0, 1) := by decide +kernel
theorem dX2_sellCopy_1 : decode cX2_sellCopy 1 = .ok (.iload_n 1, 1) := by decide +kernel
theorem dX2_sellCopy_2 : decode cX2_sellCopy 2 = .ok (.invokevirtual 128, 3) := by decide +kernel
theorem dX2_sellCopy_5 : decode cX2_sellCopy 5 = .ok (.ifCond .ne 6, 3) := by decide +kernel
theorem dX2_sellCopy_8 : decode cX2_sellCopy 8 = .ok (.bipush (-2), 2) := by decide +kernel
theorem dX2_sellCopy_10 : decode cX2_sellCopy 10 = .ok (.ireturn, 1) := by decide +kernel
theorem dX2_sellCopy_11 : decode cX2_sellCopy 11 = .ok (.aload_n 0, 1) := by decide +kernel
theorem dX2_sellCopy_12 : decode cX2_sellCopy 12 = .ok (.getfield 52, 3) := by decide +kernel
theorem dX2_sellCopy_15 : decode cX2_sellCopy 15 = .ok (.iload_n 1, 1) := by decide +kernel
theorem dX2_sellCopy_16 : decode cX2_sellCopy 16 = .ok (.iaload, 1) := by decide +kernel
theorem dX2_sellCopy_17 : decode cX2_sellCopy 17 = .ok (.ifCond .eq 6, 3) := by decide +kernel
theorem dX2_sellCopy_20 : decode cX2_sellCopy 20 = .ok (.bipush (-4), 2) := by decide +kernel
theorem dX2_sellCopy_22 : decode cX2_sellCopy 22 = .ok (.ireturn, 1) := by decide +kernel
theorem dX2_sellCopy_23 : decode cX2_sellCopy 23 = .ok (.aload_n 0, 1) := by decide +kernel
theorem dX2_sellCopy_24 : decode cX2_sellCopy 24 = .ok (.iload_n 1, 1) := by decide +kernel
theorem dX2_sellCopy_25 : decode cX2_sellCopy 25 = .ok (.invokevirtual 137, 3) := by decide +kernel
theorem dX2_sellCopy_28 : decode cX2_sellCopy 28 = .ok (.istore_n 2, 1) := by decide +kernel
theorem dX2_sellCopy_29 : decode cX2_sellCopy 29 = .ok (.aload_n 0, 1) := by decide +kernel
theorem dX2_sellCopy_30 : decode cX2_sellCopy 30 = .ok (.getfield 52, 3) := by decide +kernel
theorem dX2_sellCopy_33 : decode cX2_sellCopy 33 = .ok (.iload_n 1, 1) := by decide +kernel
theorem dX2_sellCopy_34 : decode cX2_sellCopy 34 = .ok (.iconst 2, 1) := by decide +kernel
theorem dX2_sellCopy_35 : decode cX2_sellCopy 35 = .ok (.iastore, 1) := by decide +kernel
theorem dX2_sellCopy_36 : decode cX2_sellCopy 36 = .ok (.aload_n 0, 1) := by decide +kernel
theorem dX2_sellCopy_37 : decode cX2_sellCopy 37 = .ok (.getfield 61, 3) := by decide +kernel
theorem dX2_sellCopy_40 : decode cX2_sellCopy 40 = .ok (.iconst 4, 1) := by decide +kernel
theorem dX2_sellCopy_41 : decode cX2_sellCopy 41 = .ok (.dup2, 1) := by decide +kernel
theorem dX2_sellCopy_42 : decode cX2_sellCopy 42 = .ok (.iaload, 1) := by decide +kernel
theorem dX2_sellCopy_43 : decode cX2_sellCopy 43 = .ok (.iload_n 2, 1) := by decide +kernel
theorem dX2_sellCopy_44 : decode cX2_sellCopy 44 = .ok (.iadd, 1) := by decide +kernel
theorem dX2_sellCopy_45 : decode cX2_sellCopy 45 = .ok (.iastore, 1) := by decide +kernel
theorem dX2_sellCopy_46 : decode cX2_sellCopy 46 = .ok (.iload_n 2, 1) := by decide +kernel
theorem dX2_sellCopy_47 : decode cX2_sellCopy 47 = .ok (.ireturn, 1) := by decide +kernel
theorem dX2_putCopy_0 : decode cX2_putCopy 0 = .ok (.aload_n 0, 1) := by decide +kernel
theorem dX2_putCopy_1 : decode cX2_putCopy 1 = .ok (.getfield 43, 3) := by decide +kernel
theorem dX2_putCopy_4 : decode cX2_putCopy 4 = .ok (.aload_n 0, 1) := by decide +kernel
theorem dX2_putCopy_5 : decode cX2_putCopy 5 = .ok (.getfield 21, 3) := by decide +kernel
theorem dX2_putCopy_8 : decode cX2_putCopy 8 = .ok (.iload_n 1, 1) := by decide +kernel
theorem dX2_putCopy_9 : decode cX2_putCopy 9 = .ok (.iastore, 1) := by decide +kernel
theorem dX2_putCopy_10 : decode cX2_putCopy 10 = .ok (.aload_n 0, 1) := by decide +kernel
theorem dX2_putCopy_11 : decode cX2_putCopy 11 = .ok (.getfield 46, 3) := by decide +kernel
theorem dX2_putCopy_14 : decode cX2_putCopy 14 = .ok (.aload_n 0, 1) := by decide +kernel
theorem dX2_putCopy_15 : decode cX2_putCopy 15 = .ok (.getfield 21, 3) := by decide +kernel
theorem dX2_putCopy_18 : decode cX2_putCopy 18 = .ok (.iload_n 2, 1) := by decide +kernel
theorem dX2_putCopy_19 : decode cX2_putCopy 19 = .ok (.iastore, 1) := by decide +kernel
theorem dX2_putCopy_20 : decode cX2_putCopy 20 = .ok (.aload_n 0, 1) := by decide +kernel
theorem dX2_putCopy_21 : decode cX2_putCopy 21 = .ok (.getfield 49, 3) := by decide +kernel
theorem dX2_putCopy_24 : decode cX2_putCopy 24 = .ok (.aload_n 0, 1) := by decide +kernel
theorem dX2_putCopy_25 : decode cX2_putCopy 25 = .ok (.getfield 21, 3) := by decide +kernel
theorem dX2_putCopy_28 : decode cX2_putCopy 28 = .ok (.iload_n 3, 1) := by decide +kernel
theorem dX2_putCopy_29 : decode cX2_putCopy 29 = .ok (.iastore, 1) := by decide +kernel
theorem dX2_putCopy_30 : decode cX2_putCopy 30 = .ok (.aload_n 0, 1) := by decide +kernel
theorem dX2_putCopy_31 : decode cX2_putCopy 31 = .ok (.getfield 52, 3) := by decide +kernel
theorem dX2_putCopy_34 : decode cX2_putCopy 34 = .ok (.aload_n 0, 1) := by decide +kernel
theorem dX2_putCopy_35 : decode cX2_putCopy 35 = .ok (.getfield 21, 3) := by decide +kernel
theorem dX2_putCopy_38 : decode cX2_putCopy 38 = .ok (.iconst 0, 1) := by decide +kernel
theorem dX2_putCopy_39 : decode cX2_putCopy 39 = .ok (.iastore, 1) := by decide +kernel
theorem dX2_putCopy_40 : decode cX2_putCopy 40 = .ok (.aload_n 0, 1) := by decide +kernel
theorem dX2_putCopy_41 : decode cX2_putCopy 41 = .ok (.dup, 1) := by decide +kernel
theorem dX2_putCopy_42 : decode cX2_putCopy 42 = .ok (.getfield 21, 3) := by decide +kernel
theorem dX2_putCopy_45 : decode cX2_putCopy 45 = .ok (.iconst 1, 1) := by decide +kernel
theorem dX2_putCopy_46 : decode cX2_putCopy 46 = .ok (.iadd, 1) := by decide +kernel
theorem dX2_putCopy_47 : decode cX2_putCopy 47 = .ok (.putfield 21, 3) := by decide +kernel
theorem dX2_putCopy_50 : decode cX2_putCopy 50 = .ok (.return_, 1) := by decide +kernel
theorem dX2_rentCopy_0 : decode cX2_rentCopy 0 = .ok (.iload_n 1, 1) := by decide +kernel
theorem dX2_rentCopy_1 : decode cX2_rentCopy 1 = .ok (.invokestatic 148, 3) := by decide +kernel
theorem dX2_rentCopy_4 : decode cX2_rentCopy 4 = .ok (.ifCond .eq 11, 3) := by decide +kernel
theorem dX2_rentCopy_7 : decode cX2_rentCopy 7 = .ok (.aload_n 0, 1) := by decide +kernel
theorem dX2_rentCopy_8 : decode cX2_rentCopy 8 = .ok (.iload_n 2, 1) := by decide +kernel
theorem dX2_rentCopy_9 : decode cX2_rentCopy 9 = .ok (.invokevirtual 97, 3) := by decide +kernel
theorem dX2_rentCopy_12 : decode cX2_rentCopy 12 = .ok (.ifCond .ne 6, 3) := by decide +kernel
theorem dX2_rentCopy_15 : decode cX2_rentCopy 15 = .ok (.bipush (-2), 2) := by decide +kernel
theorem dX2_rentCopy_17 : decode cX2_rentCopy 17 = .ok (.ireturn, 1) := by decide +kernel
theorem dX2_rentCopy_18 : decode cX2_rentCopy 18 = .ok (.aload_n 0, 1) := by decide +kernel
theorem dX2_rentCopy_19 : decode cX2_rentCopy 19 = .ok (.iload_n 2, 1) := by decide +kernel
theorem dX2_rentCopy_20 : decode cX2_rentCopy 20 = .ok (.invokevirtual 172, 3) := by decide +kernel
theorem dX2_rentCopy_23 : decode cX2_rentCopy 23 = .ok (.istore_n 3, 1) := by decide +kernel
theorem dX2_rentCopy_24 : decode cX2_rentCopy 24 = .ok (.iload_n 3, 1) := by decide +kernel
theorem dX2_rentCopy_25 : decode cX2_rentCopy 25 = .ok (.iconst (-1), 1) := by decide +kernel
theorem dX2_rentCopy_26 : decode cX2_rentCopy 26 = .ok (.if_icmp .eq 17, 3) := by decide +kernel
theorem dX2_rentCopy_29 : decode cX2_rentCopy 29 = .ok (.aload_n 0, 1) := by decide +kernel
theorem dX2_rentCopy_30 : decode cX2_rentCopy 30 = .ok (.iload_n 1, 1) := by decide +kernel
theorem dX2_rentCopy_31 : decode cX2_rentCopy 31 = .ok (.aload_n 0, 1) := by decide +kernel
theorem dX2_rentCopy_32 : decode cX2_rentCopy 32 = .ok (.getfield 34, 3) := by decide +kernel
theorem dX2_rentCopy_35 : decode cX2_rentCopy 35 = .ok (.iload_n 2, 1) := by decide +kernel
theorem dX2_rentCopy_36 : decode cX2_rentCopy 36 = .ok (.iaload, 1) := by decide +kernel
theorem dX2_rentCopy_37 : decode cX2_rentCopy 37 = .ok (.invokevirtual 175, 3) := by decide +kernel
theorem dX2_rentCopy_40 : decode cX2_rentCopy 40 = .ok (.ifCond .ne 6, 3) := by decide +kernel
theorem dX2_rentCopy_43 : decode cX2_rentCopy 43 = .ok (.bipush (-4), 2) := by decide +kernel
theorem dX2_rentCopy_45 : decode cX2_rentCopy 45 = .ok (.ireturn, 1) := by decide +kernel
theorem dX2_rentCopy_46 : decode cX2_rentCopy 46 = .ok (.aload_n 0, 1) := by decide +kernel
theorem dX2_rentCopy_47 : decode cX2_rentCopy 47 = .ok (.iload_n 3, 1) := by decide +kernel
theorem dX2_rentCopy_48 : decode cX2_rentCopy 48 = .ok (.invokevirtual 134, 3) := by decide +kernel
theorem dX2_rentCopy_51 : decode cX2_rentCopy 51 = .ok (.istore 4, 2) := by decide +kernel
theorem dX2_rentCopy_53 : decode cX2_rentCopy 53 = .ok (.aload_n 0, 1) := by decide +kernel
theorem dX2_rentCopy_54 : decode cX2_rentCopy 54 = .ok (.getfield 52, 3) := by decide +kernel
theorem dX2_rentCopy_57 : decode cX2_rentCopy 57 = .ok (.iload_n 3, 1) := by decide +kernel
theorem dX2_rentCopy_58 : decode cX2_rentCopy 58 = .ok (.iconst 1, 1) := by decide +kernel
theorem dX2_rentCopy_59 : decode cX2_rentCopy 59 = .ok (.iastore, 1) := by decide +kernel
theorem dX2_rentCopy_60 : decode cX2_rentCopy 60 = .ok (.aload_n 0, 1) := by decide +kernel
theorem dX2_rentCopy_61 : decode cX2_rentCopy 61 = .ok (.getfield 55, 3) := by decide +kernel
theorem dX2_rentCopy_64 : decode cX2_rentCopy 64 = .ok (.iload_n 3, 1) := by decide +kernel
theorem dX2_rentCopy_65 : decode cX2_rentCopy 65 = .ok (.iload_n 1, 1) := by decide +kernel
theorem dX2_rentCopy_66 : decode cX2_rentCopy 66 = .ok (.iastore, 1) := by decide +kernel
theorem dX2_rentCopy_67 : decode cX2_rentCopy 67 = .ok (.aload_n 0, 1) := by decide +kernel
theorem dX2_rentCopy_68 : decode cX2_rentCopy 68 = .ok (.getfield 58, 3) := by decide +kernel
theorem dX2_rentCopy_71 : decode cX2_rentCopy 71 = .ok (.iload_n 3, 1) := by decide +kernel
theorem dX2_rentCopy_72 : decode cX2_rentCopy 72 = .ok (.aload_n 0, 1) := by decide +kernel
theorem dX2_rentCopy_73 : decode cX2_rentCopy 73 = .ok (.getfield 9, 3) := by decide +kernel
theorem dX2_rentCopy_76 : decode cX2_rentCopy 76 = .ok (.aload_n 0, 1) := by decide +kernel
theorem dX2_rentCopy_77 : decode cX2_rentCopy 77 = .ok (.getfield 24, 3) := by decide +kernel
theorem dX2_rentCopy_80 : decode cX2_rentCopy 80 = .ok (.iconst 0, 1) := by decide +kernel
theorem dX2_rentCopy_81 : decode cX2_rentCopy 81 = .ok (.iaload, 1) := by decide +kernel
theorem dX2_rentCopy_82 : decode cX2_rentCopy 82 = .ok (.iadd, 1) := by decide +kernel
theorem dX2_rentCopy_83 : decode cX2_rentCopy 83 = .ok (.iastore, 1) := by decide +kernel
theorem dX2_rentCopy_84 : decode cX2_rentCopy 84 = .ok (.aload_n 0, 1) := by decide +kernel
theorem dX2_rentCopy_85 : decode cX2_rentCopy 85 = .ok (.getfield 61, 3) := by decide +kernel
theorem dX2_rentCopy_88 : decode cX2_rentCopy 88 = .ok (.iconst 0, 1) := by decide +kernel
theorem dX2_rentCopy_89 : decode cX2_rentCopy 89 = .ok (.dup2, 1) := by decide +kernel
theorem dX2_rentCopy_90 : decode cX2_rentCopy 90 = .ok (.iaload, 1) := by decide +kernel
theorem dX2_rentCopy_91 : decode cX2_rentCopy 91 = .ok (.iload 4, 2) := by decide +kernel
theorem dX2_rentCopy_93 : decode cX2_rentCopy 93 = .ok (.iadd, 1) := by decide +kernel
theorem dX2_rentCopy_94 : decode cX2_rentCopy 94 = .ok (.iastore, 1) := by decide +kernel
theorem dX2_rentCopy_95 : decode cX2_rentCopy 95 = .ok (.aload_n 0, 1) := by decide +kernel
theorem dX2_rentCopy_96 : decode cX2_rentCopy 96 = .ok (.getfield 64, 3) := by decide +kernel
theorem dX2_rentCopy_99 : decode cX2_rentCopy 99 = .ok (.iload_n 1, 1) := by decide +kernel
theorem dX2_rentCopy_100 : decode cX2_rentCopy 100 = .ok (.dup2, 1) := by decide +kernel
theorem dX2_rentCopy_101 : decode cX2_rentCopy 101 = .ok (.iaload, 1) := by decide +kernel
theorem dX2_rentCopy_102 : decode cX2_rentCopy 102 = .ok (.iload 4, 2) := by decide +kernel
theorem dX2_rentCopy_104 : decode cX2_rentCopy 104 = .ok (.iadd, 1) := by decide +kernel
theorem dX2_rentCopy_105 : decode cX2_rentCopy 105 = .ok (.iastore, 1) := by decide +kernel
theorem dX2_rentCopy_106 : decode cX2_rentCopy 106 = .ok (.iload_n 3, 1) := by decide +kernel
theorem dX2_rentCopy_107 : decode cX2_rentCopy 107 = .ok (.ireturn, 1) := by decide +kernel
theorem dX2_nextCopy_0 : decode cX2_nextCopy 0 = .ok (.aload_n 0, 1) := by decide +kernel
theorem dX2_nextCopy_1 : decode cX2_nextCopy 1 = .ok (.iload_n 1, 1) := by decide +kernel
theorem dX2_nextCopy_2 : decode cX2_nextCopy 2 = .ok (.invokevirtual 97, 3) := by decide +kernel
theorem dX2_nextCopy_5 : decode cX2_nextCopy 5 = .ok (.ifCond .eq 11, 3) := by decide +kernel
theorem dX2_nextCopy_8 : decode cX2_nextCopy 8 = .ok (.aload_n 0, 1) := by decide +kernel
theorem dX2_nextCopy_9 : decode cX2_nextCopy 9 = .ok (.iload_n 1, 1) := by decide +kernel
theorem dX2_nextCopy_10 : decode cX2_nextCopy 10 = .ok (.invokevirtual 172, 3) := by decide +kernel
theorem dX2_nextCopy_13 : decode cX2_nextCopy 13 = .ok (.goto 5, 3) := by decide +kernel
theorem dX2_nextCopy_16 : decode cX2_nextCopy 16 = .ok (.bipush (-2), 2) := by decide +kernel
theorem dX2_nextCopy_18 : decode cX2_nextCopy 18 = .ok (.ireturn, 1) := by decide +kernel
theorem dX2_chargeFor_0 : decode cX2_chargeFor 0 = .ok (.aload_n 0, 1) := by decide +kernel
theorem dX2_chargeFor_1 : decode cX2_chargeFor 1 = .ok (.iload_n 1, 1) := by decide +kernel
theorem dX2_chargeFor_2 : decode cX2_chargeFor 2 = .ok (.invokevirtual 128, 3) := by decide +kernel
theorem dX2_chargeFor_5 : decode cX2_chargeFor 5 = .ok (.ifCond .ne 6, 3) := by decide +kernel
theorem dX2_chargeFor_8 : decode cX2_chargeFor 8 = .ok (.bipush (-2), 2) := by decide +kernel
theorem dX2_chargeFor_10 : decode cX2_chargeFor 10 = .ok (.ireturn, 1) := by decide +kernel
theorem dX2_chargeFor_11 : decode cX2_chargeFor 11 = .ok (.iload_n 2, 1) := by decide +kernel
theorem dX2_chargeFor_12 : decode cX2_chargeFor 12 = .ok (.invokestatic 161, 3) := by decide +kernel
theorem dX2_chargeFor_15 : decode cX2_chargeFor 15 = .ok (.ifCond .eq 12, 3) := by decide +kernel
theorem dX2_chargeFor_18 : decode cX2_chargeFor 18 = .ok (.iload_n 3, 1) := by decide +kernel
theorem dX2_chargeFor_19 : decode cX2_chargeFor 19 = .ok (.iconst 0, 1) := by decide +kernel
theorem dX2_chargeFor_20 : decode cX2_chargeFor 20 = .ok (.iconst 2, 1) := by decide +kernel
theorem dX2_chargeFor_21 : decode cX2_chargeFor 21 = .ok (.invokestatic 93, 3) := by decide +kernel
theorem dX2_chargeFor_24 : decode cX2_chargeFor 24 = .ok (.ifCond .ne 6, 3) := by decide +kernel
theorem dX2_chargeFor_27 : decode cX2_chargeFor 27 = .ok (.bipush (-3), 2) := by decide +kernel
theorem dX2_chargeFor_29 : decode cX2_chargeFor 29 = .ok (.ireturn, 1) := by decide +kernel
theorem dX2_chargeFor_30 : decode cX2_chargeFor 30 = .ok (.aload_n 0, 1) := by decide +kernel
theorem dX2_chargeFor_31 : decode cX2_chargeFor 31 = .ok (.getfield 52, 3) := by decide +kernel
theorem dX2_chargeFor_34 : decode cX2_chargeFor 34 = .ok (.iload_n 1, 1) := by decide +kernel
theorem dX2_chargeFor_35 : decode cX2_chargeFor 35 = .ok (.iaload, 1) := by decide +kernel
theorem dX2_chargeFor_36 : decode cX2_chargeFor 36 = .ok (.iconst 1, 1) := by decide +kernel
theorem dX2_chargeFor_37 : decode cX2_chargeFor 37 = .ok (.if_icmp .eq 6, 3) := by decide +kernel
theorem dX2_chargeFor_40 : decode cX2_chargeFor 40 = .ok (.bipush (-4), 2) := by decide +kernel
theorem dX2_chargeFor_42 : decode cX2_chargeFor 42 = .ok (.ireturn, 1) := by decide +kernel
theorem dX2_chargeFor_43 : decode cX2_chargeFor 43 = .ok (.iload_n 3, 1) := by decide +kernel
theorem dX2_chargeFor_44 : decode cX2_chargeFor 44 = .ok (.iconst 1, 1) := by decide +kernel
theorem dX2_chargeFor_45 : decode cX2_chargeFor 45 = .ok (.if_icmp .ne 7, 3) := by decide +kernel
theorem dX2_chargeFor_48 : decode cX2_chargeFor 48 = .ok (.iconst 0, 1) := by decide +kernel
theorem dX2_chargeFor_49 : decode cX2_chargeFor 49 = .ok (.goto 8, 3) := by decide +kernel
theorem dX2_chargeFor_52 : decode cX2_chargeFor 52 = .ok (.aload_n 0, 1) := by decide +kernel
theorem dX2_chargeFor_53 : decode cX2_chargeFor 53 = .ok (.iload_n 1, 1) := by decide +kernel
theorem dX2_chargeFor_54 : decode cX2_chargeFor 54 = .ok (.invokevirtual 178, 3) := by decide +kernel
theorem dX2_chargeFor_57 : decode cX2_chargeFor 57 = .ok (.istore 4, 2) := by decide +kernel
theorem dX2_chargeFor_59 : decode cX2_chargeFor 59 = .ok (.iload_n 3, 1) := by decide +kernel
theorem dX2_chargeFor_60 : decode cX2_chargeFor 60 = .ok (.ifCond .ne 7, 3) := by decide +kernel
theorem dX2_chargeFor_63 : decode cX2_chargeFor 63 = .ok (.iconst 0, 1) := by decide +kernel
theorem dX2_chargeFor_64 : decode cX2_chargeFor 64 = .ok (.goto 9, 3) := by decide +kernel
theorem dX2_chargeFor_67 : decode cX2_chargeFor 67 = .ok (.aload_n 0, 1) := by decide +kernel
theorem dX2_chargeFor_68 : decode cX2_chargeFor 68 = .ok (.iload_n 1, 1) := by decide +kernel
theorem dX2_chargeFor_69 : decode cX2_chargeFor 69 = .ok (.iload_n 2, 1) := by decide +kernel
theorem dX2_chargeFor_70 : decode cX2_chargeFor 70 = .ok (.invokevirtual 181, 3) := by decide +kernel
theorem dX2_chargeFor_73 : decode cX2_chargeFor 73 = .ok (.istore 5, 2) := by decide +kernel
theorem dX2_chargeFor_75 : decode cX2_chargeFor 75 = .ok (.iload 4, 2) := by decide +kernel
theorem dX2_chargeFor_77 : decode cX2_chargeFor 77 = .ok (.iload 5, 2) := by decide +kernel
theorem dX2_chargeFor_79 : decode cX2_chargeFor 79 = .ok (.iadd, 1) := by decide +kernel
theorem dX2_chargeFor_80 : decode cX2_chargeFor 80 = .ok (.ireturn, 1) := by decide +kernel
theorem dX2_takeBack_0 : decode cX2_takeBack 0 = .ok (.aload_n 0, 1) := by decide +kernel
theorem dX2_takeBack_1 : decode cX2_takeBack 1 = .ok (.iload_n 1, 1) := by decide +kernel
theorem dX2_takeBack_2 : decode cX2_takeBack 2 = .ok (.invokevirtual 128, 3) := by decide +kernel
theorem dX2_takeBack_5 : decode cX2_takeBack 5 = .ok (.ifCond .ne 6, 3) := by decide +kernel
theorem dX2_takeBack_8 : decode cX2_takeBack 8 = .ok (.bipush (-2), 2) := by decide +kernel
theorem dX2_takeBack_10 : decode cX2_takeBack 10 = .ok (.ireturn, 1) := by decide +kernel
theorem dX2_takeBack_11 : decode cX2_takeBack 11 = .ok (.iload_n 2, 1) := by decide +kernel
theorem dX2_takeBack_12 : decode cX2_takeBack 12 = .ok (.invokestatic 161, 3) := by decide +kernel
theorem dX2_takeBack_15 : decode cX2_takeBack 15 = .ok (.ifCond .ne 6, 3) := by decide +kernel
theorem dX2_takeBack_18 : decode cX2_takeBack 18 = .ok (.bipush (-3), 2) := by decide +kernel
theorem dX2_takeBack_20 : decode cX2_takeBack 20 = .ok (.ireturn, 1) := by decide +kernel
theorem dX2_takeBack_21 : decode cX2_takeBack 21 = .ok (.aload_n 0, 1) := by decide +kernel
theorem dX2_takeBack_22 : decode cX2_takeBack 22 = .ok (.getfield 52, 3) := by decide +kernel
theorem dX2_takeBack_25 : decode cX2_takeBack 25 = .ok (.iload_n 1, 1) := by decide +kernel
theorem dX2_takeBack_26 : decode cX2_takeBack 26 = .ok (.iaload, 1) := by decide +kernel
theorem dX2_takeBack_27 : decode cX2_takeBack 27 = .ok (.iconst 1, 1) := by decide +kernel
theorem dX2_takeBack_28 : decode cX2_takeBack 28 = .ok (.if_icmp .eq 6, 3) := by decide +kernel
theorem dX2_takeBack_31 : decode cX2_takeBack 31 = .ok (.bipush (-4), 2) := by decide +kernel
theorem dX2_takeBack_33 : decode cX2_takeBack 33 = .ok (.ireturn, 1) := by decide +kernel
theorem dX2_takeBack_34 : decode cX2_takeBack 34 = .ok (.aload_n 0, 1) := by decide +kernel
theorem dX2_takeBack_35 : decode cX2_takeBack 35 = .ok (.iload_n 1, 1) := by decide +kernel
theorem dX2_takeBack_36 : decode cX2_takeBack 36 = .ok (.invokevirtual 178, 3) := by decide +kernel
theorem dX2_takeBack_39 : decode cX2_takeBack 39 = .ok (.istore_n 3, 1) := by decide +kernel
theorem dX2_takeBack_40 : decode cX2_takeBack 40 = .ok (.aload_n 0, 1) := by decide +kernel
theorem dX2_takeBack_41 : decode cX2_takeBack 41 = .ok (.iload_n 1, 1) := by decide +kernel
theorem dX2_takeBack_42 : decode cX2_takeBack 42 = .ok (.iload_n 2, 1) := by decide +kernel
theorem dX2_takeBack_43 : decode cX2_takeBack 43 = .ok (.invokevirtual 181, 3) := by decide +kernel
theorem dX2_takeBack_46 : decode cX2_takeBack 46 = .ok (.istore 4, 2) := by decide +kernel
theorem dX2_takeBack_48 : decode cX2_takeBack 48 = .ok (.aload_n 0, 1) := by decide +kernel
theorem dX2_takeBack_49 : decode cX2_takeBack 49 = .ok (.iload_n 1, 1) := by decide +kernel
theorem dX2_takeBack_50 : decode cX2_takeBack 50 = .ok (.iload_n 2, 1) := by decide +kernel
theorem dX2_takeBack_51 : decode cX2_takeBack 51 = .ok (.invokevirtual 184, 3) := by decide +kernel
theorem dX2_takeBack_54 : decode cX2_takeBack 54 = .ok (.ifCond .eq 24, 3) := by decide +kernel
theorem dX2_takeBack_57 : decode cX2_takeBack 57 = .ok (.aload_n 0, 1) := by decide +kernel
theorem dX2_takeBack_58 : decode cX2_takeBack 58 = .ok (.getfield 52, 3) := by decide +kernel
theorem dX2_takeBack_61 : decode cX2_takeBack 61 = .ok (.iload_n 1, 1) := by decide +kernel
theorem dX2_takeBack_62 : decode cX2_takeBack 62 = .ok (.iconst 3, 1) := by decide +kernel
theorem dX2_takeBack_63 : decode cX2_takeBack 63 = .ok (.iastore, 1) := by decide +kernel
theorem dX2_takeBack_64 : decode cX2_takeBack 64 = .ok (.aload_n 0, 1) := by decide +kernel
theorem dX2_takeBack_65 : decode cX2_takeBack 65 = .ok (.getfield 61, 3) := by decide +kernel
theorem dX2_takeBack_68 : decode cX2_takeBack 68 = .ok (.iconst 3, 1) := by decide +kernel
theorem dX2_takeBack_69 : decode cX2_takeBack 69 = .ok (.dup2, 1) := by decide +kernel
theorem dX2_takeBack_70 : decode cX2_takeBack 70 = .ok (.iaload, 1) := by decide +kernel
theorem dX2_takeBack_71 : decode cX2_takeBack 71 = .ok (.iload 4, 2) := by decide +kernel
theorem dX2_takeBack_73 : decode cX2_takeBack 73 = .ok (.iadd, 1) := by decide +kernel
theorem dX2_takeBack_74 : decode cX2_takeBack 74 = .ok (.iastore, 1) := by decide +kernel
theorem dX2_takeBack_75 : decode cX2_takeBack 75 = .ok (.goto 31, 3) := by decide +kernel
theorem dX2_takeBack_78 : decode cX2_takeBack 78 = .ok (.aload_n 0, 1) := by decide +kernel
theorem dX2_takeBack_79 : decode cX2_takeBack 79 = .ok (.getfield 52, 3) := by decide +kernel
theorem dX2_takeBack_82 : decode cX2_takeBack 82 = .ok (.iload_n 1, 1) := by decide +kernel
theorem dX2_takeBack_83 : decode cX2_takeBack 83 = .ok (.iconst 0, 1) := by decide +kernel
theorem dX2_takeBack_84 : decode cX2_takeBack 84 = .ok (.iastore, 1) := by decide +kernel
theorem dX2_takeBack_85 : decode cX2_takeBack 85 = .ok (.aload_n 0, 1) := by decide +kernel
theorem dX2_takeBack_86 : decode cX2_takeBack 86 = .ok (.getfield 49, 3) := by decide +kernel
theorem dX2_takeBack_89 : decode cX2_takeBack 89 = .ok (.iload_n 1, 1) := by decide +kernel
theorem dX2_takeBack_90 : decode cX2_takeBack 90 = .ok (.dup2, 1) := by decide +kernel
theorem dX2_takeBack_91 : decode cX2_takeBack 91 = .ok (.iaload, 1) := by decide +kernel
theorem dX2_takeBack_92 : decode cX2_takeBack 92 = .ok (.iload_n 2, 1) := by decide +kernel
theorem dX2_takeBack_93 : decode cX2_takeBack 93 = .ok (.iadd, 1) := by decide +kernel
theorem dX2_takeBack_94 : decode cX2_takeBack 94 = .ok (.iastore, 1) := by decide +kernel
theorem dX2_takeBack_95 : decode cX2_takeBack 95 = .ok (.aload_n 0, 1) := by decide +kernel
theorem dX2_takeBack_96 : decode cX2_takeBack 96 = .ok (.getfield 61, 3) := by decide +kernel
theorem dX2_takeBack_99 : decode cX2_takeBack 99 = .ok (.iconst 2, 1) := by decide +kernel
theorem dX2_takeBack_100 : decode cX2_takeBack 100 = .ok (.dup2, 1) := by decide +kernel
theorem dX2_takeBack_101 : decode cX2_takeBack 101 = .ok (.iaload, 1) := by decide +kernel
theorem dX2_takeBack_102 : decode cX2_takeBack 102 = .ok (.iload 4, 2) := by decide +kernel
theorem dX2_takeBack_104 : decode cX2_takeBack 104 = .ok (.iadd, 1) := by decide +kernel
theorem dX2_takeBack_105 : decode cX2_takeBack 105 = .ok (.iastore, 1) := by decide +kernel
theorem dX2_takeBack_106 : decode cX2_takeBack 106 = .ok (.aload_n 0, 1) := by decide +kernel
theorem dX2_takeBack_107 : decode cX2_takeBack 107 = .ok (.getfield 61, 3) := by decide +kernel
theorem dX2_takeBack_110 : decode cX2_takeBack 110 = .ok (.iconst 1, 1) := by decide +kernel
theorem dX2_takeBack_111 : decode cX2_takeBack 111 = .ok (.dup2, 1) := by decide +kernel
theorem dX2_takeBack_112 : decode cX2_takeBack 112 = .ok (.iaload, 1) := by decide +kernel
theorem dX2_takeBack_113 : decode cX2_takeBack 113 = .ok (.iload_n 3, 1) := by decide +kernel
theorem dX2_takeBack_114 : decode cX2_takeBack 114 = .ok (.iadd, 1) := by decide +kernel
theorem dX2_takeBack_115 : decode cX2_takeBack 115 = .ok (.iastore, 1) := by decide +kernel
theorem dX2_takeBack_116 : decode cX2_takeBack 116 = .ok (.aload_n 0, 1) := by decide +kernel
theorem dX2_takeBack_117 : decode cX2_takeBack 117 = .ok (.getfield 64, 3) := by decide +kernel
theorem dX2_takeBack_120 : decode cX2_takeBack 120 = .ok (.aload_n 0, 1) := by decide +kernel
theorem dX2_takeBack_121 : decode cX2_takeBack 121 = .ok (.getfield 55, 3) := by decide +kernel
theorem dX2_takeBack_124 : decode cX2_takeBack 124 = .ok (.iload_n 1, 1) := by decide +kernel
theorem dX2_takeBack_125 : decode cX2_takeBack 125 = .ok (.iaload, 1) := by decide +kernel
theorem dX2_takeBack_126 : decode cX2_takeBack 126 = .ok (.dup2, 1) := by decide +kernel
theorem dX2_takeBack_127 : decode cX2_takeBack 127 = .ok (.iaload, 1) := by decide +kernel
theorem dX2_takeBack_128 : decode cX2_takeBack 128 = .ok (.iload_n 3, 1) := by decide +kernel
theorem dX2_takeBack_129 : decode cX2_takeBack 129 = .ok (.iload 4, 2) := by decide +kernel
theorem dX2_takeBack_131 : decode cX2_takeBack 131 = .ok (.iadd, 1) := by decide +kernel
theorem dX2_takeBack_132 : decode cX2_takeBack 132 = .ok (.iadd, 1) := by decide +kernel
theorem dX2_takeBack_133 : decode cX2_takeBack 133 = .ok (.iastore, 1) := by decide +kernel
theorem dX2_takeBack_134 : decode cX2_takeBack 134 = .ok (.iload_n 3, 1) := by decide +kernel
theorem dX2_takeBack_135 : decode cX2_takeBack 135 = .ok (.iload 4, 2) := by decide +kernel
theorem dX2_takeBack_137 : decode cX2_takeBack 137 = .ok (.iadd, 1) := by decide +kernel
theorem dX2_takeBack_138 : decode cX2_takeBack 138 = .ok (.ireturn, 1) := by decide +kernel
theorem dX2_passDays_0 : decode cX2_passDays 0 = .ok (.iload_n 1, 1) := by decide +kernel
theorem dX2_passDays_1 : decode cX2_passDays 1 = .ok (.iconst 1, 1) := by decide +kernel
theorem dX2_passDays_2 : decode cX2_passDays 2 = .ok (.sipush 400, 3) := by decide +kernel
theorem dX2_passDays_5 : decode cX2_passDays 5 = .ok (.invokestatic 93, 3) := by decide +kernel
theorem dX2_passDays_8 : decode cX2_passDays 8 = .ok (.ifCond .ne 6, 3) := by decide +kernel
theorem dX2_passDays_11 : decode cX2_passDays 11 = .ok (.bipush (-3), 2) := by decide +kernel
theorem dX2_passDays_13 : decode cX2_passDays 13 = .ok (.ireturn, 1) := by decide +kernel
theorem dX2_passDays_14 : decode cX2_passDays 14 = .ok (.aload_n 0, 1) := by decide +kernel
theorem dX2_passDays_15 : decode cX2_passDays 15 = .ok (.getfield 9, 3) := by decide +kernel
theorem dX2_passDays_18 : decode cX2_passDays 18 = .ok (.iload_n 1, 1) := by decide +kernel
theorem dX2_passDays_19 : decode cX2_passDays 19 = .ok (.iadd, 1) := by decide +kernel
theorem dX2_passDays_20 : decode cX2_passDays 20 = .ok (.ldc 187, 2) := by decide +kernel
theorem dX2_passDays_22 : decode cX2_passDays 22 = .ok (.if_icmp .le 6, 3) := by decide +kernel
theorem dX2_passDays_25 : decode cX2_passDays 25 = .ok (.bipush (-5), 2) := by decide +kernel
theorem dX2_passDays_27 : decode cX2_passDays 27 = .ok (.ireturn, 1) := by decide +kernel
theorem dX2_passDays_28 : decode cX2_passDays 28 = .ok (.aload_n 0, 1) := by decide +kernel
theorem dX2_passDays_29 : decode cX2_passDays 29 = .ok (.dup, 1) := by decide +kernel
theorem dX2_passDays_30 : decode cX2_passDays 30 = .ok (.getfield 9, 3) := by decide +kernel
theorem dX2_passDays_33 : decode cX2_passDays 33 = .ok (.iload_n 1, 1) := by decide +kernel
theorem dX2_passDays_34 : decode cX2_passDays 34 = .ok (.iadd, 1) := by decide +kernel
theorem dX2_passDays_35 : decode cX2_passDays 35 = .ok (.putfield 9, 3) := by decide +kernel
theorem dX2_passDays_38 : decode cX2_passDays 38 = .ok (.iconst 0, 1) := by decide +kernel
theorem dX2_passDays_39 : decode cX2_passDays 39 = .ok (.istore_n 2, 1) := by decide +kernel
theorem dX2_passDays_40 : decode cX2_passDays 40 = .ok (.iconst 0, 1) := by decide +kernel
theorem dX2_passDays_41 : decode cX2_passDays 41 = .ok (.istore_n 3, 1) := by decide +kernel
theorem dX2_passDays_42 : decode cX2_passDays 42 = .ok (.iload_n 3, 1) := by decide +kernel
theorem dX2_passDays_43 : decode cX2_passDays 43 = .ok (.aload_n 0, 1) := by decide +kernel
theorem dX2_passDays_44 : decode cX2_passDays 44 = .ok (.getfield 21, 3) := by decide +kernel
theorem dX2_passDays_47 : decode cX2_passDays 47 = .ok (.if_icmp .ge 65, 3) := by decide +kernel
theorem dX2_passDays_50 : decode cX2_passDays 50 = .ok (.aload_n 0, 1) := by decide +kernel
theorem dX2_passDays_51 : decode cX2_passDays 51 = .ok (.iload_n 3, 1) := by decide +kernel
theorem dX2_passDays_52 : decode cX2_passDays 52 = .ok (.aload_n 0, 1) := by decide +kernel
theorem dX2_passDays_53 : decode cX2_passDays 53 = .ok (.getfield 9, 3) := by decide +kernel
theorem dX2_passDays_56 : decode cX2_passDays 56 = .ok (.invokevirtual 188, 3) := by decide +kernel
theorem dX2_passDays_59 : decode cX2_passDays 59 = .ok (.ifCond .eq 47, 3) := by decide +kernel
theorem dX2_passDays_62 : decode cX2_passDays 62 = .ok (.aload_n 0, 1) := by decide +kernel
theorem dX2_passDays_63 : decode cX2_passDays 63 = .ok (.iload_n 3, 1) := by decide +kernel
theorem dX2_passDays_64 : decode cX2_passDays 64 = .ok (.invokevirtual 131, 3) := by decide +kernel
theorem dX2_passDays_67 : decode cX2_passDays 67 = .ok (.istore 4, 2) := by decide +kernel
theorem dX2_passDays_69 : decode cX2_passDays 69 = .ok (.aload_n 0, 1) := by decide +kernel
theorem dX2_passDays_70 : decode cX2_passDays 70 = .ok (.getfield 52, 3) := by decide +kernel
theorem dX2_passDays_73 : decode cX2_passDays 73 = .ok (.iload_n 3, 1) := by decide +kernel
theorem dX2_passDays_74 : decode cX2_passDays 74 = .ok (.iconst 3, 1) := by decide +kernel
theorem dX2_passDays_75 : decode cX2_passDays 75 = .ok (.iastore, 1) := by decide +kernel
theorem dX2_passDays_76 : decode cX2_passDays 76 = .ok (.aload_n 0, 1) := by decide +kernel
theorem dX2_passDays_77 : decode cX2_passDays 77 = .ok (.getfield 61, 3) := by decide +kernel
theorem dX2_passDays_80 : decode cX2_passDays 80 = .ok (.iconst 3, 1) := by decide +kernel
theorem dX2_passDays_81 : decode cX2_passDays 81 = .ok (.dup2, 1) := by decide +kernel
theorem dX2_passDays_82 : decode cX2_passDays 82 = .ok (.iaload, 1) := by decide +kernel
theorem dX2_passDays_83 : decode cX2_passDays 83 = .ok (.iload 4, 2) := by decide +kernel
theorem dX2_passDays_85 : decode cX2_passDays 85 = .ok (.iadd, 1) := by decide +kernel
theorem dX2_passDays_86 : decode cX2_passDays 86 = .ok (.iastore, 1) := by decide +kernel
theorem dX2_passDays_87 : decode cX2_passDays 87 = .ok (.aload_n 0, 1) := by decide +kernel
theorem dX2_passDays_88 : decode cX2_passDays 88 = .ok (.getfield 64, 3) := by decide +kernel
theorem dX2_passDays_91 : decode cX2_passDays 91 = .ok (.aload_n 0, 1) := by decide +kernel
theorem dX2_passDays_92 : decode cX2_passDays 92 = .ok (.getfield 55, 3) := by decide +kernel
theorem dX2_passDays_95 : decode cX2_passDays 95 = .ok (.iload_n 3, 1) := by decide +kernel
theorem dX2_passDays_96 : decode cX2_passDays 96 = .ok (.iaload, 1) := by decide +kernel
theorem dX2_passDays_97 : decode cX2_passDays 97 = .ok (.dup2, 1) := by decide +kernel
theorem dX2_passDays_98 : decode cX2_passDays 98 = .ok (.iaload, 1) := by decide +kernel
theorem dX2_passDays_99 : decode cX2_passDays 99 = .ok (.iload 4, 2) := by decide +kernel
theorem dX2_passDays_101 : decode cX2_passDays 101 = .ok (.iadd, 1) := by decide +kernel
theorem dX2_passDays_102 : decode cX2_passDays 102 = .ok (.iastore, 1) := by decide +kernel
theorem dX2_passDays_103 : decode cX2_passDays 103 = .ok (.iinc 2 1, 3) := by decide +kernel
theorem dX2_passDays_106 : decode cX2_passDays 106 = .ok (.iinc 3 1, 3) := by decide +kernel
theorem dX2_passDays_109 : decode cX2_passDays 109 = .ok (.goto (-67), 3) := by decide +kernel
theorem dX2_passDays_112 : decode cX2_passDays 112 = .ok (.iload_n 2, 1) := by decide +kernel
theorem dX2_passDays_113 : decode cX2_passDays 113 = .ok (.ireturn, 1) := by decide +kernel
theorem dX2_bestFor_0 : decode cX2_bestFor 0 = .ok (.iconst (-1), 1) := by decide +kernel
theorem dX2_bestFor_1 : decode cX2_bestFor 1 = .ok (.istore_n 2, 1) := by decide +kernel
theorem dX2_bestFor_2 : decode cX2_bestFor 2 = .ok (.iconst 0, 1) := by decide +kernel
theorem dX2_bestFor_3 : decode cX2_bestFor 3 = .ok (.istore_n 3, 1) := by decide +kernel
theorem dX2_bestFor_4 : decode cX2_bestFor 4 = .ok (.iload_n 3, 1) := by decide +kernel
theorem dX2_bestFor_5 : decode cX2_bestFor 5 = .ok (.aload_n 0, 1) := by decide +kernel
theorem dX2_bestFor_6 : decode cX2_bestFor 6 = .ok (.getfield 21, 3) := by decide +kernel
theorem dX2_bestFor_9 : decode cX2_bestFor 9 = .ok (.if_icmp .ge 43, 3) := by decide +kernel
theorem dX2_bestFor_12 : decode cX2_bestFor 12 = .ok (.aload_n 0, 1) := by decide +kernel
theorem dX2_bestFor_13 : decode cX2_bestFor 13 = .ok (.getfield 52, 3) := by decide +kernel
theorem dX2_bestFor_16 : decode cX2_bestFor 16 = .ok (.iload_n 3, 1) := by decide +kernel
theorem dX2_bestFor_17 : decode cX2_bestFor 17 = .ok (.iaload, 1) := by decide +kernel
theorem dX2_bestFor_18 : decode cX2_bestFor 18 = .ok (.ifCond .ne 28, 3) := by decide +kernel
theorem dX2_bestFor_21 : decode cX2_bestFor 21 = .ok (.aload_n 0, 1) := by decide +kernel
theorem dX2_bestFor_22 : decode cX2_bestFor 22 = .ok (.iload_n 3, 1) := by decide +kernel
theorem dX2_bestFor_23 : decode cX2_bestFor 23 = .ok (.iload_n 1, 1) := by decide +kernel
theorem dX2_bestFor_24 : decode cX2_bestFor 24 = .ok (.invokevirtual 191, 3) := by decide +kernel
theorem dX2_bestFor_27 : decode cX2_bestFor 27 = .ok (.ifCond .eq 19, 3) := by decide +kernel
theorem dX2_bestFor_30 : decode cX2_bestFor 30 = .ok (.iload_n 2, 1) := by decide +kernel
theorem dX2_bestFor_31 : decode cX2_bestFor 31 = .ok (.iconst (-1), 1) := by decide +kernel
theorem dX2_bestFor_32 : decode cX2_bestFor 32 = .ok (.if_icmp .eq 12, 3) := by decide +kernel
theorem dX2_bestFor_35 : decode cX2_bestFor 35 = .ok (.aload_n 0, 1) := by decide +kernel
theorem dX2_bestFor_36 : decode cX2_bestFor 36 = .ok (.iload_n 3, 1) := by decide +kernel
theorem dX2_bestFor_37 : decode cX2_bestFor 37 = .ok (.iload_n 2, 1) := by decide +kernel
theorem dX2_bestFor_38 : decode cX2_bestFor 38 = .ok (.invokevirtual 194, 3) := by decide +kernel
theorem dX2_bestFor_41 : decode cX2_bestFor 41 = .ok (.ifCond .eq 5, 3) := by decide +kernel
theorem dX2_bestFor_44 : decode cX2_bestFor 44 = .ok (.iload_n 3, 1) := by decide +kernel
theorem dX2_bestFor_45 : decode cX2_bestFor 45 = .ok (.istore_n 2, 1) := by decide +kernel
theorem dX2_bestFor_46 : decode cX2_bestFor 46 = .ok (.iinc 3 1, 3) := by decide +kernel
theorem dX2_bestFor_49 : decode cX2_bestFor 49 = .ok (.goto (-45), 3) := by decide +kernel
theorem dX2_bestFor_52 : decode cX2_bestFor 52 = .ok (.iload_n 2, 1) := by decide +kernel
theorem dX2_bestFor_53 : decode cX2_bestFor 53 = .ok (.ireturn, 1) := by decide +kernel
theorem dX2_goesAhead_0 : decode cX2_goesAhead 0 = .ok (.aload_n 0, 1) := by decide +kernel
theorem dX2_goesAhead_1 : decode cX2_goesAhead 1 = .ok (.getfield 49, 3) := by decide +kernel
theorem dX2_goesAhead_4 : decode cX2_goesAhead 4 = .ok (.iload_n 1, 1) := by decide +kernel
theorem dX2_goesAhead_5 : decode cX2_goesAhead 5 = .ok (.iaload, 1) := by decide +kernel
theorem dX2_goesAhead_6 : decode cX2_goesAhead 6 = .ok (.aload_n 0, 1) := by decide +kernel
theorem dX2_goesAhead_7 : decode cX2_goesAhead 7 = .ok (.getfield 49, 3) := by decide +kernel
theorem dX2_goesAhead_10 : decode cX2_goesAhead 10 = .ok (.iload_n 2, 1) := by decide +kernel
theorem dX2_goesAhead_11 : decode cX2_goesAhead 11 = .ok (.iaload, 1) := by decide +kernel
theorem dX2_goesAhead_12 : decode cX2_goesAhead 12 = .ok (.if_icmp .eq 24, 3) := by decide +kernel
theorem dX2_goesAhead_15 : decode cX2_goesAhead 15 = .ok (.aload_n 0, 1) := by decide +kernel
theorem dX2_goesAhead_16 : decode cX2_goesAhead 16 = .ok (.getfield 49, 3) := by decide +kernel
theorem dX2_goesAhead_19 : decode cX2_goesAhead 19 = .ok (.iload_n 1, 1) := by decide +kernel
theorem dX2_goesAhead_20 : decode cX2_goesAhead 20 = .ok (.iaload, 1) := by decide +kernel
theorem dX2_goesAhead_21 : decode cX2_goesAhead 21 = .ok (.aload_n 0, 1) := by decide +kernel
theorem dX2_goesAhead_22 : decode cX2_goesAhead 22 = .ok (.getfield 49, 3) := by decide +kernel
theorem dX2_goesAhead_25 : decode cX2_goesAhead 25 = .ok (.iload_n 2, 1) := by decide +kernel
theorem dX2_goesAhead_26 : decode cX2_goesAhead 26 = .ok (.iaload, 1) := by decide +kernel
theorem dX2_goesAhead_27 : decode cX2_goesAhead 27 = .ok (.if_icmp .le 7, 3) := by decide +kernel
theorem dX2_goesAhead_30 : decode cX2_goesAhead 30 = .ok (.iconst 1, 1) := by decide +kernel
theorem dX2_goesAhead_31 : decode cX2_goesAhead 31 = .ok (.goto 4, 3) := by decide +kernel
theorem dX2_goesAhead_34 : decode cX2_goesAhead 34 = .ok (.iconst 0, 1) := by decide +kernel
theorem dX2_goesAhead_35 : decode cX2_goesAhead 35 = .ok (.ireturn, 1) := by decide +kernel
theorem dX2_goesAhead_36 : decode cX2_goesAhead 36 = .ok (.aload_n 0, 1) := by decide +kernel
theorem dX2_goesAhead_37 : decode cX2_goesAhead 37 = .ok (.getfield 46, 3) := by decide +kernel
theorem dX2_goesAhead_40 : decode cX2_goesAhead 40 = .ok (.iload_n 1, 1) := by decide +kernel
theorem dX2_goesAhead_41 : decode cX2_goesAhead 41 = .ok (.iaload, 1) := by decide +kernel
theorem dX2_goesAhead_42 : decode cX2_goesAhead 42 = .ok (.aload_n 0, 1) := by decide +kernel
theorem dX2_goesAhead_43 : decode cX2_goesAhead 43 = .ok (.getfield 46, 3) := by decide +kernel
theorem dX2_goesAhead_46 : decode cX2_goesAhead 46 = .ok (.iload_n 2, 1) := by decide +kernel
theorem dX2_goesAhead_47 : decode cX2_goesAhead 47 = .ok (.iaload, 1) := by decide +kernel
theorem dX2_goesAhead_48 : decode cX2_goesAhead 48 = .ok (.if_icmp .ge 7, 3) := by decide +kernel
theorem dX2_goesAhead_51 : decode cX2_goesAhead 51 = .ok (.iconst 1, 1) := by decide +kernel
theorem dX2_goesAhead_52 : decode cX2_goesAhead 52 = .ok (.goto 4, 3) := by decide +kernel
theorem dX2_goesAhead_55 : decode cX2_goesAhead 55 = .ok (.iconst 0, 1) := by decide +kernel
theorem dX2_goesAhead_56 : decode cX2_goesAhead 56 = .ok (.ireturn, 1) := by decide +kernel
theorem dX2_canRent_0 : decode cX2_canRent 0 = .ok (.iconst 0, 1) := by decide +kernel
theorem dX2_canRent_1 : decode cX2_canRent 1 = .ok (.istore_n 3, 1) := by decide +kernel
theorem dX2_canRent_2 : decode cX2_canRent 2 = .ok (.iload_n 3, 1) := by decide +kernel
theorem dX2_canRent_3 : decode cX2_canRent 3 = .ok (.aload_n 0, 1) := by decide +kernel
theorem dX2_canRent_4 : decode cX2_canRent 4 = .ok (.getfield 21, 3) := by decide +kernel
theorem dX2_canRent_7 : decode cX2_canRent 7 = .ok (.if_icmp .ge 30, 3) := by decide +kernel
theorem dX2_canRent_10 : decode cX2_canRent 10 = .ok (.aload_n 0, 1) := by decide +kernel
theorem dX2_canRent_11 : decode cX2_canRent 11 = .ok (.iload_n 3, 1) := by decide +kernel
theorem dX2_canRent_12 : decode cX2_canRent 12 = .ok (.iload_n 1, 1) := by decide +kernel
theorem dX2_canRent_13 : decode cX2_canRent 13 = .ok (.invokevirtual 197, 3) := by decide +kernel
theorem dX2_canRent_16 : decode cX2_canRent 16 = .ok (.ifCond .eq 15, 3) := by decide +kernel
theorem dX2_canRent_19 : decode cX2_canRent 19 = .ok (.aload_n 0, 1) := by decide +kernel
theorem dX2_canRent_20 : decode cX2_canRent 20 = .ok (.getfield 43, 3) := by decide +kernel
theorem dX2_canRent_23 : decode cX2_canRent 23 = .ok (.iload_n 3, 1) := by decide +kernel
theorem dX2_canRent_24 : decode cX2_canRent 24 = .ok (.iaload, 1) := by decide +kernel
theorem dX2_canRent_25 : decode cX2_canRent 25 = .ok (.iload_n 2, 1) := by decide +kernel
theorem dX2_canRent_26 : decode cX2_canRent 26 = .ok (.if_icmp .ne 5, 3) := by decide +kernel
theorem dX2_canRent_29 : decode cX2_canRent 29 = .ok (.iconst 0, 1) := by decide +kernel
theorem dX2_canRent_30 : decode cX2_canRent 30 = .ok (.ireturn, 1) := by decide +kernel
theorem dX2_canRent_31 : decode cX2_canRent 31 = .ok (.iinc 3 1, 3) := by decide +kernel
theorem dX2_canRent_34 : decode cX2_canRent 34 = .ok (.goto (-32), 3) := by decide +kernel
theorem dX2_canRent_37 : decode cX2_canRent 37 = .ok (.aload_n 0, 1) := by decide +kernel
theorem dX2_canRent_38 : decode cX2_canRent 38 = .ok (.iload_n 1, 1) := by decide +kernel
theorem dX2_canRent_39 : decode cX2_canRent 39 = .ok (.invokevirtual 151, 3) := by decide +kernel
theorem dX2_canRent_42 : decode cX2_canRent 42 = .ok (.iconst 4, 1) := by decide +kernel
theorem dX2_canRent_43 : decode cX2_canRent 43 = .ok (.if_icmp .ge 7, 3) := by decide +kernel
theorem dX2_canRent_46 : decode cX2_canRent 46 = .ok (.iconst 1, 1) := by decide +kernel
theorem dX2_canRent_47 : decode cX2_canRent 47 = .ok (.goto 4, 3) := by decide +kernel
theorem dX2_canRent_50 : decode cX2_canRent 50 = .ok (.iconst 0, 1) := by decide +kernel
theorem dX2_canRent_51 : decode cX2_canRent 51 = .ok (.ireturn, 1) := by decide +kernel
theorem dX2_lateCharge_0 : decode cX2_lateCharge 0 = .ok (.aload_n 0, 1) := by decide +kernel
theorem dX2_lateCharge_1 : decode cX2_lateCharge 1 = .ok (.iload_n 1, 1) := by decide +kernel
theorem dX2_lateCharge_2 : decode cX2_lateCharge 2 = .ok (.invokevirtual 144, 3) := by decide +kernel
theorem dX2_lateCharge_5 : decode cX2_lateCharge 5 = .ok (.aload_n 0, 1) := by decide +kernel
theorem dX2_lateCharge_6 : decode cX2_lateCharge 6 = .ok (.getfield 24, 3) := by decide +kernel
theorem dX2_lateCharge_9 : decode cX2_lateCharge 9 = .ok (.iconst 1, 1) := by decide +kernel
theorem dX2_lateCharge_10 : decode cX2_lateCharge 10 = .ok (.iaload, 1) := by decide +kernel
theorem dX2_lateCharge_11 : decode cX2_lateCharge 11 = .ok (.imul, 1) := by decide +kernel
theorem dX2_lateCharge_12 : decode cX2_lateCharge 12 = .ok (.aload_n 0, 1) := by decide +kernel
theorem dX2_lateCharge_13 : decode cX2_lateCharge 13 = .ok (.iload_n 1, 1) := by decide +kernel
theorem dX2_lateCharge_14 : decode cX2_lateCharge 14 = .ok (.invokevirtual 131, 3) := by decide +kernel
theorem dX2_lateCharge_17 : decode cX2_lateCharge 17 = .ok (.invokestatic 71, 3) := by decide +kernel
theorem dX2_lateCharge_20 : decode cX2_lateCharge 20 = .ok (.ireturn, 1) := by decide +kernel
theorem dX2_damageCharge_0 : decode cX2_damageCharge 0 = .ok (.aload_n 0, 1) := by decide +kernel
theorem dX2_damageCharge_1 : decode cX2_damageCharge 1 = .ok (.iload_n 1, 1) := by decide +kernel
theorem dX2_damageCharge_2 : decode cX2_damageCharge 2 = .ok (.iload_n 2, 1) := by decide +kernel
theorem dX2_damageCharge_3 : decode cX2_damageCharge 3 = .ok (.invokevirtual 184, 3) := by decide +kernel
theorem dX2_damageCharge_6 : decode cX2_damageCharge 6 = .ok (.ifCond .eq 9, 3) := by decide +kernel
theorem dX2_damageCharge_9 : decode cX2_damageCharge 9 = .ok (.aload_n 0, 1) := by decide +kernel
theorem dX2_damageCharge_10 : decode cX2_damageCharge 10 = .ok (.iload_n 1, 1) := by decide +kernel
theorem dX2_damageCharge_11 : decode cX2_damageCharge 11 = .ok (.invokevirtual 131, 3) := by decide +kernel
theorem dX2_damageCharge_14 : decode cX2_damageCharge 14 = .ok (.ireturn, 1) := by decide +kernel
theorem dX2_damageCharge_15 : decode cX2_damageCharge 15 = .ok (.iload_n 2, 1) := by decide +kernel
theorem dX2_damageCharge_16 : decode cX2_damageCharge 16 = .ok (.iconst 2, 1) := by decide +kernel
theorem dX2_damageCharge_17 : decode cX2_damageCharge 17 = .ok (.if_icmp .ge 5, 3) := by decide +kernel
theorem dX2_damageCharge_20 : decode cX2_damageCharge 20 = .ok (.iconst 0, 1) := by decide +kernel
theorem dX2_damageCharge_21 : decode cX2_damageCharge 21 = .ok (.ireturn, 1) := by decide +kernel
theorem dX2_damageCharge_22 : decode cX2_damageCharge 22 = .ok (.aload_n 0, 1) := by decide +kernel
theorem dX2_damageCharge_23 : decode cX2_damageCharge 23 = .ok (.iload_n 1, 1) := by decide +kernel
theorem dX2_damageCharge_24 : decode cX2_damageCharge 24 = .ok (.aload_n 0, 1) := by decide +kernel
theorem dX2_damageCharge_25 : decode cX2_damageCharge 25 = .ok (.getfield 49, 3) := by decide +kernel
theorem dX2_damageCharge_28 : decode cX2_damageCharge 28 = .ok (.iload_n 1, 1) := by decide +kernel
theorem dX2_damageCharge_29 : decode cX2_damageCharge 29 = .ok (.iaload, 1) := by decide +kernel
theorem dX2_damageCharge_30 : decode cX2_damageCharge 30 = .ok (.iconst 1, 1) := by decide +kernel
theorem dX2_damageCharge_31 : decode cX2_damageCharge 31 = .ok (.iadd, 1) := by decide +kernel
theorem dX2_damageCharge_32 : decode cX2_damageCharge 32 = .ok (.invokevirtual 200, 3) := by decide +kernel
theorem dX2_damageCharge_35 : decode cX2_damageCharge 35 = .ok (.aload_n 0, 1) := by decide +kernel
theorem dX2_damageCharge_36 : decode cX2_damageCharge 36 = .ok (.iload_n 1, 1) := by decide +kernel
theorem dX2_damageCharge_37 : decode cX2_damageCharge 37 = .ok (.aload_n 0, 1) := by decide +kernel
theorem dX2_damageCharge_38 : decode cX2_damageCharge 38 = .ok (.getfield 49, 3) := by decide +kernel
theorem dX2_damageCharge_41 : decode cX2_damageCharge 41 = .ok (.iload_n 1, 1) := by decide +kernel
theorem dX2_damageCharge_42 : decode cX2_damageCharge 42 = .ok (.iaload, 1) := by decide +kernel
theorem dX2_damageCharge_43 : decode cX2_damageCharge 43 = .ok (.iload_n 2, 1) := by decide +kernel
theorem dX2_damageCharge_44 : decode cX2_damageCharge 44 = .ok (.iadd, 1) := by decide +kernel
theorem dX2_damageCharge_45 : decode cX2_damageCharge 45 = .ok (.invokevirtual 200, 3) := by decide +kernel
theorem dX2_damageCharge_48 : decode cX2_damageCharge 48 = .ok (.isub, 1) := by decide +kernel
theorem dX2_damageCharge_49 : decode cX2_damageCharge 49 = .ok (.ireturn, 1) := by decide +kernel
theorem dX2_isRuinedBy_0 : decode cX2_isRuinedBy 0 = .ok (.aload_n 0, 1) := by decide +kernel
theorem dX2_isRuinedBy_1 : decode cX2_isRuinedBy 1 = .ok (.getfield 49, 3) := by decide +kernel
theorem dX2_isRuinedBy_4 : decode cX2_isRuinedBy 4 = .ok (.iload_n 1, 1) := by decide +kernel
theorem dX2_isRuinedBy_5 : decode cX2_isRuinedBy 5 = .ok (.iaload, 1) := by decide +kernel
theorem dX2_isRuinedBy_6 : decode cX2_isRuinedBy 6 = .ok (.iload_n 2, 1) := by decide +kernel
theorem dX2_isRuinedBy_7 : decode cX2_isRuinedBy 7 = .ok (.iadd, 1) := by decide +kernel
theorem dX2_isRuinedBy_8 : decode cX2_isRuinedBy 8 = .ok (.iconst 4, 1) := by decide +kernel
theorem dX2_isRuinedBy_9 : decode cX2_isRuinedBy 9 = .ok (.if_icmp .le 7, 3) := by decide +kernel
theorem dX2_isRuinedBy_12 : decode cX2_isRuinedBy 12 = .ok (.iconst 1, 1) := by decide +kernel
theorem dX2_isRuinedBy_13 : decode cX2_isRuinedBy 13 = .ok (.goto 4, 3) := by decide +kernel
theorem dX2_isRuinedBy_16 : decode cX2_isRuinedBy 16 = .ok (.iconst 0, 1) := by decide +kernel
theorem dX2_isRuinedBy_17 : decode cX2_isRuinedBy 17 = .ok (.ireturn, 1) := by decide +kernel
theorem dX2_isLostOn_0 : decode cX2_isLostOn 0 = .ok (.aload_n 0, 1) := by decide +kernel
theorem dX2_isLostOn_1 : decode cX2_isLostOn 1 = .ok (.getfield 52, 3) := by decide +kernel
theorem dX2_isLostOn_4 : decode cX2_isLostOn 4 = .ok (.iload_n 1, 1) := by decide +kernel
theorem dX2_isLostOn_5 : decode cX2_isLostOn 5 = .ok (.iaload, 1) := by decide +kernel
theorem dX2_isLostOn_6 : decode cX2_isLostOn 6 = .ok (.iconst 1, 1) := by decide +kernel
theorem dX2_isLostOn_7 : decode cX2_isLostOn 7 = .ok (.if_icmp .ne 24, 3) := by decide +kernel
theorem dX2_isLostOn_10 : decode cX2_isLostOn 10 = .ok (.iload_n 2, 1) := by decide +kernel
theorem dX2_isLostOn_11 : decode cX2_isLostOn 11 = .ok (.aload_n 0, 1) := by decide +kernel
theorem dX2_isLostOn_12 : decode cX2_isLostOn 12 = .ok (.getfield 58, 3) := by decide +kernel
theorem dX2_isLostOn_15 : decode cX2_isLostOn 15 = .ok (.iload_n 1, 1) := by decide +kernel
theorem dX2_isLostOn_16 : decode cX2_isLostOn 16 = .ok (.iaload, 1) := by decide +kernel
theorem dX2_isLostOn_17 : decode cX2_isLostOn 17 = .ok (.isub, 1) := by decide +kernel
theorem dX2_isLostOn_18 : decode cX2_isLostOn 18 = .ok (.aload_n 0, 1) := by decide +kernel
theorem dX2_isLostOn_19 : decode cX2_isLostOn 19 = .ok (.getfield 24, 3) := by decide +kernel
theorem dX2_isLostOn_22 : decode cX2_isLostOn 22 = .ok (.iconst 2, 1) := by decide +kernel
theorem dX2_isLostOn_23 : decode cX2_isLostOn 23 = .ok (.iaload, 1) := by decide +kernel
theorem dX2_isLostOn_24 : decode cX2_isLostOn 24 = .ok (.if_icmp .le 7, 3) := by decide +kernel
theorem dX2_isLostOn_27 : decode cX2_isLostOn 27 = .ok (.iconst 1, 1) := by decide +kernel
theorem dX2_isLostOn_28 : decode cX2_isLostOn 28 = .ok (.goto 4, 3) := by decide +kernel
theorem dX2_isLostOn_31 : decode cX2_isLostOn 31 = .ok (.iconst 0, 1) := by decide +kernel
theorem dX2_isLostOn_32 : decode cX2_isLostOn 32 = .ok (.ireturn, 1) := by decide +kernel
theorem dX2_daysLate_0 : decode cX2_daysLate 0 = .ok (.iconst 0, 1) := by decide +kernel
theorem dX2_daysLate_1 : decode cX2_daysLate 1 = .ok (.aload_n 0, 1) := by decide +kernel
theorem dX2_daysLate_2 : decode cX2_daysLate 2 = .ok (.getfield 9, 3) := by decide +kernel
theorem dX2_daysLate_5 : decode cX2_daysLate 5 = .ok (.aload_n 0, 1) := by decide +kernel
theorem dX2_daysLate_6 : decode cX2_daysLate 6 = .ok (.getfield 58, 3) := by decide +kernel
theorem dX2_daysLate_9 : decode cX2_daysLate 9 = .ok (.iload_n 1, 1) := by decide +kernel
theorem dX2_daysLate_10 : decode cX2_daysLate 10 = .ok (.iaload, 1) := by decide +kernel
theorem dX2_daysLate_11 : decode cX2_daysLate 11 = .ok (.isub, 1) := by decide +kernel
theorem dX2_daysLate_12 : decode cX2_daysLate 12 = .ok (.invokestatic 116, 3) := by decide +kernel
theorem dX2_daysLate_15 : decode cX2_daysLate 15 = .ok (.ireturn, 1) := by decide +kernel
theorem dX2_isRentedBy_0 : decode cX2_isRentedBy 0 = .ok (.aload_n 0, 1) := by decide +kernel
theorem dX2_isRentedBy_1 : decode cX2_isRentedBy 1 = .ok (.getfield 52, 3) := by decide +kernel
theorem dX2_isRentedBy_4 : decode cX2_isRentedBy 4 = .ok (.iload_n 1, 1) := by decide +kernel
theorem dX2_isRentedBy_5 : decode cX2_isRentedBy 5 = .ok (.iaload, 1) := by decide +kernel
theorem dX2_isRentedBy_6 : decode cX2_isRentedBy 6 = .ok (.iconst 1, 1) := by decide +kernel
theorem dX2_isRentedBy_7 : decode cX2_isRentedBy 7 = .ok (.if_icmp .ne 17, 3) := by decide +kernel
theorem dX2_isRentedBy_10 : decode cX2_isRentedBy 10 = .ok (.aload_n 0, 1) := by decide +kernel
theorem dX2_isRentedBy_11 : decode cX2_isRentedBy 11 = .ok (.getfield 55, 3) := by decide +kernel
theorem dX2_isRentedBy_14 : decode cX2_isRentedBy 14 = .ok (.iload_n 1, 1) := by decide +kernel
theorem dX2_isRentedBy_15 : decode cX2_isRentedBy 15 = .ok (.iaload, 1) := by decide +kernel
theorem dX2_isRentedBy_16 : decode cX2_isRentedBy 16 = .ok (.iload_n 2, 1) := by decide +kernel
theorem dX2_isRentedBy_17 : decode cX2_isRentedBy 17 = .ok (.if_icmp .ne 7, 3) := by decide +kernel
theorem dX2_isRentedBy_20 : decode cX2_isRentedBy 20 = .ok (.iconst 1, 1) := by decide +kernel
theorem dX2_isRentedBy_21 : decode cX2_isRentedBy 21 = .ok (.goto 4, 3) := by decide +kernel
theorem dX2_isRentedBy_24 : decode cX2_isRentedBy 24 = .ok (.iconst 0, 1) := by decide +kernel
theorem dX2_isRentedBy_25 : decode cX2_isRentedBy 25 = .ok (.ireturn, 1) := by decide +kernel
theorem dX2_rentedBy_0 : decode cX2_rentedBy 0 = .ok (.iconst 0, 1) := by decide +kernel
theorem dX2_rentedBy_1 : decode cX2_rentedBy 1 = .ok (.istore_n 2, 1) := by decide +kernel
theorem dX2_rentedBy_2 : decode cX2_rentedBy 2 = .ok (.iconst 0, 1) := by decide +kernel
theorem dX2_rentedBy_3 : decode cX2_rentedBy 3 = .ok (.istore_n 3, 1) := by decide +kernel
theorem dX2_rentedBy_4 : decode cX2_rentedBy 4 = .ok (.iload_n 3, 1) := by decide +kernel
theorem dX2_rentedBy_5 : decode cX2_rentedBy 5 = .ok (.aload_n 0, 1) := by decide +kernel
theorem dX2_rentedBy_6 : decode cX2_rentedBy 6 = .ok (.getfield 21, 3) := by decide +kernel
theorem dX2_rentedBy_9 : decode cX2_rentedBy 9 = .ok (.if_icmp .ge 21, 3) := by decide +kernel
theorem dX2_rentedBy_12 : decode cX2_rentedBy 12 = .ok (.aload_n 0, 1) := by decide +kernel
theorem dX2_rentedBy_13 : decode cX2_rentedBy 13 = .ok (.iload_n 3, 1) := by decide +kernel
theorem dX2_rentedBy_14 : decode cX2_rentedBy 14 = .ok (.iload_n 1, 1) := by decide +kernel
theorem dX2_rentedBy_15 : decode cX2_rentedBy 15 = .ok (.invokevirtual 197, 3) := by decide +kernel
theorem dX2_rentedBy_18 : decode cX2_rentedBy 18 = .ok (.ifCond .eq 6, 3) := by decide +kernel
theorem dX2_rentedBy_21 : decode cX2_rentedBy 21 = .ok (.iinc 2 1, 3) := by decide +kernel
theorem dX2_rentedBy_24 : decode cX2_rentedBy 24 = .ok (.iinc 3 1, 3) := by decide +kernel
theorem dX2_rentedBy_27 : decode cX2_rentedBy 27 = .ok (.goto (-23), 3) := by decide +kernel
theorem dX2_rentedBy_30 : decode cX2_rentedBy 30 = .ok (.iload_n 2, 1) := by decide +kernel
theorem dX2_rentedBy_31 : decode cX2_rentedBy 31 = .ok (.ireturn, 1) := by decide +kernel
theorem dX2_lateBy_0 : decode cX2_lateBy 0 = .ok (.iconst 0, 1) := by decide +kernel
theorem dX2_lateBy_1 : decode cX2_lateBy 1 = .ok (.istore_n 2, 1) := by decide +kernel
theorem dX2_lateBy_2 : decode cX2_lateBy 2 = .ok (.iconst 0, 1) := by decide +kernel
theorem dX2_lateBy_3 : decode cX2_lateBy 3 = .ok (.istore_n 3, 1) := by decide +kernel
theorem dX2_lateBy_4 : decode cX2_lateBy 4 = .ok (.iload_n 3, 1) := by decide +kernel
theorem dX2_lateBy_5 : decode cX2_lateBy 5 = .ok (.aload_n 0, 1) := by decide +kernel
theorem dX2_lateBy_6 : decode cX2_lateBy 6 = .ok (.getfield 21, 3) := by decide +kernel
theorem dX2_lateBy_9 : decode cX2_lateBy 9 = .ok (.if_icmp .ge 29, 3) := by decide +kernel
theorem dX2_lateBy_12 : decode cX2_lateBy 12 = .ok (.aload_n 0, 1) := by decide +kernel
theorem dX2_lateBy_13 : decode cX2_lateBy 13 = .ok (.iload_n 3, 1) := by decide +kernel
theorem dX2_lateBy_14 : decode cX2_lateBy 14 = .ok (.iload_n 1, 1) := by decide +kernel
theorem dX2_lateBy_15 : decode cX2_lateBy 15 = .ok (.invokevirtual 197, 3) := by decide +kernel
theorem dX2_lateBy_18 : decode cX2_lateBy 18 = .ok (.ifCond .eq 14, 3) := by decide +kernel
theorem dX2_lateBy_21 : decode cX2_lateBy 21 = .ok (.aload_n 0, 1) := by decide +kernel
theorem dX2_lateBy_22 : decode cX2_lateBy 22 = .ok (.iload_n 3, 1) := by decide +kernel
theorem dX2_lateBy_23 : decode cX2_lateBy 23 = .ok (.invokevirtual 144, 3) := by decide +kernel
theorem dX2_lateBy_26 : decode cX2_lateBy 26 = .ok (.ifCond .le 6, 3) := by decide +kernel
theorem dX2_lateBy_29 : decode cX2_lateBy 29 = .ok (.iinc 2 1, 3) := by decide +kernel
theorem dX2_lateBy_32 : decode cX2_lateBy 32 = .ok (.iinc 3 1, 3) := by decide +kernel
theorem dX2_lateBy_35 : decode cX2_lateBy 35 = .ok (.goto (-31), 3) := by decide +kernel
theorem dX2_lateBy_38 : decode cX2_lateBy 38 = .ok (.iload_n 2, 1) := by decide +kernel
theorem dX2_lateBy_39 : decode cX2_lateBy 39 = .ok (.ireturn, 1) := by decide +kernel
theorem dX2_countShelf_0 : decode cX2_countShelf 0 = .ok (.aload_n 0, 1) := by decide +kernel
theorem dX2_countShelf_1 : decode cX2_countShelf 1 = .ok (.iload_n 1, 1) := by decide +kernel
theorem dX2_countShelf_2 : decode cX2_countShelf 2 = .ok (.invokevirtual 90, 3) := by decide +kernel
theorem dX2_countShelf_5 : decode cX2_countShelf 5 = .ok (.ifCond .ne 6, 3) := by decide +kernel
theorem dX2_countShelf_8 : decode cX2_countShelf 8 = .ok (.bipush (-2), 2) := by decide +kernel
theorem dX2_countShelf_10 : decode cX2_countShelf 10 = .ok (.ireturn, 1) := by decide +kernel
theorem dX2_countShelf_11 : decode cX2_countShelf 11 = .ok (.iload_n 2, 1) := by decide +kernel
theorem dX2_countShelf_12 : decode cX2_countShelf 12 = .ok (.iconst 0, 1) := by decide +kernel
theorem dX2_countShelf_13 : decode cX2_countShelf 13 = .ok (.bipush 60, 2) := by decide +kernel
theorem dX2_countShelf_15 : decode cX2_countShelf 15 = .ok (.invokestatic 93, 3) := by decide +kernel
theorem dX2_countShelf_18 : decode cX2_countShelf 18 = .ok (.ifCond .ne 6, 3) := by decide +kernel
theorem dX2_countShelf_21 : decode cX2_countShelf 21 = .ok (.bipush (-3), 2) := by decide +kernel
theorem dX2_countShelf_23 : decode cX2_countShelf 23 = .ok (.ireturn, 1) := by decide +kernel
theorem dX2_countShelf_24 : decode cX2_countShelf 24 = .ok (.aload_n 0, 1) := by decide +kernel
theorem dX2_countShelf_25 : decode cX2_countShelf 25 = .ok (.iload_n 1, 1) := by decide +kernel
theorem dX2_countShelf_26 : decode cX2_countShelf 26 = .ok (.iconst 0, 1) := by decide +kernel
theorem dX2_countShelf_27 : decode cX2_countShelf 27 = .ok (.invokevirtual 122, 3) := by decide +kernel
theorem dX2_countShelf_30 : decode cX2_countShelf 30 = .ok (.istore_n 3, 1) := by decide +kernel
theorem dX2_countShelf_31 : decode cX2_countShelf 31 = .ok (.aload_n 0, 1) := by decide +kernel
theorem dX2_countShelf_32 : decode cX2_countShelf 32 = .ok (.iload_n 1, 1) := by decide +kernel
theorem dX2_countShelf_33 : decode cX2_countShelf 33 = .ok (.iconst 4, 1) := by decide +kernel
theorem dX2_countShelf_34 : decode cX2_countShelf 34 = .ok (.invokevirtual 122, 3) := by decide +kernel
theorem dX2_countShelf_37 : decode cX2_countShelf 37 = .ok (.istore 4, 2) := by decide +kernel
theorem dX2_countShelf_39 : decode cX2_countShelf 39 = .ok (.iload_n 2, 1) := by decide +kernel
theorem dX2_countShelf_40 : decode cX2_countShelf 40 = .ok (.iload_n 3, 1) := by decide +kernel
theorem dX2_countShelf_41 : decode cX2_countShelf 41 = .ok (.iload 4, 2) := by decide +kernel
theorem dX2_countShelf_43 : decode cX2_countShelf 43 = .ok (.iadd, 1) := by decide +kernel
theorem dX2_countShelf_44 : decode cX2_countShelf 44 = .ok (.if_icmp .le 6, 3) := by decide +kernel
theorem dX2_countShelf_47 : decode cX2_countShelf 47 = .ok (.bipush (-4), 2) := by decide +kernel
theorem dX2_countShelf_49 : decode cX2_countShelf 49 = .ok (.ireturn, 1) := by decide +kernel
theorem dX2_countShelf_50 : decode cX2_countShelf 50 = .ok (.aload_n 0, 1) := by decide +kernel
theorem dX2_countShelf_51 : decode cX2_countShelf 51 = .ok (.iload_n 1, 1) := by decide +kernel
theorem dX2_countShelf_52 : decode cX2_countShelf 52 = .ok (.iload_n 3, 1) := by decide +kernel
theorem dX2_countShelf_53 : decode cX2_countShelf 53 = .ok (.iload_n 2, 1) := by decide +kernel
theorem dX2_countShelf_54 : decode cX2_countShelf 54 = .ok (.isub, 1) := by decide +kernel
theorem dX2_countShelf_55 : decode cX2_countShelf 55 = .ok (.invokevirtual 203, 3) := by decide +kernel
theorem dX2_countShelf_58 : decode cX2_countShelf 58 = .ok (.aload_n 0, 1) := by decide +kernel
theorem dX2_countShelf_59 : decode cX2_countShelf 59 = .ok (.iload_n 1, 1) := by decide +kernel
theorem dX2_countShelf_60 : decode cX2_countShelf 60 = .ok (.iload_n 2, 1) := by decide +kernel
theorem dX2_countShelf_61 : decode cX2_countShelf 61 = .ok (.iload_n 3, 1) := by decide +kernel
theorem dX2_countShelf_62 : decode cX2_countShelf 62 = .ok (.isub, 1) := by decide +kernel
theorem dX2_countShelf_63 : decode cX2_countShelf 63 = .ok (.invokevirtual 207, 3) := by decide +kernel
theorem dX2_countShelf_66 : decode cX2_countShelf 66 = .ok (.iload_n 3, 1) := by decide +kernel
theorem dX2_countShelf_67 : decode cX2_countShelf 67 = .ok (.iload 4, 2) := by decide +kernel
theorem dX2_countShelf_69 : decode cX2_countShelf 69 = .ok (.iadd, 1) := by decide +kernel
theorem dX2_countShelf_70 : decode cX2_countShelf 70 = .ok (.iload_n 2, 1) := by decide +kernel
theorem dX2_countShelf_71 : decode cX2_countShelf 71 = .ok (.isub, 1) := by decide +kernel
theorem dX2_countShelf_72 : decode cX2_countShelf 72 = .ok (.ireturn, 1) := by decide +kernel
theorem dX2_loseSight_0 : decode cX2_loseSight 0 = .ok (.iload_n 2, 1) := by decide +kernel
theorem dX2_loseSight_1 : decode cX2_loseSight 1 = .ok (.istore_n 3, 1) := by decide +kernel
theorem dX2_loseSight_2 : decode cX2_loseSight 2 = .ok (.aload_n 0, 1) := by decide +kernel
theorem dX2_loseSight_3 : decode cX2_loseSight 3 = .ok (.getfield 21, 3) := by decide +kernel
theorem dX2_loseSight_6 : decode cX2_loseSight 6 = .ok (.iconst 1, 1) := by decide +kernel
theorem dX2_loseSight_7 : decode cX2_loseSight 7 = .ok (.isub, 1) := by decide +kernel
theorem dX2_loseSight_8 : decode cX2_loseSight 8 = .ok (.istore 4, 2) := by decide +kernel
theorem dX2_loseSight_10 : decode cX2_loseSight 10 = .ok (.iload 4, 2) := by decide +kernel
theorem dX2_loseSight_12 : decode cX2_loseSight 12 = .ok (.ifCond .lt 45, 3) := by decide +kernel
theorem dX2_loseSight_15 : decode cX2_loseSight 15 = .ok (.iload_n 3, 1) := by decide +kernel
theorem dX2_loseSight_16 : decode cX2_loseSight 16 = .ok (.ifCond .le 41, 3) := by decide +kernel
theorem dX2_loseSight_19 : decode cX2_loseSight 19 = .ok (.aload_n 0, 1) := by decide +kernel
theorem dX2_loseSight_20 : decode cX2_loseSight 20 = .ok (.getfield 43, 3) := by decide +kernel
theorem dX2_loseSight_23 : decode cX2_loseSight 23 = .ok (.iload 4, 2) := by decide +kernel
theorem dX2_loseSight_25 : decode cX2_loseSight 25 = .ok (.iaload, 1) := by decide +kernel
theorem dX2_loseSight_26 : decode cX2_loseSight 26 = .ok (.iload_n 1, 1) := by decide +kernel
theorem dX2_loseSight_27 : decode cX2_loseSight 27 = .ok (.if_icmp .ne 24, 3) := by decide +kernel
theorem dX2_loseSight_30 : decode cX2_loseSight 30 = .ok (.aload_n 0, 1) := by decide +kernel
theorem dX2_loseSight_31 : decode cX2_loseSight 31 = .ok (.getfield 52, 3) := by decide +kernel
theorem dX2_loseSight_34 : decode cX2_loseSight 34 = .ok (.iload 4, 2) := by decide +kernel
theorem dX2_loseSight_36 : decode cX2_loseSight 36 = .ok (.iaload, 1) := by decide +kernel
theorem dX2_loseSight_37 : decode cX2_loseSight 37 = .ok (.ifCond .ne 14, 3) := by decide +kernel
theorem dX2_loseSight_40 : decode cX2_loseSight 40 = .ok (.aload_n 0, 1) := by decide +kernel
theorem dX2_loseSight_41 : decode cX2_loseSight 41 = .ok (.getfield 52, 3) := by decide +kernel
theorem dX2_loseSight_44 : decode cX2_loseSight 44 = .ok (.iload 4, 2) := by decide +kernel
theorem dX2_loseSight_46 : decode cX2_loseSight 46 = .ok (.iconst 4, 1) := by decide +kernel
theorem dX2_loseSight_47 : decode cX2_loseSight 47 = .ok (.iastore, 1) := by decide +kernel
theorem dX2_loseSight_48 : decode cX2_loseSight 48 = .ok (.iinc 3 (-1), 3) := by decide +kernel
theorem dX2_loseSight_51 : decode cX2_loseSight 51 = .ok (.iinc 4 (-1), 3) := by decide +kernel
theorem dX2_loseSight_54 : decode cX2_loseSight 54 = .ok (.goto (-44), 3) := by decide +kernel
theorem dX2_loseSight_57 : decode cX2_loseSight 57 = .ok (.return_, 1) := by decide +kernel
theorem dX2_findAgain_0 : decode cX2_findAgain 0 = .ok (.iload_n 2, 1) := by decide +kernel
theorem dX2_findAgain_1 : decode cX2_findAgain 1 = .ok (.istore_n 3, 1) := by decide +kernel
theorem dX2_findAgain_2 : decode cX2_findAgain 2 = .ok (.iconst 0, 1) := by decide +kernel
theorem dX2_findAgain_3 : decode cX2_findAgain 3 = .ok (.istore 4, 2) := by decide +kernel
theorem dX2_findAgain_5 : decode cX2_findAgain 5 = .ok (.iload 4, 2) := by decide +kernel
theorem dX2_findAgain_7 : decode cX2_findAgain 7 = .ok (.aload_n 0, 1) := by decide +kernel
theorem dX2_findAgain_8 : decode cX2_findAgain 8 = .ok (.getfield 21, 3) := by decide +kernel
theorem dX2_findAgain_11 : decode cX2_findAgain 11 = .ok (.if_icmp .ge 46, 3) := by decide +kernel
theorem dX2_findAgain_14 : decode cX2_findAgain 14 = .ok (.iload_n 3, 1) := by decide +kernel
theorem dX2_findAgain_15 : decode cX2_findAgain 15 = .ok (.ifCond .le 42, 3) := by decide +kernel
theorem dX2_findAgain_18 : decode cX2_findAgain 18 = .ok (.aload_n 0, 1) := by decide +kernel
theorem dX2_findAgain_19 : decode cX2_findAgain 19 = .ok (.getfield 43, 3) := by decide +kernel
theorem dX2_findAgain_22 : decode cX2_findAgain 22 = .ok (.iload 4, 2) := by decide +kernel
theorem dX2_findAgain_24 : decode cX2_findAgain 24 = .ok (.iaload, 1) := by decide +kernel
theorem dX2_findAgain_25 : decode cX2_findAgain 25 = .ok (.iload_n 1, 1) := by decide +kernel
theorem dX2_findAgain_26 : decode cX2_findAgain 26 = .ok (.if_icmp .ne 25, 3) := by decide +kernel
theorem dX2_findAgain_29 : decode cX2_findAgain 29 = .ok (.aload_n 0, 1) := by decide +kernel
theorem dX2_findAgain_30 : decode cX2_findAgain 30 = .ok (.getfield 52, 3) := by decide +kernel
theorem dX2_findAgain_33 : decode cX2_findAgain 33 = .ok (.iload 4, 2) := by decide +kernel
theorem dX2_findAgain_35 : decode cX2_findAgain 35 = .ok (.iaload, 1) := by decide +kernel
theorem dX2_findAgain_36 : decode cX2_findAgain 36 = .ok (.iconst 4, 1) := by decide +kernel
theorem dX2_findAgain_37 : decode cX2_findAgain 37 = .ok (.if_icmp .ne 14, 3) := by decide +kernel
theorem dX2_findAgain_40 : decode cX2_findAgain 40 = .ok (.aload_n 0, 1) := by decide +kernel
theorem dX2_findAgain_41 : decode cX2_findAgain 41 = .ok (.getfield 52, 3) := by decide +kernel
theorem dX2_findAgain_44 : decode cX2_findAgain 44 = .ok (.iload 4, 2) := by decide +kernel
theorem dX2_findAgain_46 : decode cX2_findAgain 46 = .ok (.iconst 0, 1) := by decide +kernel
theorem dX2_findAgain_47 : decode cX2_findAgain 47 = .ok (.iastore, 1) := by decide +kernel
theorem dX2_findAgain_48 : decode cX2_findAgain 48 = .ok (.iinc 3 (-1), 3) := by decide +kernel
theorem dX2_findAgain_51 : decode cX2_findAgain 51 = .ok (.iinc 4 1, 3) := by decide +kernel
theorem dX2_findAgain_54 : decode cX2_findAgain 54 = .ok (.goto (-49), 3) := by decide +kernel
theorem dX2_findAgain_57 : decode cX2_findAgain 57 = .ok (.return_, 1) := by decide +kernel
theorem dX2_lostAfter_0 : decode cX2_lostAfter 0 = .ok (.iload_n 1, 1) := by decide +kernel
theorem dX2_lostAfter_1 : decode cX2_lostAfter 1 = .ok (.iconst 1, 1) := by decide +kernel
theorem dX2_lostAfter_2 : decode cX2_lostAfter 2 = .ok (.sipush 400, 3) := by decide +kernel
theorem dX2_lostAfter_5 : decode cX2_lostAfter 5 = .ok (.invokestatic 93, 3) := by decide +kernel
theorem dX2_lostAfter_8 : decode cX2_lostAfter 8 = .ok (.ifCond .ne 6, 3) := by decide +kernel
theorem dX2_lostAfter_11 : decode cX2_lostAfter 11 = .ok (.bipush (-3), 2) := by decide +kernel
theorem dX2_lostAfter_13 : decode cX2_lostAfter 13 = .ok (.ireturn, 1) := by decide +kernel
theorem dX2_lostAfter_14 : decode cX2_lostAfter 14 = .ok (.iconst 0, 1) := by decide +kernel
theorem dX2_lostAfter_15 : decode cX2_lostAfter 15 = .ok (.istore_n 2, 1) := by decide +kernel
theorem dX2_lostAfter_16 : decode cX2_lostAfter 16 = .ok (.iconst 0, 1) := by decide +kernel
theorem dX2_lostAfter_17 : decode cX2_lostAfter 17 = .ok (.istore_n 3, 1) := by decide +kernel
theorem dX2_lostAfter_18 : decode cX2_lostAfter 18 = .ok (.iload_n 3, 1) := by decide +kernel
theorem dX2_lostAfter_19 : decode cX2_lostAfter 19 = .ok (.aload_n 0, 1) := by decide +kernel
theorem dX2_lostAfter_20 : decode cX2_lostAfter 20 = .ok (.getfield 21, 3) := by decide +kernel
theorem dX2_lostAfter_23 : decode cX2_lostAfter 23 = .ok (.if_icmp .ge 26, 3) := by decide +kernel
theorem dX2_lostAfter_26 : decode cX2_lostAfter 26 = .ok (.aload_n 0, 1) := by decide +kernel
theorem dX2_lostAfter_27 : decode cX2_lostAfter 27 = .ok (.iload_n 3, 1) := by decide +kernel
theorem dX2_lostAfter_28 : decode cX2_lostAfter 28 = .ok (.aload_n 0, 1) := by decide +kernel
theorem dX2_lostAfter_29 : decode cX2_lostAfter 29 = .ok (.getfield 9, 3) := by decide +kernel
theorem dX2_lostAfter_32 : decode cX2_lostAfter 32 = .ok (.iload_n 1, 1) := by decide +kernel
theorem dX2_lostAfter_33 : decode cX2_lostAfter 33 = .ok (.iadd, 1) := by decide +kernel
theorem dX2_lostAfter_34 : decode cX2_lostAfter 34 = .ok (.invokevirtual 188, 3) := by decide +kernel
theorem dX2_lostAfter_37 : decode cX2_lostAfter 37 = .ok (.ifCond .eq 6, 3) := by decide +kernel
theorem dX2_lostAfter_40 : decode cX2_lostAfter 40 = .ok (.iinc 2 1, 3) := by decide +kernel
theorem dX2_lostAfter_43 : decode cX2_lostAfter 43 = .ok (.iinc 3 1, 3) := by decide +kernel
theorem dX2_lostAfter_46 : decode cX2_lostAfter 46 = .ok (.goto (-28), 3) := by decide +kernel
theorem dX2_lostAfter_49 : decode cX2_lostAfter 49 = .ok (.iload_n 2, 1) := by decide +kernel
theorem dX2_lostAfter_50 : decode cX2_lostAfter 50 = .ok (.ireturn, 1) := by decide +kernel
theorem dX2_agingBy_0 : decode cX2_agingBy 0 = .ok (.aload_n 0, 1) := by decide +kernel
theorem dX2_agingBy_1 : decode cX2_agingBy 1 = .ok (.iload_n 1, 1) := by decide +kernel
theorem dX2_agingBy_2 : decode cX2_agingBy 2 = .ok (.invokevirtual 90, 3) := by decide +kernel
theorem dX2_agingBy_5 : decode cX2_agingBy 5 = .ok (.ifCond .ne 6, 3) := by decide +kernel
theorem dX2_agingBy_8 : decode cX2_agingBy 8 = .ok (.bipush (-2), 2) := by decide +kernel
theorem dX2_agingBy_10 : decode cX2_agingBy 10 = .ok (.ireturn, 1) := by decide +kernel
theorem dX2_agingBy_11 : decode cX2_agingBy 11 = .ok (.aload_n 0, 1) := by decide +kernel
theorem dX2_agingBy_12 : decode cX2_agingBy 12 = .ok (.getfield 31, 3) := by decide +kernel
theorem dX2_agingBy_15 : decode cX2_agingBy 15 = .ok (.iload_n 1, 1) := by decide +kernel
theorem dX2_agingBy_16 : decode cX2_agingBy 16 = .ok (.iaload, 1) := by decide +kernel
theorem dX2_agingBy_17 : decode cX2_agingBy 17 = .ok (.istore_n 2, 1) := by decide +kernel
theorem dX2_agingBy_18 : decode cX2_agingBy 18 = .ok (.iload_n 2, 1) := by decide +kernel
theorem dX2_agingBy_19 : decode cX2_agingBy 19 = .ok (.bipush 30, 2) := by decide +kernel
theorem dX2_agingBy_21 : decode cX2_agingBy 21 = .ok (.if_icmp .lt 6, 3) := by decide +kernel
theorem dX2_agingBy_24 : decode cX2_agingBy 24 = .ok (.bipush (-5), 2) := by decide +kernel
theorem dX2_agingBy_26 : decode cX2_agingBy 26 = .ok (.ireturn, 1) := by decide +kernel
theorem dX2_agingBy_27 : decode cX2_agingBy 27 = .ok (.iconst 0, 1) := by decide +kernel
theorem dX2_agingBy_28 : decode cX2_agingBy 28 = .ok (.istore_n 3, 1) := by decide +kernel
theorem dX2_agingBy_29 : decode cX2_agingBy 29 = .ok (.iconst 0, 1) := by decide +kernel
theorem dX2_agingBy_30 : decode cX2_agingBy 30 = .ok (.istore 4, 2) := by decide +kernel
theorem dX2_agingBy_32 : decode cX2_agingBy 32 = .ok (.iload 4, 2) := by decide +kernel
theorem dX2_agingBy_34 : decode cX2_agingBy 34 = .ok (.aload_n 0, 1) := by decide +kernel
theorem dX2_agingBy_35 : decode cX2_agingBy 35 = .ok (.getfield 21, 3) := by decide +kernel
theorem dX2_agingBy_38 : decode cX2_agingBy 38 = .ok (.if_icmp .ge 65, 3) := by decide +kernel
theorem dX2_agingBy_41 : decode cX2_agingBy 41 = .ok (.aload_n 0, 1) := by decide +kernel
theorem dX2_agingBy_42 : decode cX2_agingBy 42 = .ok (.getfield 43, 3) := by decide +kernel
theorem dX2_agingBy_45 : decode cX2_agingBy 45 = .ok (.iload 4, 2) := by decide +kernel
theorem dX2_agingBy_47 : decode cX2_agingBy 47 = .ok (.iaload, 1) := by decide +kernel
theorem dX2_agingBy_48 : decode cX2_agingBy 48 = .ok (.iload_n 1, 1) := by decide +kernel
theorem dX2_agingBy_49 : decode cX2_agingBy 49 = .ok (.if_icmp .ne 48, 3) := by decide +kernel
theorem dX2_agingBy_52 : decode cX2_agingBy 52 = .ok (.aload_n 0, 1) := by decide +kernel
theorem dX2_agingBy_53 : decode cX2_agingBy 53 = .ok (.iload 4, 2) := by decide +kernel
theorem dX2_agingBy_55 : decode cX2_agingBy 55 = .ok (.invokevirtual 210, 3) := by decide +kernel
theorem dX2_agingBy_58 : decode cX2_agingBy 58 = .ok (.ifCond .eq 39, 3) := by decide +kernel
theorem dX2_agingBy_61 : decode cX2_agingBy 61 = .ok (.aload_n 0, 1) := by decide +kernel
theorem dX2_agingBy_62 : decode cX2_agingBy 62 = .ok (.iload_n 1, 1) := by decide +kernel
theorem dX2_agingBy_63 : decode cX2_agingBy 63 = .ok (.iload_n 2, 1) := by decide +kernel
theorem dX2_agingBy_64 : decode cX2_agingBy 64 = .ok (.iconst 1, 1) := by decide +kernel
theorem dX2_agingBy_65 : decode cX2_agingBy 65 = .ok (.iadd, 1) := by decide +kernel
theorem dX2_agingBy_66 : decode cX2_agingBy 66 = .ok (.aload_n 0, 1) := by decide +kernel
theorem dX2_agingBy_67 : decode cX2_agingBy 67 = .ok (.getfield 46, 3) := by decide +kernel
theorem dX2_agingBy_70 : decode cX2_agingBy 70 = .ok (.iload 4, 2) := by decide +kernel
theorem dX2_agingBy_72 : decode cX2_agingBy 72 = .ok (.iaload, 1) := by decide +kernel
theorem dX2_agingBy_73 : decode cX2_agingBy 73 = .ok (.aload_n 0, 1) := by decide +kernel
theorem dX2_agingBy_74 : decode cX2_agingBy 74 = .ok (.getfield 49, 3) := by decide +kernel
theorem dX2_agingBy_77 : decode cX2_agingBy 77 = .ok (.iload 4, 2) := by decide +kernel
theorem dX2_agingBy_79 : decode cX2_agingBy 79 = .ok (.iaload, 1) := by decide +kernel
theorem dX2_agingBy_80 : decode cX2_agingBy 80 = .ok (.invokevirtual 164, 3) := by decide +kernel
theorem dX2_agingBy_83 : decode cX2_agingBy 83 = .ok (.istore 5, 2) := by decide +kernel
theorem dX2_agingBy_85 : decode cX2_agingBy 85 = .ok (.iload_n 3, 1) := by decide +kernel
theorem dX2_agingBy_86 : decode cX2_agingBy 86 = .ok (.aload_n 0, 1) := by decide +kernel
theorem dX2_agingBy_87 : decode cX2_agingBy 87 = .ok (.iload 4, 2) := by decide +kernel
theorem dX2_agingBy_89 : decode cX2_agingBy 89 = .ok (.invokevirtual 131, 3) := by decide +kernel
theorem dX2_agingBy_92 : decode cX2_agingBy 92 = .ok (.iload 5, 2) := by decide +kernel
theorem dX2_agingBy_94 : decode cX2_agingBy 94 = .ok (.isub, 1) := by decide +kernel
theorem dX2_agingBy_95 : decode cX2_agingBy 95 = .ok (.iadd, 1) := by decide +kernel
theorem dX2_agingBy_96 : decode cX2_agingBy 96 = .ok (.istore_n 3, 1) := by decide +kernel
theorem dX2_agingBy_97 : decode cX2_agingBy 97 = .ok (.iinc 4 1, 3) := by decide +kernel
theorem dX2_agingBy_100 : decode cX2_agingBy 100 = .ok (.goto (-68), 3) := by decide +kernel
theorem dX2_agingBy_103 : decode cX2_agingBy 103 = .ok (.iload_n 3, 1) := by decide +kernel
theorem dX2_agingBy_104 : decode cX2_agingBy 104 = .ok (.ireturn, 1) := by decide +kernel
theorem dX2_servedStudents_0 : decode cX2_servedStudents 0 = .ok (.iconst 0, 1) := by decide +kernel
theorem dX2_servedStudents_1 : decode cX2_servedStudents 1 = .ok (.istore_n 1, 1) := by decide +kernel
theorem dX2_servedStudents_2 : decode cX2_servedStudents 2 = .ok (.iconst 0, 1) := by decide +kernel
theorem dX2_servedStudents_3 : decode cX2_servedStudents 3 = .ok (.istore_n 2, 1) := by decide +kernel
theorem dX2_servedStudents_4 : decode cX2_servedStudents 4 = .ok (.iload_n 2, 1) := by decide +kernel
theorem dX2_servedStudents_5 : decode cX2_servedStudents 5 = .ok (.aload_n 0, 1) := by decide +kernel
theorem dX2_servedStudents_6 : decode cX2_servedStudents 6 = .ok (.getfield 15, 3) := by decide +kernel
theorem dX2_servedStudents_9 : decode cX2_servedStudents 9 = .ok (.if_icmp .ge 17, 3) := by decide +kernel
theorem dX2_servedStudents_12 : decode cX2_servedStudents 12 = .ok (.iload_n 1, 1) := by decide +kernel
theorem dX2_servedStudents_13 : decode cX2_servedStudents 13 = .ok (.aload_n 0, 1) := by decide +kernel
theorem dX2_servedStudents_14 : decode cX2_servedStudents 14 = .ok (.iload_n 2, 1) := by decide +kernel
theorem dX2_servedStudents_15 : decode cX2_servedStudents 15 = .ok (.invokevirtual 213, 3) := by decide +kernel
theorem dX2_servedStudents_18 : decode cX2_servedStudents 18 = .ok (.iadd, 1) := by decide +kernel
theorem dX2_servedStudents_19 : decode cX2_servedStudents 19 = .ok (.istore_n 1, 1) := by decide +kernel
theorem dX2_servedStudents_20 : decode cX2_servedStudents 20 = .ok (.iinc 2 1, 3) := by decide +kernel
theorem dX2_servedStudents_23 : decode cX2_servedStudents 23 = .ok (.goto (-19), 3) := by decide +kernel
theorem dX2_servedStudents_26 : decode cX2_servedStudents 26 = .ok (.iload_n 1, 1) := by decide +kernel
theorem dX2_servedStudents_27 : decode cX2_servedStudents 27 = .ok (.ireturn, 1) := by decide +kernel
theorem dX2_servedWith_0 : decode cX2_servedWith 0 = .ok (.iconst 0, 1) := by decide +kernel
theorem dX2_servedWith_1 : decode cX2_servedWith 1 = .ok (.istore_n 2, 1) := by decide +kernel
theorem dX2_servedWith_2 : decode cX2_servedWith 2 = .ok (.iconst 0, 1) := by decide +kernel
theorem dX2_servedWith_3 : decode cX2_servedWith 3 = .ok (.istore_n 3, 1) := by decide +kernel
theorem dX2_servedWith_4 : decode cX2_servedWith 4 = .ok (.bipush 30, 2) := by decide +kernel
theorem dX2_servedWith_6 : decode cX2_servedWith 6 = .ok (.istore 4, 2) := by decide +kernel
theorem dX2_servedWith_8 : decode cX2_servedWith 8 = .ok (.iload 4, 2) := by decide +kernel
theorem dX2_servedWith_10 : decode cX2_servedWith 10 = .ok (.iconst 1, 1) := by decide +kernel
theorem dX2_servedWith_11 : decode cX2_servedWith 11 = .ok (.if_icmp .lt 42, 3) := by decide +kernel
theorem dX2_servedWith_14 : decode cX2_servedWith 14 = .ok (.iload_n 3, 1) := by decide +kernel
theorem dX2_servedWith_15 : decode cX2_servedWith 15 = .ok (.aload_n 0, 1) := by decide +kernel
theorem dX2_servedWith_16 : decode cX2_servedWith 16 = .ok (.iload_n 1, 1) := by decide +kernel
theorem dX2_servedWith_17 : decode cX2_servedWith 17 = .ok (.iload 4, 2) := by decide +kernel
theorem dX2_servedWith_19 : decode cX2_servedWith 19 = .ok (.invokevirtual 216, 3) := by decide +kernel
theorem dX2_servedWith_22 : decode cX2_servedWith 22 = .ok (.iadd, 1) := by decide +kernel
theorem dX2_servedWith_23 : decode cX2_servedWith 23 = .ok (.istore_n 3, 1) := by decide +kernel
theorem dX2_servedWith_24 : decode cX2_servedWith 24 = .ok (.iload_n 3, 1) := by decide +kernel
theorem dX2_servedWith_25 : decode cX2_servedWith 25 = .ok (.aload_n 0, 1) := by decide +kernel
theorem dX2_servedWith_26 : decode cX2_servedWith 26 = .ok (.iload_n 1, 1) := by decide +kernel
theorem dX2_servedWith_27 : decode cX2_servedWith 27 = .ok (.iload 4, 2) := by decide +kernel
theorem dX2_servedWith_29 : decode cX2_servedWith 29 = .ok (.invokevirtual 219, 3) := by decide +kernel
theorem dX2_servedWith_32 : decode cX2_servedWith 32 = .ok (.invokestatic 71, 3) := by decide +kernel
theorem dX2_servedWith_35 : decode cX2_servedWith 35 = .ok (.istore 5, 2) := by decide +kernel
theorem dX2_servedWith_37 : decode cX2_servedWith 37 = .ok (.iload_n 3, 1) := by decide +kernel
theorem dX2_servedWith_38 : decode cX2_servedWith 38 = .ok (.iload 5, 2) := by decide +kernel
theorem dX2_servedWith_40 : decode cX2_servedWith 40 = .ok (.isub, 1) := by decide +kernel
theorem dX2_servedWith_41 : decode cX2_servedWith 41 = .ok (.istore_n 3, 1) := by decide +kernel
theorem dX2_servedWith_42 : decode cX2_servedWith 42 = .ok (.iload_n 2, 1) := by decide +kernel
theorem dX2_servedWith_43 : decode cX2_servedWith 43 = .ok (.iload 5, 2) := by decide +kernel
theorem dX2_servedWith_45 : decode cX2_servedWith 45 = .ok (.iadd, 1) := by decide +kernel
theorem dX2_servedWith_46 : decode cX2_servedWith 46 = .ok (.istore_n 2, 1) := by decide +kernel
theorem dX2_servedWith_47 : decode cX2_servedWith 47 = .ok (.iinc 4 (-1), 3) := by decide +kernel
theorem dX2_servedWith_50 : decode cX2_servedWith 50 = .ok (.goto (-42), 3) := by decide +kernel
theorem dX2_servedWith_53 : decode cX2_servedWith 53 = .ok (.iload_n 2, 1) := by decide +kernel
theorem dX2_servedWith_54 : decode cX2_servedWith 54 = .ok (.ireturn, 1) := by decide +kernel
theorem dX2_stockOfEdition_0 : decode cX2_stockOfEdition 0 = .ok (.iconst 0, 1) := by decide +kernel
theorem dX2_stockOfEdition_1 : decode cX2_stockOfEdition 1 = .ok (.istore_n 3, 1) := by decide +kernel
theorem dX2_stockOfEdition_2 : decode cX2_stockOfEdition 2 = .ok (.iconst 0, 1) := by decide +kernel
theorem dX2_stockOfEdition_3 : decode cX2_stockOfEdition 3 = .ok (.istore 4, 2) := by decide +kernel
theorem dX2_stockOfEdition_5 : decode cX2_stockOfEdition 5 = .ok (.iload 4, 2) := by decide +kernel
theorem dX2_stockOfEdition_7 : decode cX2_stockOfEdition 7 = .ok (.aload_n 0, 1) := by decide +kernel
theorem dX2_stockOfEdition_8 : decode cX2_stockOfEdition 8 = .ok (.getfield 21, 3) := by decide +kernel
theorem dX2_stockOfEdition_11 : decode cX2_stockOfEdition 11 = .ok (.if_icmp .ge 44, 3) := by decide +kernel
theorem dX2_stockOfEdition_14 : decode cX2_stockOfEdition 14 = .ok (.aload_n 0, 1) := by decide +kernel
theorem dX2_stockOfEdition_15 : decode cX2_stockOfEdition 15 = .ok (.getfield 43, 3) := by decide +kernel
theorem dX2_stockOfEdition_18 : decode cX2_stockOfEdition 18 = .ok (.iload 4, 2) := by decide +kernel
theorem dX2_stockOfEdition_20 : decode cX2_stockOfEdition 20 = .ok (.iaload, 1) := by decide +kernel
theorem dX2_stockOfEdition_21 : decode cX2_stockOfEdition 21 = .ok (.iload_n 1, 1) := by decide +kernel
theorem dX2_stockOfEdition_22 : decode cX2_stockOfEdition 22 = .ok (.if_icmp .ne 27, 3) := by decide +kernel
theorem dX2_stockOfEdition_25 : decode cX2_stockOfEdition 25 = .ok (.aload_n 0, 1) := by decide +kernel
theorem dX2_stockOfEdition_26 : decode cX2_stockOfEdition 26 = .ok (.getfield 46, 3) := by decide +kernel
theorem dX2_stockOfEdition_29 : decode cX2_stockOfEdition 29 = .ok (.iload 4, 2) := by decide +kernel
theorem dX2_stockOfEdition_31 : decode cX2_stockOfEdition 31 = .ok (.iaload, 1) := by decide +kernel
theorem dX2_stockOfEdition_32 : decode cX2_stockOfEdition 32 = .ok (.iload_n 2, 1) := by decide +kernel
theorem dX2_stockOfEdition_33 : decode cX2_stockOfEdition 33 = .ok (.if_icmp .ne 16, 3) := by decide +kernel
theorem dX2_stockOfEdition_36 : decode cX2_stockOfEdition 36 = .ok (.aload_n 0, 1) := by decide +kernel
theorem dX2_stockOfEdition_37 : decode cX2_stockOfEdition 37 = .ok (.getfield 52, 3) := by decide +kernel
theorem dX2_stockOfEdition_40 : decode cX2_stockOfEdition 40 = .ok (.iload 4, 2) := by decide +kernel
theorem dX2_stockOfEdition_42 : decode cX2_stockOfEdition 42 = .ok (.iaload, 1) := by decide +kernel
theorem dX2_stockOfEdition_43 : decode cX2_stockOfEdition 43 = .ok (.ifCond .ne 6, 3) := by decide +kernel
theorem dX2_stockOfEdition_46 : decode cX2_stockOfEdition 46 = .ok (.iinc 3 1, 3) := by decide +kernel
theorem dX2_stockOfEdition_49 : decode cX2_stockOfEdition 49 = .ok (.iinc 4 1, 3) := by decide +kernel
theorem dX2_stockOfEdition_52 : decode cX2_stockOfEdition 52 = .ok (.goto (-47), 3) := by decide +kernel
theorem dX2_stockOfEdition_55 : decode cX2_stockOfEdition 55 = .ok (.iload_n 3, 1) := by decide +kernel
theorem dX2_stockOfEdition_56 : decode cX2_stockOfEdition 56 = .ok (.ireturn, 1) := by decide +kernel
theorem dX2_studentsFrom_0 : decode cX2_studentsFrom 0 = .ok (.iconst 0, 1) := by decide +kernel
theorem dX2_studentsFrom_1 : decode cX2_studentsFrom 1 = .ok (.istore_n 3, 1) := by decide +kernel
theorem dX2_studentsFrom_2 : decode cX2_studentsFrom 2 = .ok (.iconst 0, 1) := by decide +kernel
theorem dX2_studentsFrom_3 : decode cX2_studentsFrom 3 = .ok (.istore 4, 2) := by decide +kernel
theorem dX2_studentsFrom_5 : decode cX2_studentsFrom 5 = .ok (.iload 4, 2) := by decide +kernel
theorem dX2_studentsFrom_7 : decode cX2_studentsFrom 7 = .ok (.aload_n 0, 1) := by decide +kernel
theorem dX2_studentsFrom_8 : decode cX2_studentsFrom 8 = .ok (.getfield 18, 3) := by decide +kernel
theorem dX2_studentsFrom_11 : decode cX2_studentsFrom 11 = .ok (.if_icmp .ge 41, 3) := by decide +kernel
theorem dX2_studentsFrom_14 : decode cX2_studentsFrom 14 = .ok (.aload_n 0, 1) := by decide +kernel
theorem dX2_studentsFrom_15 : decode cX2_studentsFrom 15 = .ok (.getfield 34, 3) := by decide +kernel
theorem dX2_studentsFrom_18 : decode cX2_studentsFrom 18 = .ok (.iload 4, 2) := by decide +kernel
theorem dX2_studentsFrom_20 : decode cX2_studentsFrom 20 = .ok (.iaload, 1) := by decide +kernel
theorem dX2_studentsFrom_21 : decode cX2_studentsFrom 21 = .ok (.iload_n 1, 1) := by decide +kernel
theorem dX2_studentsFrom_22 : decode cX2_studentsFrom 22 = .ok (.if_icmp .ne 24, 3) := by decide +kernel
theorem dX2_studentsFrom_25 : decode cX2_studentsFrom 25 = .ok (.aload_n 0, 1) := by decide +kernel
theorem dX2_studentsFrom_26 : decode cX2_studentsFrom 26 = .ok (.getfield 37, 3) := by decide +kernel
theorem dX2_studentsFrom_29 : decode cX2_studentsFrom 29 = .ok (.iload 4, 2) := by decide +kernel
theorem dX2_studentsFrom_31 : decode cX2_studentsFrom 31 = .ok (.iaload, 1) := by decide +kernel
theorem dX2_studentsFrom_32 : decode cX2_studentsFrom 32 = .ok (.iload_n 2, 1) := by decide +kernel
theorem dX2_studentsFrom_33 : decode cX2_studentsFrom 33 = .ok (.if_icmp .ne 13, 3) := by decide +kernel
theorem dX2_studentsFrom_36 : decode cX2_studentsFrom 36 = .ok (.iload_n 3, 1) := by decide +kernel
theorem dX2_studentsFrom_37 : decode cX2_studentsFrom 37 = .ok (.aload_n 0, 1) := by decide +kernel
theorem dX2_studentsFrom_38 : decode cX2_studentsFrom 38 = .ok (.getfield 40, 3) := by decide +kernel
theorem dX2_studentsFrom_41 : decode cX2_studentsFrom 41 = .ok (.iload 4, 2) := by decide +kernel
theorem dX2_studentsFrom_43 : decode cX2_studentsFrom 43 = .ok (.iaload, 1) := by decide +kernel
theorem dX2_studentsFrom_44 : decode cX2_studentsFrom 44 = .ok (.iadd, 1) := by decide +kernel
theorem dX2_studentsFrom_45 : decode cX2_studentsFrom 45 = .ok (.istore_n 3, 1) := by decide +kernel
theorem dX2_studentsFrom_46 : decode cX2_studentsFrom 46 = .ok (.iinc 4 1, 3) := by decide +kernel
theorem dX2_studentsFrom_49 : decode cX2_studentsFrom 49 = .ok (.goto (-44), 3) := by decide +kernel
theorem dX2_studentsFrom_52 : decode cX2_studentsFrom 52 = .ok (.iload_n 3, 1) := by decide +kernel
theorem dX2_studentsFrom_53 : decode cX2_studentsFrom 53 = .ok (.ireturn, 1) := by decide +kernel
theorem dX2_worthOf_0 : decode cX2_worthOf 0 = .ok (.aload_n 0, 1) := by decide +kernel
theorem dX2_worthOf_1 : decode cX2_worthOf 1 = .ok (.getfield 43, 3) := by decide +kernel
theorem dX2_worthOf_4 : decode cX2_worthOf 4 = .ok (.iload_n 1, 1) := by decide +kernel
theorem dX2_worthOf_5 : decode cX2_worthOf 5 = .ok (.iaload, 1) := by decide +kernel
theorem dX2_worthOf_6 : decode cX2_worthOf 6 = .ok (.istore_n 2, 1) := by decide +kernel
theorem dX2_worthOf_7 : decode cX2_worthOf 7 = .ok (.aload_n 0, 1) := by decide +kernel
theorem dX2_worthOf_8 : decode cX2_worthOf 8 = .ok (.iload_n 2, 1) := by decide +kernel
theorem dX2_worthOf_9 : decode cX2_worthOf 9 = .ok (.aload_n 0, 1) := by decide +kernel
theorem dX2_worthOf_10 : decode cX2_worthOf 10 = .ok (.getfield 31, 3) := by decide +kernel
theorem dX2_worthOf_13 : decode cX2_worthOf 13 = .ok (.iload_n 2, 1) := by decide +kernel
theorem dX2_worthOf_14 : decode cX2_worthOf 14 = .ok (.iaload, 1) := by decide +kernel
theorem dX2_worthOf_15 : decode cX2_worthOf 15 = .ok (.aload_n 0, 1) := by decide +kernel
theorem dX2_worthOf_16 : decode cX2_worthOf 16 = .ok (.getfield 46, 3) := by decide +kernel
theorem dX2_worthOf_19 : decode cX2_worthOf 19 = .ok (.iload_n 1, 1) := by decide +kernel
theorem dX2_worthOf_20 : decode cX2_worthOf 20 = .ok (.iaload, 1) := by decide +kernel
theorem dX2_worthOf_21 : decode cX2_worthOf 21 = .ok (.aload_n 0, 1) := by decide +kernel
theorem dX2_worthOf_22 : decode cX2_worthOf 22 = .ok (.getfield 49, 3) := by decide +kernel
theorem dX2_worthOf_25 : decode cX2_worthOf 25 = .ok (.iload_n 1, 1) := by decide +kernel
theorem dX2_worthOf_26 : decode cX2_worthOf 26 = .ok (.iaload, 1) := by decide +kernel
theorem dX2_worthOf_27 : decode cX2_worthOf 27 = .ok (.invokevirtual 164, 3) := by decide +kernel
theorem dX2_worthOf_30 : decode cX2_worthOf 30 = .ok (.ireturn, 1) := by decide +kernel
theorem dX2_worthWithGrade_0 : decode cX2_worthWithGrade 0 = .ok (.aload_n 0, 1) := by decide +kernel
theorem dX2_worthWithGrade_1 : decode cX2_worthWithGrade 1 = .ok (.getfield 43, 3) := by decide +kernel
theorem dX2_worthWithGrade_4 : decode cX2_worthWithGrade 4 = .ok (.iload_n 1, 1) := by decide +kernel
theorem dX2_worthWithGrade_5 : decode cX2_worthWithGrade 5 = .ok (.iaload, 1) := by decide +kernel
theorem dX2_worthWithGrade_6 : decode cX2_worthWithGrade 6 = .ok (.istore_n 3, 1) := by decide +kernel
theorem dX2_worthWithGrade_7 : decode cX2_worthWithGrade 7 = .ok (.aload_n 0, 1) := by decide +kernel
theorem dX2_worthWithGrade_8 : decode cX2_worthWithGrade 8 = .ok (.iload_n 3, 1) := by decide +kernel
theorem dX2_worthWithGrade_9 : decode cX2_worthWithGrade 9 = .ok (.aload_n 0, 1) := by decide +kernel
theorem dX2_worthWithGrade_10 : decode cX2_worthWithGrade 10 = .ok (.getfield 31, 3) := by decide +kernel
theorem dX2_worthWithGrade_13 : decode cX2_worthWithGrade 13 = .ok (.iload_n 3, 1) := by decide +kernel
theorem dX2_worthWithGrade_14 : decode cX2_worthWithGrade 14 = .ok (.iaload, 1) := by decide +kernel
theorem dX2_worthWithGrade_15 : decode cX2_worthWithGrade 15 = .ok (.aload_n 0, 1) := by decide +kernel
theorem dX2_worthWithGrade_16 : decode cX2_worthWithGrade 16 = .ok (.getfield 46, 3) := by decide +kernel
theorem dX2_worthWithGrade_19 : decode cX2_worthWithGrade 19 = .ok (.iload_n 1, 1) := by decide +kernel
theorem dX2_worthWithGrade_20 : decode cX2_worthWithGrade 20 = .ok (.iaload, 1) := by decide +kernel
theorem dX2_worthWithGrade_21 : decode cX2_worthWithGrade 21 = .ok (.iload_n 2, 1) := by decide +kernel
theorem dX2_worthWithGrade_22 : decode cX2_worthWithGrade 22 = .ok (.invokevirtual 164, 3) := by decide +kernel
theorem dX2_worthWithGrade_25 : decode cX2_worthWithGrade 25 = .ok (.ireturn, 1) := by decide +kernel
theorem dX2_worthBy_0 : decode cX2_worthBy 0 = .ok (.aload_n 0, 1) := by decide +kernel
theorem dX2_worthBy_1 : decode cX2_worthBy 1 = .ok (.getfield 28, 3) := by decide +kernel
theorem dX2_worthBy_4 : decode cX2_worthBy 4 = .ok (.iload_n 1, 1) := by decide +kernel
theorem dX2_worthBy_5 : decode cX2_worthBy 5 = .ok (.iaload, 1) := by decide +kernel
theorem dX2_worthBy_6 : decode cX2_worthBy 6 = .ok (.bipush 100, 2) := by decide +kernel
theorem dX2_worthBy_8 : decode cX2_worthBy 8 = .ok (.bipush 20, 2) := by decide +kernel
theorem dX2_worthBy_10 : decode cX2_worthBy 10 = .ok (.iload 4, 2) := by decide +kernel
theorem dX2_worthBy_12 : decode cX2_worthBy 12 = .ok (.imul, 1) := by decide +kernel
theorem dX2_worthBy_13 : decode cX2_worthBy 13 = .ok (.isub, 1) := by decide +kernel
theorem dX2_worthBy_14 : decode cX2_worthBy 14 = .ok (.imul, 1) := by decide +kernel
theorem dX2_worthBy_15 : decode cX2_worthBy 15 = .ok (.bipush 100, 2) := by decide +kernel
theorem dX2_worthBy_17 : decode cX2_worthBy 17 = .ok (.idiv, 1) := by decide +kernel
theorem dX2_worthBy_18 : decode cX2_worthBy 18 = .ok (.istore 5, 2) := by decide +kernel
theorem dX2_worthBy_20 : decode cX2_worthBy 20 = .ok (.iconst 0, 1) := by decide +kernel
theorem dX2_worthBy_21 : decode cX2_worthBy 21 = .ok (.iload_n 2, 1) := by decide +kernel
theorem dX2_worthBy_22 : decode cX2_worthBy 22 = .ok (.iload_n 3, 1) := by decide +kernel
theorem dX2_worthBy_23 : decode cX2_worthBy 23 = .ok (.isub, 1) := by decide +kernel
theorem dX2_worthBy_24 : decode cX2_worthBy 24 = .ok (.invokestatic 116, 3) := by decide +kernel
theorem dX2_worthBy_27 : decode cX2_worthBy 27 = .ok (.istore 6, 2) := by decide +kernel
theorem dX2_worthBy_29 : decode cX2_worthBy 29 = .ok (.bipush 100, 2) := by decide +kernel
theorem dX2_worthBy_31 : decode cX2_worthBy 31 = .ok (.aload_n 0, 1) := by decide +kernel
theorem dX2_worthBy_32 : decode cX2_worthBy 32 = .ok (.getfield 24, 3) := by decide +kernel
theorem dX2_worthBy_35 : decode cX2_worthBy 35 = .ok (.iconst 3, 1) := by decide +kernel
theorem dX2_worthBy_36 : decode cX2_worthBy 36 = .ok (.iaload, 1) := by decide +kernel
theorem dX2_worthBy_37 : decode cX2_worthBy 37 = .ok (.iload 6, 2) := by decide +kernel
theorem dX2_worthBy_39 : decode cX2_worthBy 39 = .ok (.imul, 1) := by decide +kernel
theorem dX2_worthBy_40 : decode cX2_worthBy 40 = .ok (.invokestatic 71, 3) := by decide +kernel
theorem dX2_worthBy_43 : decode cX2_worthBy 43 = .ok (.istore 7, 2) := by decide +kernel
theorem dX2_worthBy_45 : decode cX2_worthBy 45 = .ok (.iload 5, 2) := by decide +kernel
theorem dX2_worthBy_47 : decode cX2_worthBy 47 = .ok (.iload 5, 2) := by decide +kernel
theorem dX2_worthBy_49 : decode cX2_worthBy 49 = .ok (.iload 7, 2) := by decide +kernel
theorem dX2_worthBy_51 : decode cX2_worthBy 51 = .ok (.imul, 1) := by decide +kernel
theorem dX2_worthBy_52 : decode cX2_worthBy 52 = .ok (.bipush 100, 2) := by decide +kernel
theorem dX2_worthBy_54 : decode cX2_worthBy 54 = .ok (.idiv, 1) := by decide +kernel
theorem dX2_worthBy_55 : decode cX2_worthBy 55 = .ok (.isub, 1) := by decide +kernel
theorem dX2_worthBy_56 : decode cX2_worthBy 56 = .ok (.ireturn, 1) := by decide +kernel
theorem dX2_rentCost_0 : decode cX2_rentCost 0 = .ok (.aload_n 0, 1) := by decide +kernel
theorem dX2_rentCost_1 : decode cX2_rentCost 1 = .ok (.iload_n 1, 1) := by decide +kernel
theorem dX2_rentCost_2 : decode cX2_rentCost 2 = .ok (.invokevirtual 131, 3) := by decide +kernel
theorem dX2_rentCost_5 : decode cX2_rentCost 5 = .ok (.bipush 30, 2) := by decide +kernel
theorem dX2_rentCost_7 : decode cX2_rentCost 7 = .ok (.imul, 1) := by decide +kernel
theorem dX2_rentCost_8 : decode cX2_rentCost 8 = .ok (.bipush 100, 2) := by decide +kernel
theorem dX2_rentCost_10 : decode cX2_rentCost 10 = .ok (.idiv, 1) := by decide +kernel
theorem dX2_rentCost_11 : decode cX2_rentCost 11 = .ok (.ireturn, 1) := by decide +kernel
theorem dX2_saleCost_0 : decode cX2_saleCost 0 = .ok (.aload_n 0, 1) := by decide +kernel
theorem dX2_saleCost_1 : decode cX2_saleCost 1 = .ok (.iload_n 1, 1) := by decide +kernel
theorem dX2_saleCost_2 : decode cX2_saleCost 2 = .ok (.invokevirtual 131, 3) := by decide +kernel
theorem dX2_saleCost_5 : decode cX2_saleCost 5 = .ok (.bipush 75, 2) := by decide +kernel
theorem dX2_saleCost_7 : decode cX2_saleCost 7 = .ok (.imul, 1) := by decide +kernel
theorem dX2_saleCost_8 : decode cX2_saleCost 8 = .ok (.bipush 100, 2) := by decide +kernel
theorem dX2_saleCost_10 : decode cX2_saleCost 10 = .ok (.idiv, 1) := by decide +kernel
theorem dX2_saleCost_11 : decode cX2_saleCost 11 = .ok (.ireturn, 1) := by decide +kernel
theorem dX2_demandOf_0 : decode cX2_demandOf 0 = .ok (.iconst 0, 1) := by decide +kernel
theorem dX2_demandOf_1 : decode cX2_demandOf 1 = .ok (.istore_n 2, 1) := by decide +kernel
theorem dX2_demandOf_2 : decode cX2_demandOf 2 = .ok (.iconst 0, 1) := by decide +kernel
theorem dX2_demandOf_3 : decode cX2_demandOf 3 = .ok (.istore_n 3, 1) := by decide +kernel
theorem dX2_demandOf_4 : decode cX2_demandOf 4 = .ok (.iload_n 3, 1) := by decide +kernel
theorem dX2_demandOf_5 : decode cX2_demandOf 5 = .ok (.aload_n 0, 1) := by decide +kernel
theorem dX2_demandOf_6 : decode cX2_demandOf 6 = .ok (.getfield 18, 3) := by decide +kernel
theorem dX2_demandOf_9 : decode cX2_demandOf 9 = .ok (.if_icmp .ge 28, 3) := by decide +kernel
theorem dX2_demandOf_12 : decode cX2_demandOf 12 = .ok (.aload_n 0, 1) := by decide +kernel
theorem dX2_demandOf_13 : decode cX2_demandOf 13 = .ok (.getfield 34, 3) := by decide +kernel
theorem dX2_demandOf_16 : decode cX2_demandOf 16 = .ok (.iload_n 3, 1) := by decide +kernel
theorem dX2_demandOf_17 : decode cX2_demandOf 17 = .ok (.iaload, 1) := by decide +kernel
theorem dX2_demandOf_18 : decode cX2_demandOf 18 = .ok (.iload_n 1, 1) := by decide +kernel
theorem dX2_demandOf_19 : decode cX2_demandOf 19 = .ok (.if_icmp .ne 12, 3) := by decide +kernel
theorem dX2_demandOf_22 : decode cX2_demandOf 22 = .ok (.iload_n 2, 1) := by decide +kernel
theorem dX2_demandOf_23 : decode cX2_demandOf 23 = .ok (.aload_n 0, 1) := by decide +kernel
theorem dX2_demandOf_24 : decode cX2_demandOf 24 = .ok (.getfield 40, 3) := by decide +kernel
theorem dX2_demandOf_27 : decode cX2_demandOf 27 = .ok (.iload_n 3, 1) := by decide +kernel
theorem dX2_demandOf_28 : decode cX2_demandOf 28 = .ok (.iaload, 1) := by decide +kernel
theorem dX2_demandOf_29 : decode cX2_demandOf 29 = .ok (.iadd, 1) := by decide +kernel
theorem dX2_demandOf_30 : decode cX2_demandOf 30 = .ok (.istore_n 2, 1) := by decide +kernel
theorem dX2_demandOf_31 : decode cX2_demandOf 31 = .ok (.iinc 3 1, 3) := by decide +kernel
theorem dX2_demandOf_34 : decode cX2_demandOf 34 = .ok (.goto (-30), 3) := by decide +kernel
theorem dX2_demandOf_37 : decode cX2_demandOf 37 = .ok (.iload_n 2, 1) := by decide +kernel
theorem dX2_demandOf_38 : decode cX2_demandOf 38 = .ok (.ireturn, 1) := by decide +kernel
theorem dX2_supplyOf_0 : decode cX2_supplyOf 0 = .ok (.iconst 0, 1) := by decide +kernel
theorem dX2_supplyOf_1 : decode cX2_supplyOf 1 = .ok (.istore_n 2, 1) := by decide +kernel
theorem dX2_supplyOf_2 : decode cX2_supplyOf 2 = .ok (.iconst 0, 1) := by decide +kernel
theorem dX2_supplyOf_3 : decode cX2_supplyOf 3 = .ok (.istore_n 3, 1) := by decide +kernel
theorem dX2_supplyOf_4 : decode cX2_supplyOf 4 = .ok (.iload_n 3, 1) := by decide +kernel
theorem dX2_supplyOf_5 : decode cX2_supplyOf 5 = .ok (.aload_n 0, 1) := by decide +kernel
theorem dX2_supplyOf_6 : decode cX2_supplyOf 6 = .ok (.getfield 21, 3) := by decide +kernel
theorem dX2_supplyOf_9 : decode cX2_supplyOf 9 = .ok (.if_icmp .ge 67, 3) := by decide +kernel
theorem dX2_supplyOf_12 : decode cX2_supplyOf 12 = .ok (.aload_n 0, 1) := by decide +kernel
theorem dX2_supplyOf_13 : decode cX2_supplyOf 13 = .ok (.getfield 52, 3) := by decide +kernel
theorem dX2_supplyOf_16 : decode cX2_supplyOf 16 = .ok (.iload_n 3, 1) := by decide +kernel
theorem dX2_supplyOf_17 : decode cX2_supplyOf 17 = .ok (.iaload, 1) := by decide +kernel
theorem dX2_supplyOf_18 : decode cX2_supplyOf 18 = .ok (.ifCond .eq 13, 3) := by decide +kernel
theorem dX2_supplyOf_21 : decode cX2_supplyOf 21 = .ok (.aload_n 0, 1) := by decide +kernel
theorem dX2_supplyOf_22 : decode cX2_supplyOf 22 = .ok (.getfield 52, 3) := by decide +kernel
theorem dX2_supplyOf_25 : decode cX2_supplyOf 25 = .ok (.iload_n 3, 1) := by decide +kernel
theorem dX2_supplyOf_26 : decode cX2_supplyOf 26 = .ok (.iaload, 1) := by decide +kernel
theorem dX2_supplyOf_27 : decode cX2_supplyOf 27 = .ok (.iconst 1, 1) := by decide +kernel
theorem dX2_supplyOf_28 : decode cX2_supplyOf 28 = .ok (.if_icmp .ne 7, 3) := by decide +kernel
theorem dX2_supplyOf_31 : decode cX2_supplyOf 31 = .ok (.iconst 1, 1) := by decide +kernel
theorem dX2_supplyOf_32 : decode cX2_supplyOf 32 = .ok (.goto 4, 3) := by decide +kernel
theorem dX2_supplyOf_35 : decode cX2_supplyOf 35 = .ok (.iconst 0, 1) := by decide +kernel
theorem dX2_supplyOf_36 : decode cX2_supplyOf 36 = .ok (.istore 4, 2) := by decide +kernel
theorem dX2_supplyOf_38 : decode cX2_supplyOf 38 = .ok (.aload_n 0, 1) := by decide +kernel
theorem dX2_supplyOf_39 : decode cX2_supplyOf 39 = .ok (.getfield 43, 3) := by decide +kernel
theorem dX2_supplyOf_42 : decode cX2_supplyOf 42 = .ok (.iload_n 3, 1) := by decide +kernel
theorem dX2_supplyOf_43 : decode cX2_supplyOf 43 = .ok (.iaload, 1) := by decide +kernel
theorem dX2_supplyOf_44 : decode cX2_supplyOf 44 = .ok (.iload_n 1, 1) := by decide +kernel
theorem dX2_supplyOf_45 : decode cX2_supplyOf 45 = .ok (.if_icmp .ne 25, 3) := by decide +kernel
theorem dX2_supplyOf_48 : decode cX2_supplyOf 48 = .ok (.iload 4, 2) := by decide +kernel
theorem dX2_supplyOf_50 : decode cX2_supplyOf 50 = .ok (.ifCond .eq 20, 3) := by decide +kernel
theorem dX2_supplyOf_53 : decode cX2_supplyOf 53 = .ok (.aload_n 0, 1) := by decide +kernel
theorem dX2_supplyOf_54 : decode cX2_supplyOf 54 = .ok (.iload_n 1, 1) := by decide +kernel
theorem dX2_supplyOf_55 : decode cX2_supplyOf 55 = .ok (.aload_n 0, 1) := by decide +kernel
theorem dX2_supplyOf_56 : decode cX2_supplyOf 56 = .ok (.getfield 46, 3) := by decide +kernel
theorem dX2_supplyOf_59 : decode cX2_supplyOf 59 = .ok (.iload_n 3, 1) := by decide +kernel
theorem dX2_supplyOf_60 : decode cX2_supplyOf 60 = .ok (.iaload, 1) := by decide +kernel
theorem dX2_supplyOf_61 : decode cX2_supplyOf 61 = .ok (.invokevirtual 140, 3) := by decide +kernel
theorem dX2_supplyOf_64 : decode cX2_supplyOf 64 = .ok (.ifCond .eq 6, 3) := by decide +kernel
theorem dX2_supplyOf_67 : decode cX2_supplyOf 67 = .ok (.iinc 2 1, 3) := by decide +kernel
theorem dX2_supplyOf_70 : decode cX2_supplyOf 70 = .ok (.iinc 3 1, 3) := by decide +kernel
theorem dX2_supplyOf_73 : decode cX2_supplyOf 73 = .ok (.goto (-69), 3) := by decide +kernel
theorem dX2_supplyOf_76 : decode cX2_supplyOf 76 = .ok (.iload_n 2, 1) := by decide +kernel
theorem dX2_supplyOf_77 : decode cX2_supplyOf 77 = .ok (.ireturn, 1) := by decide +kernel
theorem dX2_isOfUse_0 : decode cX2_isOfUse 0 = .ok (.iconst 0, 1) := by decide +kernel
theorem dX2_isOfUse_1 : decode cX2_isOfUse 1 = .ok (.istore_n 3, 1) := by decide +kernel
theorem dX2_isOfUse_2 : decode cX2_isOfUse 2 = .ok (.iload_n 3, 1) := by decide +kernel
theorem dX2_isOfUse_3 : decode cX2_isOfUse 3 = .ok (.aload_n 0, 1) := by decide +kernel
theorem dX2_isOfUse_4 : decode cX2_isOfUse 4 = .ok (.getfield 18, 3) := by decide +kernel
theorem dX2_isOfUse_7 : decode cX2_isOfUse 7 = .ok (.if_icmp .ge 21, 3) := by decide +kernel
theorem dX2_isOfUse_10 : decode cX2_isOfUse 10 = .ok (.aload_n 0, 1) := by decide +kernel
theorem dX2_isOfUse_11 : decode cX2_isOfUse 11 = .ok (.iload_n 3, 1) := by decide +kernel
theorem dX2_isOfUse_12 : decode cX2_isOfUse 12 = .ok (.iload_n 1, 1) := by decide +kernel
theorem dX2_isOfUse_13 : decode cX2_isOfUse 13 = .ok (.iload_n 2, 1) := by decide +kernel
theorem dX2_isOfUse_14 : decode cX2_isOfUse 14 = .ok (.invokevirtual 222, 3) := by decide +kernel
theorem dX2_isOfUse_17 : decode cX2_isOfUse 17 = .ok (.ifCond .eq 5, 3) := by decide +kernel
theorem dX2_isOfUse_20 : decode cX2_isOfUse 20 = .ok (.iconst 1, 1) := by decide +kernel
theorem dX2_isOfUse_21 : decode cX2_isOfUse 21 = .ok (.ireturn, 1) := by decide +kernel
theorem dX2_isOfUse_22 : decode cX2_isOfUse 22 = .ok (.iinc 3 1, 3) := by decide +kernel
theorem dX2_isOfUse_25 : decode cX2_isOfUse 25 = .ok (.goto (-23), 3) := by decide +kernel
theorem dX2_isOfUse_28 : decode cX2_isOfUse 28 = .ok (.iconst 0, 1) := by decide +kernel
theorem dX2_isOfUse_29 : decode cX2_isOfUse 29 = .ok (.ireturn, 1) := by decide +kernel
theorem dX2_takes_0 : decode cX2_takes 0 = .ok (.aload_n 0, 1) := by decide +kernel
theorem dX2_takes_1 : decode cX2_takes 1 = .ok (.getfield 34, 3) := by decide +kernel
theorem dX2_takes_4 : decode cX2_takes 4 = .ok (.iload_n 1, 1) := by decide +kernel
theorem dX2_takes_5 : decode cX2_takes 5 = .ok (.iaload, 1) := by decide +kernel
theorem dX2_takes_6 : decode cX2_takes 6 = .ok (.iload_n 2, 1) := by decide +kernel
theorem dX2_takes_7 : decode cX2_takes 7 = .ok (.if_icmp .ne 17, 3) := by decide +kernel
theorem dX2_takes_10 : decode cX2_takes 10 = .ok (.iload_n 3, 1) := by decide +kernel
theorem dX2_takes_11 : decode cX2_takes 11 = .ok (.aload_n 0, 1) := by decide +kernel
theorem dX2_takes_12 : decode cX2_takes 12 = .ok (.getfield 37, 3) := by decide +kernel
theorem dX2_takes_15 : decode cX2_takes 15 = .ok (.iload_n 1, 1) := by decide +kernel
theorem dX2_takes_16 : decode cX2_takes 16 = .ok (.iaload, 1) := by decide +kernel
theorem dX2_takes_17 : decode cX2_takes 17 = .ok (.if_icmp .lt 7, 3) := by decide +kernel
theorem dX2_takes_20 : decode cX2_takes 20 = .ok (.iconst 1, 1) := by decide +kernel
theorem dX2_takes_21 : decode cX2_takes 21 = .ok (.goto 4, 3) := by decide +kernel
theorem dX2_takes_24 : decode cX2_takes 24 = .ok (.iconst 0, 1) := by decide +kernel
theorem dX2_takes_25 : decode cX2_takes 25 = .ok (.ireturn, 1) := by decide +kernel
theorem dX2_suits_0 : decode cX2_suits 0 = .ok (.aload_n 0, 1) := by decide +kernel
theorem dX2_suits_1 : decode cX2_suits 1 = .ok (.iload_n 2, 1) := by decide +kernel
theorem dX2_suits_2 : decode cX2_suits 2 = .ok (.aload_n 0, 1) := by decide +kernel
theorem dX2_suits_3 : decode cX2_suits 3 = .ok (.getfield 43, 3) := by decide +kernel
theorem dX2_suits_6 : decode cX2_suits 6 = .ok (.iload_n 1, 1) := by decide +kernel
theorem dX2_suits_7 : decode cX2_suits 7 = .ok (.iaload, 1) := by decide +kernel
theorem dX2_suits_8 : decode cX2_suits 8 = .ok (.aload_n 0, 1) := by decide +kernel
theorem dX2_suits_9 : decode cX2_suits 9 = .ok (.getfield 46, 3) := by decide +kernel
theorem dX2_suits_12 : decode cX2_suits 12 = .ok (.iload_n 1, 1) := by decide +kernel
theorem dX2_suits_13 : decode cX2_suits 13 = .ok (.iaload, 1) := by decide +kernel
theorem dX2_suits_14 : decode cX2_suits 14 = .ok (.invokevirtual 222, 3) := by decide +kernel
theorem dX2_suits_17 : decode cX2_suits 17 = .ok (.ireturn, 1) := by decide +kernel
theorem dX2_stockFor_0 : decode cX2_stockFor 0 = .ok (.iconst 0, 1) := by decide +kernel
theorem dX2_stockFor_1 : decode cX2_stockFor 1 = .ok (.istore_n 2, 1) := by decide +kernel
theorem dX2_stockFor_2 : decode cX2_stockFor 2 = .ok (.iconst 0, 1) := by decide +kernel
theorem dX2_stockFor_3 : decode cX2_stockFor 3 = .ok (.istore_n 3, 1) := by decide +kernel
theorem dX2_stockFor_4 : decode cX2_stockFor 4 = .ok (.iload_n 3, 1) := by decide +kernel
theorem dX2_stockFor_5 : decode cX2_stockFor 5 = .ok (.aload_n 0, 1) := by decide +kernel
theorem dX2_stockFor_6 : decode cX2_stockFor 6 = .ok (.getfield 21, 3) := by decide +kernel
theorem dX2_stockFor_9 : decode cX2_stockFor 9 = .ok (.if_icmp .ge 30, 3) := by decide +kernel
theorem dX2_stockFor_12 : decode cX2_stockFor 12 = .ok (.aload_n 0, 1) := by decide +kernel
theorem dX2_stockFor_13 : decode cX2_stockFor 13 = .ok (.getfield 52, 3) := by decide +kernel
theorem dX2_stockFor_16 : decode cX2_stockFor 16 = .ok (.iload_n 3, 1) := by decide +kernel
theorem dX2_stockFor_17 : decode cX2_stockFor 17 = .ok (.iaload, 1) := by decide +kernel
theorem dX2_stockFor_18 : decode cX2_stockFor 18 = .ok (.ifCond .ne 15, 3) := by decide +kernel
theorem dX2_stockFor_21 : decode cX2_stockFor 21 = .ok (.aload_n 0, 1) := by decide +kernel
theorem dX2_stockFor_22 : decode cX2_stockFor 22 = .ok (.iload_n 3, 1) := by decide +kernel
theorem dX2_stockFor_23 : decode cX2_stockFor 23 = .ok (.iload_n 1, 1) := by decide +kernel
theorem dX2_stockFor_24 : decode cX2_stockFor 24 = .ok (.invokevirtual 191, 3) := by decide +kernel
theorem dX2_stockFor_27 : decode cX2_stockFor 27 = .ok (.ifCond .eq 6, 3) := by decide +kernel
theorem dX2_stockFor_30 : decode cX2_stockFor 30 = .ok (.iinc 2 1, 3) := by decide +kernel
theorem dX2_stockFor_33 : decode cX2_stockFor 33 = .ok (.iinc 3 1, 3) := by decide +kernel
theorem dX2_stockFor_36 : decode cX2_stockFor 36 = .ok (.goto (-32), 3) := by decide +kernel
theorem dX2_stockFor_39 : decode cX2_stockFor 39 = .ok (.iload_n 2, 1) := by decide +kernel
theorem dX2_stockFor_40 : decode cX2_stockFor 40 = .ok (.ireturn, 1) := by decide +kernel
theorem dX2_copiesIn_0 : decode cX2_copiesIn 0 = .ok (.iconst 0, 1) := by decide +kernel
theorem dX2_copiesIn_1 : decode cX2_copiesIn 1 = .ok (.istore_n 2, 1) := by decide +kernel
theorem dX2_copiesIn_2 : decode cX2_copiesIn 2 = .ok (.iconst 0, 1) := by decide +kernel
theorem dX2_copiesIn_3 : decode cX2_copiesIn 3 = .ok (.istore_n 3, 1) := by decide +kernel
theorem dX2_copiesIn_4 : decode cX2_copiesIn 4 = .ok (.iload_n 3, 1) := by decide +kernel
theorem dX2_copiesIn_5 : decode cX2_copiesIn 5 = .ok (.aload_n 0, 1) := by decide +kernel
theorem dX2_copiesIn_6 : decode cX2_copiesIn 6 = .ok (.getfield 21, 3) := by decide +kernel
theorem dX2_copiesIn_9 : decode cX2_copiesIn 9 = .ok (.if_icmp .ge 22, 3) := by decide +kernel
theorem dX2_copiesIn_12 : decode cX2_copiesIn 12 = .ok (.aload_n 0, 1) := by decide +kernel
theorem dX2_copiesIn_13 : decode cX2_copiesIn 13 = .ok (.getfield 52, 3) := by decide +kernel
theorem dX2_copiesIn_16 : decode cX2_copiesIn 16 = .ok (.iload_n 3, 1) := by decide +kernel
theorem dX2_copiesIn_17 : decode cX2_copiesIn 17 = .ok (.iaload, 1) := by decide +kernel
theorem dX2_copiesIn_18 : decode cX2_copiesIn 18 = .ok (.iload_n 1, 1) := by decide +kernel
theorem dX2_copiesIn_19 : decode cX2_copiesIn 19 = .ok (.if_icmp .ne 6, 3) := by decide +kernel
theorem dX2_copiesIn_22 : decode cX2_copiesIn 22 = .ok (.iinc 2 1, 3) := by decide +kernel
theorem dX2_copiesIn_25 : decode cX2_copiesIn 25 = .ok (.iinc 3 1, 3) := by decide +kernel
theorem dX2_copiesIn_28 : decode cX2_copiesIn 28 = .ok (.goto (-24), 3) := by decide +kernel
theorem dX2_copiesIn_31 : decode cX2_copiesIn 31 = .ok (.iload_n 2, 1) := by decide +kernel
theorem dX2_copiesIn_32 : decode cX2_copiesIn 32 = .ok (.ireturn, 1) := by decide +kernel
theorem dX2_copiesOf_0 : decode cX2_copiesOf 0 = .ok (.iconst 0, 1) := by decide +kernel
theorem dX2_copiesOf_1 : decode cX2_copiesOf 1 = .ok (.istore_n 2, 1) := by decide +kernel
theorem dX2_copiesOf_2 : decode cX2_copiesOf 2 = .ok (.iconst 0, 1) := by decide +kernel
theorem dX2_copiesOf_3 : decode cX2_copiesOf 3 = .ok (.istore_n 3, 1) := by decide +kernel
theorem dX2_copiesOf_4 : decode cX2_copiesOf 4 = .ok (.iload_n 3, 1) := by decide +kernel
theorem dX2_copiesOf_5 : decode cX2_copiesOf 5 = .ok (.aload_n 0, 1) := by decide +kernel
theorem dX2_copiesOf_6 : decode cX2_copiesOf 6 = .ok (.getfield 21, 3) := by decide +kernel
theorem dX2_copiesOf_9 : decode cX2_copiesOf 9 = .ok (.if_icmp .ge 22, 3) := by decide +kernel
theorem dX2_copiesOf_12 : decode cX2_copiesOf 12 = .ok (.aload_n 0, 1) := by decide +kernel
theorem dX2_copiesOf_13 : decode cX2_copiesOf 13 = .ok (.getfield 43, 3) := by decide +kernel
theorem dX2_copiesOf_16 : decode cX2_copiesOf 16 = .ok (.iload_n 3, 1) := by decide +kernel
theorem dX2_copiesOf_17 : decode cX2_copiesOf 17 = .ok (.iaload, 1) := by decide +kernel
theorem dX2_copiesOf_18 : decode cX2_copiesOf 18 = .ok (.iload_n 1, 1) := by decide +kernel
theorem dX2_copiesOf_19 : decode cX2_copiesOf 19 = .ok (.if_icmp .ne 6, 3) := by decide +kernel
theorem dX2_copiesOf_22 : decode cX2_copiesOf 22 = .ok (.iinc 2 1, 3) := by decide +kernel
theorem dX2_copiesOf_25 : decode cX2_copiesOf 25 = .ok (.iinc 3 1, 3) := by decide +kernel
theorem dX2_copiesOf_28 : decode cX2_copiesOf 28 = .ok (.goto (-24), 3) := by decide +kernel
theorem dX2_copiesOf_31 : decode cX2_copiesOf 31 = .ok (.iload_n 2, 1) := by decide +kernel
theorem dX2_copiesOf_32 : decode cX2_copiesOf 32 = .ok (.ireturn, 1) := by decide +kernel
theorem dX2_copiesOfIn_0 : decode cX2_copiesOfIn 0 = .ok (.iconst 0, 1) := by decide +kernel
theorem dX2_copiesOfIn_1 : decode cX2_copiesOfIn 1 = .ok (.istore_n 3, 1) := by decide +kernel
theorem dX2_copiesOfIn_2 : decode cX2_copiesOfIn 2 = .ok (.iconst 0, 1) := by decide +kernel
theorem dX2_copiesOfIn_3 : decode cX2_copiesOfIn 3 = .ok (.istore 4, 2) := by decide +kernel
theorem dX2_copiesOfIn_5 : decode cX2_copiesOfIn 5 = .ok (.iload 4, 2) := by decide +kernel
theorem dX2_copiesOfIn_7 : decode cX2_copiesOfIn 7 = .ok (.aload_n 0, 1) := by decide +kernel
theorem dX2_copiesOfIn_8 : decode cX2_copiesOfIn 8 = .ok (.getfield 21, 3) := by decide +kernel
theorem dX2_copiesOfIn_11 : decode cX2_copiesOfIn 11 = .ok (.if_icmp .ge 34, 3) := by decide +kernel
theorem dX2_copiesOfIn_14 : decode cX2_copiesOfIn 14 = .ok (.aload_n 0, 1) := by decide +kernel
theorem dX2_copiesOfIn_15 : decode cX2_copiesOfIn 15 = .ok (.getfield 43, 3) := by decide +kernel
theorem dX2_copiesOfIn_18 : decode cX2_copiesOfIn 18 = .ok (.iload 4, 2) := by decide +kernel
theorem dX2_copiesOfIn_20 : decode cX2_copiesOfIn 20 = .ok (.iaload, 1) := by decide +kernel
theorem dX2_copiesOfIn_21 : decode cX2_copiesOfIn 21 = .ok (.iload_n 1, 1) := by decide +kernel
theorem dX2_copiesOfIn_22 : decode cX2_copiesOfIn 22 = .ok (.if_icmp .ne 17, 3) := by decide +kernel
theorem dX2_copiesOfIn_25 : decode cX2_copiesOfIn 25 = .ok (.aload_n 0, 1) := by decide +kernel
theorem dX2_copiesOfIn_26 : decode cX2_copiesOfIn 26 = .ok (.getfield 52, 3) := by decide +kernel
theorem dX2_copiesOfIn_29 : decode cX2_copiesOfIn 29 = .ok (.iload 4, 2) := by decide +kernel
theorem dX2_copiesOfIn_31 : decode cX2_copiesOfIn 31 = .ok (.iaload, 1) := by decide +kernel
theorem dX2_copiesOfIn_32 : decode cX2_copiesOfIn 32 = .ok (.iload_n 2, 1) := by decide +kernel
theorem dX2_copiesOfIn_33 : decode cX2_copiesOfIn 33 = .ok (.if_icmp .ne 6, 3) := by decide +kernel
theorem dX2_copiesOfIn_36 : decode cX2_copiesOfIn 36 = .ok (.iinc 3 1, 3) := by decide +kernel
theorem dX2_copiesOfIn_39 : decode cX2_copiesOfIn 39 = .ok (.iinc 4 1, 3) := by decide +kernel
theorem dX2_copiesOfIn_42 : decode cX2_copiesOfIn 42 = .ok (.goto (-37), 3) := by decide +kernel
theorem dX2_copiesOfIn_45 : decode cX2_copiesOfIn 45 = .ok (.iload_n 3, 1) := by decide +kernel
theorem dX2_copiesOfIn_46 : decode cX2_copiesOfIn 46 = .ok (.ireturn, 1) := by decide +kernel
theorem dX2_isOwned_0 : decode cX2_isOwned 0 = .ok (.aload_n 0, 1) := by decide +kernel
theorem dX2_isOwned_1 : decode cX2_isOwned 1 = .ok (.getfield 52, 3) := by decide +kernel
theorem dX2_isOwned_4 : decode cX2_isOwned 4 = .ok (.iload_n 1, 1) := by decide +kernel
theorem dX2_isOwned_5 : decode cX2_isOwned 5 = .ok (.iaload, 1) := by decide +kernel
theorem dX2_isOwned_6 : decode cX2_isOwned 6 = .ok (.ifCond .eq 23, 3) := by decide +kernel
theorem dX2_isOwned_9 : decode cX2_isOwned 9 = .ok (.aload_n 0, 1) := by decide +kernel
theorem dX2_isOwned_10 : decode cX2_isOwned 10 = .ok (.getfield 52, 3) := by decide +kernel
theorem dX2_isOwned_13 : decode cX2_isOwned 13 = .ok (.iload_n 1, 1) := by decide +kernel
theorem dX2_isOwned_14 : decode cX2_isOwned 14 = .ok (.iaload, 1) := by decide +kernel
theorem dX2_isOwned_15 : decode cX2_isOwned 15 = .ok (.iconst 1, 1) := by decide +kernel
theorem dX2_isOwned_16 : decode cX2_isOwned 16 = .ok (.if_icmp .eq 13, 3) := by decide +kernel
theorem dX2_isOwned_19 : decode cX2_isOwned 19 = .ok (.aload_n 0, 1) := by decide +kernel
theorem dX2_isOwned_20 : decode cX2_isOwned 20 = .ok (.getfield 52, 3) := by decide +kernel
theorem dX2_isOwned_23 : decode cX2_isOwned 23 = .ok (.iload_n 1, 1) := by decide +kernel
theorem dX2_isOwned_24 : decode cX2_isOwned 24 = .ok (.iaload, 1) := by decide +kernel
theorem dX2_isOwned_25 : decode cX2_isOwned 25 = .ok (.iconst 4, 1) := by decide +kernel
theorem dX2_isOwned_26 : decode cX2_isOwned 26 = .ok (.if_icmp .ne 7, 3) := by decide +kernel
theorem dX2_isOwned_29 : decode cX2_isOwned 29 = .ok (.iconst 1, 1) := by decide +kernel
theorem dX2_isOwned_30 : decode cX2_isOwned 30 = .ok (.goto 4, 3) := by decide +kernel
theorem dX2_isOwned_33 : decode cX2_isOwned 33 = .ok (.iconst 0, 1) := by decide +kernel
theorem dX2_isOwned_34 : decode cX2_isOwned 34 = .ok (.ireturn, 1) := by decide +kernel
theorem dX2_hasTitle_0 : decode cX2_hasTitle 0 = .ok (.iload_n 1, 1) := by decide +kernel
theorem dX2_hasTitle_1 : decode cX2_hasTitle 1 = .ok (.iconst 0, 1) := by decide +kernel
theorem dX2_hasTitle_2 : decode cX2_hasTitle 2 = .ok (.aload_n 0, 1) := by decide +kernel
theorem dX2_hasTitle_3 : decode cX2_hasTitle 3 = .ok (.getfield 15, 3) := by decide +kernel
theorem dX2_hasTitle_6 : decode cX2_hasTitle 6 = .ok (.iconst 1, 1) := by decide +kernel
theorem dX2_hasTitle_7 : decode cX2_hasTitle 7 = .ok (.isub, 1) := by decide +kernel
theorem dX2_hasTitle_8 : decode cX2_hasTitle 8 = .ok (.invokestatic 93, 3) := by decide +kernel
theorem dX2_hasTitle_11 : decode cX2_hasTitle 11 = .ok (.ireturn, 1) := by decide +kernel
theorem dX2_hasCourse_0 : decode cX2_hasCourse 0 = .ok (.iload_n 1, 1) := by decide +kernel
theorem dX2_hasCourse_1 : decode cX2_hasCourse 1 = .ok (.iconst 0, 1) := by decide +kernel
theorem dX2_hasCourse_2 : decode cX2_hasCourse 2 = .ok (.aload_n 0, 1) := by decide +kernel
theorem dX2_hasCourse_3 : decode cX2_hasCourse 3 = .ok (.getfield 18, 3) := by decide +kernel
theorem dX2_hasCourse_6 : decode cX2_hasCourse 6 = .ok (.iconst 1, 1) := by decide +kernel
theorem dX2_hasCourse_7 : decode cX2_hasCourse 7 = .ok (.isub, 1) := by decide +kernel
theorem dX2_hasCourse_8 : decode cX2_hasCourse 8 = .ok (.invokestatic 93, 3) := by decide +kernel
theorem dX2_hasCourse_11 : decode cX2_hasCourse 11 = .ok (.ireturn, 1) := by decide +kernel
theorem dX2_hasCopy_0 : decode cX2_hasCopy 0 = .ok (.iload_n 1, 1) := by decide +kernel
theorem dX2_hasCopy_1 : decode cX2_hasCopy 1 = .ok (.iconst 0, 1) := by decide +kernel
theorem dX2_hasCopy_2 : decode cX2_hasCopy 2 = .ok (.aload_n 0, 1) := by decide +kernel
theorem dX2_hasCopy_3 : decode cX2_hasCopy 3 = .ok (.getfield 21, 3) := by decide +kernel
theorem dX2_hasCopy_6 : decode cX2_hasCopy 6 = .ok (.iconst 1, 1) := by decide +kernel
theorem dX2_hasCopy_7 : decode cX2_hasCopy 7 = .ok (.isub, 1) := by decide +kernel
theorem dX2_hasCopy_8 : decode cX2_hasCopy 8 = .ok (.invokestatic 93, 3) := by decide +kernel
theorem dX2_hasCopy_11 : decode cX2_hasCopy 11 = .ok (.ireturn, 1) := by decide +kernel
theorem dX2_hasCustomer_0 : decode cX2_hasCustomer 0 = .ok (.iload_n 0, 1) := by decide +kernel
theorem dX2_hasCustomer_1 : decode cX2_hasCustomer 1 = .ok (.iconst 0, 1) := by decide +kernel
theorem dX2_hasCustomer_2 : decode cX2_hasCustomer 2 = .ok (.bipush 7, 2) := by decide +kernel
theorem dX2_hasCustomer_4 : decode cX2_hasCustomer 4 = .ok (.invokestatic 93, 3) := by decide +kernel
theorem dX2_hasCustomer_7 : decode cX2_hasCustomer 7 = .ok (.ireturn, 1) := by decide +kernel
theorem dX2_isPrice_0 : decode cX2_isPrice 0 = .ok (.iload_n 0, 1) := by decide +kernel
theorem dX2_isPrice_1 : decode cX2_isPrice 1 = .ok (.bipush 100, 2) := by decide +kernel
theorem dX2_isPrice_3 : decode cX2_isPrice 3 = .ok (.sipush 20000, 3) := by decide +kernel
theorem dX2_isPrice_6 : decode cX2_isPrice 6 = .ok (.invokestatic 93, 3) := by decide +kernel
theorem dX2_isPrice_9 : decode cX2_isPrice 9 = .ok (.ireturn, 1) := by decide +kernel
theorem dX2_isEdition_0 : decode cX2_isEdition 0 = .ok (.iload_n 0, 1) := by decide +kernel
theorem dX2_isEdition_1 : decode cX2_isEdition 1 = .ok (.iconst 1, 1) := by decide +kernel
theorem dX2_isEdition_2 : decode cX2_isEdition 2 = .ok (.bipush 30, 2) := by decide +kernel
theorem dX2_isEdition_4 : decode cX2_isEdition 4 = .ok (.invokestatic 93, 3) := by decide +kernel
theorem dX2_isEdition_7 : decode cX2_isEdition 7 = .ok (.ireturn, 1) := by decide +kernel
theorem dX2_isGrade_0 : decode cX2_isGrade 0 = .ok (.iload_n 0, 1) := by decide +kernel
theorem dX2_isGrade_1 : decode cX2_isGrade 1 = .ok (.iconst 0, 1) := by decide +kernel
theorem dX2_isGrade_2 : decode cX2_isGrade 2 = .ok (.iconst 4, 1) := by decide +kernel
theorem dX2_isGrade_3 : decode cX2_isGrade 3 = .ok (.invokestatic 93, 3) := by decide +kernel
theorem dX2_isGrade_6 : decode cX2_isGrade 6 = .ok (.ireturn, 1) := by decide +kernel
theorem dX2_isBetween_0 : decode cX2_isBetween 0 = .ok (.iload_n 0, 1) := by decide +kernel
theorem dX2_isBetween_1 : decode cX2_isBetween 1 = .ok (.iload_n 1, 1) := by decide +kernel
theorem dX2_isBetween_2 : decode cX2_isBetween 2 = .ok (.if_icmp .lt 12, 3) := by decide +kernel
theorem dX2_isBetween_5 : decode cX2_isBetween 5 = .ok (.iload_n 0, 1) := by decide +kernel
theorem dX2_isBetween_6 : decode cX2_isBetween 6 = .ok (.iload_n 2, 1) := by decide +kernel
theorem dX2_isBetween_7 : decode cX2_isBetween 7 = .ok (.if_icmp .gt 7, 3) := by decide +kernel
theorem dX2_isBetween_10 : decode cX2_isBetween 10 = .ok (.iconst 1, 1) := by decide +kernel
theorem dX2_isBetween_11 : decode cX2_isBetween 11 = .ok (.goto 4, 3) := by decide +kernel
theorem dX2_isBetween_14 : decode cX2_isBetween 14 = .ok (.iconst 0, 1) := by decide +kernel
theorem dX2_isBetween_15 : decode cX2_isBetween 15 = .ok (.ireturn, 1) := by decide +kernel
theorem dX3_init_0 : decode cX3_init 0 = .ok (.aload_n 0, 1) := by decide +kernel
theorem dX3_init_1 : decode cX3_init 1 = .ok (.invokespecial 1, 3) := by decide +kernel
theorem dX3_init_4 : decode cX3_init 4 = .ok (.aload_n 0, 1) := by decide +kernel
theorem dX3_init_5 : decode cX3_init 5 = .ok (.new 7, 3) := by decide +kernel
theorem dX3_init_8 : decode cX3_init 8 = .ok (.dup, 1) := by decide +kernel
theorem dX3_init_9 : decode cX3_init 9 = .ok (.invokespecial 9, 3) := by decide +kernel
theorem dX3_init_12 : decode cX3_init 12 = .ok (.putfield 10, 3) := by decide +kernel
theorem dX3_init_15 : decode cX3_init 15 = .ok (.aload_n 0, 1) := by decide +kernel
theorem dX3_init_16 : decode cX3_init 16 = .ok (.new 16, 3) := by decide +kernel
theorem dX3_init_19 : decode cX3_init 19 = .ok (.dup, 1) := by decide +kernel
theorem dX3_init_20 : decode cX3_init 20 = .ok (.invokespecial 18, 3) := by decide +kernel
theorem dX3_init_23 : decode cX3_init 23 = .ok (.putfield 19, 3) := by decide +kernel
theorem dX3_init_26 : decode cX3_init 26 = .ok (.aload_n 0, 1) := by decide +kernel
theorem dX3_init_27 : decode cX3_init 27 = .ok (.new 23, 3) := by decide +kernel
theorem dX3_init_30 : decode cX3_init 30 = .ok (.dup, 1) := by decide +kernel
theorem dX3_init_31 : decode cX3_init 31 = .ok (.invokespecial 25, 3) := by decide +kernel
theorem dX3_init_34 : decode cX3_init 34 = .ok (.putfield 26, 3) := by decide +kernel
theorem dX3_init_37 : decode cX3_init 37 = .ok (.return_, 1) := by decide +kernel
theorem dX3_addTitle_0 : decode cX3_addTitle 0 = .ok (.aload_n 0, 1) := by decide +kernel
theorem dX3_addTitle_1 : decode cX3_addTitle 1 = .ok (.getfield 19, 3) := by decide +kernel
theorem dX3_addTitle_4 : decode cX3_addTitle 4 = .ok (.aload_n 0, 1) := by decide +kernel
theorem dX3_addTitle_5 : decode cX3_addTitle 5 = .ok (.getfield 10, 3) := by decide +kernel
theorem dX3_addTitle_8 : decode cX3_addTitle 8 = .ok (.invokevirtual 30, 3) := by decide +kernel
theorem dX3_addTitle_11 : decode cX3_addTitle 11 = .ok (.aload_n 0, 1) := by decide +kernel
theorem dX3_addTitle_12 : decode cX3_addTitle 12 = .ok (.getfield 19, 3) := by decide +kernel
theorem dX3_addTitle_15 : decode cX3_addTitle 15 = .ok (.aload_n 0, 1) := by decide +kernel
theorem dX3_addTitle_16 : decode cX3_addTitle 16 = .ok (.getfield 10, 3) := by decide +kernel
theorem dX3_addTitle_19 : decode cX3_addTitle 19 = .ok (.iload_n 1, 1) := by decide +kernel
theorem dX3_addTitle_20 : decode cX3_addTitle 20 = .ok (.iload_n 2, 1) := by decide +kernel
theorem dX3_addTitle_21 : decode cX3_addTitle 21 = .ok (.invokevirtual 34, 3) := by decide +kernel
theorem dX3_addTitle_24 : decode cX3_addTitle 24 = .ok (.invokevirtual 38, 3) := by decide +kernel
theorem dX3_addTitle_27 : decode cX3_addTitle 27 = .ok (.ireturn, 1) := by decide +kernel
theorem dX3_setPrice_0 : decode cX3_setPrice 0 = .ok (.aload_n 0, 1) := by decide +kernel
theorem dX3_setPrice_1 : decode cX3_setPrice 1 = .ok (.getfield 19, 3) := by decide +kernel
theorem dX3_setPrice_4 : decode cX3_setPrice 4 = .ok (.aload_n 0, 1) := by decide +kernel
theorem dX3_setPrice_5 : decode cX3_setPrice 5 = .ok (.getfield 10, 3) := by decide +kernel
theorem dX3_setPrice_8 : decode cX3_setPrice 8 = .ok (.invokevirtual 30, 3) := by decide +kernel
theorem dX3_setPrice_11 : decode cX3_setPrice 11 = .ok (.aload_n 0, 1) := by decide +kernel
theorem dX3_setPrice_12 : decode cX3_setPrice 12 = .ok (.getfield 19, 3) := by decide +kernel
theorem dX3_setPrice_15 : decode cX3_setPrice 15 = .ok (.aload_n 0, 1) := by decide +kernel
theorem dX3_setPrice_16 : decode cX3_setPrice 16 = .ok (.getfield 10, 3) := by decide +kernel
theorem dX3_setPrice_19 : decode cX3_setPrice 19 = .ok (.iload_n 1, 1) := by decide +kernel
theorem dX3_setPrice_20 : decode cX3_setPrice 20 = .ok (.iload_n 2, 1) := by decide +kernel
theorem dX3_setPrice_21 : decode cX3_setPrice 21 = .ok (.invokevirtual 42, 3) := by decide +kernel
theorem dX3_setPrice_24 : decode cX3_setPrice 24 = .ok (.invokevirtual 38, 3) := by decide +kernel
theorem dX3_setPrice_27 : decode cX3_setPrice 27 = .ok (.ireturn, 1) := by decide +kernel
theorem dX3_newEdition_0 : decode cX3_newEdition 0 = .ok (.aload_n 0, 1) := by decide +kernel
theorem dX3_newEdition_1 : decode cX3_newEdition 1 = .ok (.getfield 19, 3) := by decide +kernel
theorem dX3_newEdition_4 : decode cX3_newEdition 4 = .ok (.aload_n 0, 1) := by decide +kernel
theorem dX3_newEdition_5 : decode cX3_newEdition 5 = .ok (.getfield 10, 3) := by decide +kernel
theorem dX3_newEdition_8 : decode cX3_newEdition 8 = .ok (.invokevirtual 30, 3) := by decide +kernel
theorem dX3_newEdition_11 : decode cX3_newEdition 11 = .ok (.aload_n 0, 1) := by decide +kernel
theorem dX3_newEdition_12 : decode cX3_newEdition 12 = .ok (.getfield 19, 3) := by decide +kernel
theorem dX3_newEdition_15 : decode cX3_newEdition 15 = .ok (.aload_n 0, 1) := by decide +kernel
theorem dX3_newEdition_16 : decode cX3_newEdition 16 = .ok (.getfield 10, 3) := by decide +kernel
theorem dX3_newEdition_19 : decode cX3_newEdition 19 = .ok (.iload_n 1, 1) := by decide +kernel
theorem dX3_newEdition_20 : decode cX3_newEdition 20 = .ok (.invokevirtual 45, 3) := by decide +kernel
theorem dX3_newEdition_23 : decode cX3_newEdition 23 = .ok (.invokevirtual 38, 3) := by decide +kernel
theorem dX3_newEdition_26 : decode cX3_newEdition 26 = .ok (.ireturn, 1) := by decide +kernel
theorem dX3_addCourse_0 : decode cX3_addCourse 0 = .ok (.aload_n 0, 1) := by decide +kernel
theorem dX3_addCourse_1 : decode cX3_addCourse 1 = .ok (.getfield 19, 3) := by decide +kernel
theorem dX3_addCourse_4 : decode cX3_addCourse 4 = .ok (.aload_n 0, 1) := by decide +kernel
theorem dX3_addCourse_5 : decode cX3_addCourse 5 = .ok (.getfield 10, 3) := by decide +kernel
theorem dX3_addCourse_8 : decode cX3_addCourse 8 = .ok (.invokevirtual 30, 3) := by decide +kernel
theorem dX3_addCourse_11 : decode cX3_addCourse 11 = .ok (.aload_n 0, 1) := by decide +kernel
theorem dX3_addCourse_12 : decode cX3_addCourse 12 = .ok (.getfield 19, 3) := by decide +kernel
theorem dX3_addCourse_15 : decode cX3_addCourse 15 = .ok (.aload_n 0, 1) := by decide +kernel
theorem dX3_addCourse_16 : decode cX3_addCourse 16 = .ok (.getfield 10, 3) := by decide +kernel
theorem dX3_addCourse_19 : decode cX3_addCourse 19 = .ok (.iload_n 1, 1) := by decide +kernel
theorem dX3_addCourse_20 : decode cX3_addCourse 20 = .ok (.iload_n 2, 1) := by decide +kernel
theorem dX3_addCourse_21 : decode cX3_addCourse 21 = .ok (.iload_n 3, 1) := by decide +kernel
theorem dX3_addCourse_22 : decode cX3_addCourse 22 = .ok (.invokevirtual 48, 3) := by decide +kernel
theorem dX3_addCourse_25 : decode cX3_addCourse 25 = .ok (.invokevirtual 38, 3) := by decide +kernel
theorem dX3_addCourse_28 : decode cX3_addCourse 28 = .ok (.ireturn, 1) := by decide +kernel
theorem dX3_setCourse_0 : decode cX3_setCourse 0 = .ok (.aload_n 0, 1) := by decide +kernel
theorem dX3_setCourse_1 : decode cX3_setCourse 1 = .ok (.getfield 19, 3) := by decide +kernel
theorem dX3_setCourse_4 : decode cX3_setCourse 4 = .ok (.aload_n 0, 1) := by decide +kernel
theorem dX3_setCourse_5 : decode cX3_setCourse 5 = .ok (.getfield 10, 3) := by decide +kernel
theorem dX3_setCourse_8 : decode cX3_setCourse 8 = .ok (.invokevirtual 30, 3) := by decide +kernel
theorem dX3_setCourse_11 : decode cX3_setCourse 11 = .ok (.aload_n 0, 1) := by decide +kernel
theorem dX3_setCourse_12 : decode cX3_setCourse 12 = .ok (.getfield 19, 3) := by decide +kernel
theorem dX3_setCourse_15 : decode cX3_setCourse 15 = .ok (.aload_n 0, 1) := by decide +kernel
theorem dX3_setCourse_16 : decode cX3_setCourse 16 = .ok (.getfield 10, 3) := by decide +kernel
theorem dX3_setCourse_19 : decode cX3_setCourse 19 = .ok (.iload_n 1, 1) := by decide +kernel
theorem dX3_setCourse_20 : decode cX3_setCourse 20 = .ok (.iload_n 2, 1) := by decide +kernel
theorem dX3_setCourse_21 : decode cX3_setCourse 21 = .ok (.iload_n 3, 1) := by decide +kernel
theorem dX3_setCourse_22 : decode cX3_setCourse 22 = .ok (.invokevirtual 52, 3) := by decide +kernel
theorem dX3_setCourse_25 : decode cX3_setCourse 25 = .ok (.invokevirtual 38, 3) := by decide +kernel
theorem dX3_setCourse_28 : decode cX3_setCourse 28 = .ok (.ireturn, 1) := by decide +kernel
theorem dX3_set_0 : decode cX3_set 0 = .ok (.aload_n 0, 1) := by decide +kernel
theorem dX3_set_1 : decode cX3_set 1 = .ok (.getfield 19, 3) := by decide +kernel
theorem dX3_set_4 : decode cX3_set 4 = .ok (.aload_n 0, 1) := by decide +kernel
theorem dX3_set_5 : decode cX3_set 5 = .ok (.getfield 10, 3) := by decide +kernel
theorem dX3_set_8 : decode cX3_set 8 = .ok (.invokevirtual 30, 3) := by decide +kernel
theorem dX3_set_11 : decode cX3_set 11 = .ok (.aload_n 0, 1) := by decide +kernel
theorem dX3_set_12 : decode cX3_set 12 = .ok (.getfield 19, 3) := by decide +kernel
theorem dX3_set_15 : decode cX3_set 15 = .ok (.aload_n 0, 1) := by decide +kernel
theorem dX3_set_16 : decode cX3_set 16 = .ok (.getfield 10, 3) := by decide +kernel
theorem dX3_set_19 : decode cX3_set 19 = .ok (.iload_n 1, 1) := by decide +kernel
theorem dX3_set_20 : decode cX3_set 20 = .ok (.iload_n 2, 1) := by decide +kernel
theorem dX3_set_21 : decode cX3_set 21 = .ok (.invokevirtual 55, 3) := by decide +kernel
theorem dX3_set_24 : decode cX3_set 24 = .ok (.invokevirtual 38, 3) := by decide +kernel
theorem dX3_set_27 : decode cX3_set 27 = .ok (.ireturn, 1) := by decide +kernel
theorem dX3_count_0 : decode cX3_count 0 = .ok (.aload_n 0, 1) := by decide +kernel
theorem dX3_count_1 : decode cX3_count 1 = .ok (.getfield 10, 3) := by decide +kernel
theorem dX3_count_4 : decode cX3_count 4 = .ok (.iload_n 1, 1) := by decide +kernel
theorem dX3_count_5 : decode cX3_count 5 = .ok (.invokevirtual 58, 3) := by decide +kernel
theorem dX3_count_8 : decode cX3_count 8 = .ok (.ireturn, 1) := by decide +kernel
theorem dX3_title_0 : decode cX3_title 0 = .ok (.aload_n 0, 1) := by decide +kernel
theorem dX3_title_1 : decode cX3_title 1 = .ok (.getfield 10, 3) := by decide +kernel
theorem dX3_title_4 : decode cX3_title 4 = .ok (.iload_n 1, 1) := by decide +kernel
theorem dX3_title_5 : decode cX3_title 5 = .ok (.iload_n 2, 1) := by decide +kernel
theorem dX3_title_6 : decode cX3_title 6 = .ok (.invokevirtual 61, 3) := by decide +kernel
theorem dX3_title_9 : decode cX3_title 9 = .ok (.ireturn, 1) := by decide +kernel
theorem dX3_course_0 : decode cX3_course 0 = .ok (.aload_n 0, 1) := by decide +kernel
theorem dX3_course_1 : decode cX3_course 1 = .ok (.getfield 10, 3) := by decide +kernel
theorem dX3_course_4 : decode cX3_course 4 = .ok (.iload_n 1, 1) := by decide +kernel
theorem dX3_course_5 : decode cX3_course 5 = .ok (.iload_n 2, 1) := by decide +kernel
theorem dX3_course_6 : decode cX3_course 6 = .ok (.invokevirtual 64, 3) := by decide +kernel
theorem dX3_course_9 : decode cX3_course 9 = .ok (.ireturn, 1) := by decide +kernel
theorem dX3_copy_0 : decode cX3_copy 0 = .ok (.aload_n 0, 1) := by decide +kernel
theorem dX3_copy_1 : decode cX3_copy 1 = .ok (.getfield 10, 3) := by decide +kernel
theorem dX3_copy_4 : decode cX3_copy 4 = .ok (.iload_n 1, 1) := by decide +kernel
theorem dX3_copy_5 : decode cX3_copy 5 = .ok (.iload_n 2, 1) := by decide +kernel
theorem dX3_copy_6 : decode cX3_copy 6 = .ok (.invokevirtual 67, 3) := by decide +kernel
theorem dX3_copy_9 : decode cX3_copy 9 = .ok (.ireturn, 1) := by decide +kernel
theorem dX3_book_0 : decode cX3_book 0 = .ok (.aload_n 0, 1) := by decide +kernel
theorem dX3_book_1 : decode cX3_book 1 = .ok (.getfield 10, 3) := by decide +kernel
theorem dX3_book_4 : decode cX3_book 4 = .ok (.iload_n 1, 1) := by decide +kernel
theorem dX3_book_5 : decode cX3_book 5 = .ok (.invokevirtual 70, 3) := by decide +kernel
theorem dX3_book_8 : decode cX3_book 8 = .ok (.ireturn, 1) := by decide +kernel
theorem dX3_buy_0 : decode cX3_buy 0 = .ok (.aload_n 0, 1) := by decide +kernel
theorem dX3_buy_1 : decode cX3_buy 1 = .ok (.getfield 19, 3) := by decide +kernel
theorem dX3_buy_4 : decode cX3_buy 4 = .ok (.aload_n 0, 1) := by decide +kernel
theorem dX3_buy_5 : decode cX3_buy 5 = .ok (.getfield 10, 3) := by decide +kernel
theorem dX3_buy_8 : decode cX3_buy 8 = .ok (.invokevirtual 30, 3) := by decide +kernel
theorem dX3_buy_11 : decode cX3_buy 11 = .ok (.aload_n 0, 1) := by decide +kernel
theorem dX3_buy_12 : decode cX3_buy 12 = .ok (.getfield 19, 3) := by decide +kernel
theorem dX3_buy_15 : decode cX3_buy 15 = .ok (.aload_n 0, 1) := by decide +kernel
theorem dX3_buy_16 : decode cX3_buy 16 = .ok (.getfield 10, 3) := by decide +kernel
theorem dX3_buy_19 : decode cX3_buy 19 = .ok (.iload_n 1, 1) := by decide +kernel
theorem dX3_buy_20 : decode cX3_buy 20 = .ok (.iload_n 2, 1) := by decide +kernel
theorem dX3_buy_21 : decode cX3_buy 21 = .ok (.invokevirtual 73, 3) := by decide +kernel
theorem dX3_buy_24 : decode cX3_buy 24 = .ok (.invokevirtual 38, 3) := by decide +kernel
theorem dX3_buy_27 : decode cX3_buy 27 = .ok (.ireturn, 1) := by decide +kernel
theorem dX3_offer_0 : decode cX3_offer 0 = .ok (.aload_n 0, 1) := by decide +kernel
theorem dX3_offer_1 : decode cX3_offer 1 = .ok (.getfield 10, 3) := by decide +kernel
theorem dX3_offer_4 : decode cX3_offer 4 = .ok (.iload_n 1, 1) := by decide +kernel
theorem dX3_offer_5 : decode cX3_offer 5 = .ok (.iload_n 2, 1) := by decide +kernel
theorem dX3_offer_6 : decode cX3_offer 6 = .ok (.iload_n 3, 1) := by decide +kernel
theorem dX3_offer_7 : decode cX3_offer 7 = .ok (.invokevirtual 76, 3) := by decide +kernel
theorem dX3_offer_10 : decode cX3_offer 10 = .ok (.ireturn, 1) := by decide +kernel
theorem dX3_buyBack_0 : decode cX3_buyBack 0 = .ok (.aload_n 0, 1) := by decide +kernel
theorem dX3_buyBack_1 : decode cX3_buyBack 1 = .ok (.getfield 19, 3) := by decide +kernel
theorem dX3_buyBack_4 : decode cX3_buyBack 4 = .ok (.aload_n 0, 1) := by decide +kernel
theorem dX3_buyBack_5 : decode cX3_buyBack 5 = .ok (.getfield 10, 3) := by decide +kernel
theorem dX3_buyBack_8 : decode cX3_buyBack 8 = .ok (.invokevirtual 30, 3) := by decide +kernel
theorem dX3_buyBack_11 : decode cX3_buyBack 11 = .ok (.aload_n 0, 1) := by decide +kernel
theorem dX3_buyBack_12 : decode cX3_buyBack 12 = .ok (.getfield 19, 3) := by decide +kernel
theorem dX3_buyBack_15 : decode cX3_buyBack 15 = .ok (.aload_n 0, 1) := by decide +kernel
theorem dX3_buyBack_16 : decode cX3_buyBack 16 = .ok (.getfield 10, 3) := by decide +kernel
theorem dX3_buyBack_19 : decode cX3_buyBack 19 = .ok (.iload_n 1, 1) := by decide +kernel
theorem dX3_buyBack_20 : decode cX3_buyBack 20 = .ok (.iload_n 2, 1) := by decide +kernel
theorem dX3_buyBack_21 : decode cX3_buyBack 21 = .ok (.iload_n 3, 1) := by decide +kernel
theorem dX3_buyBack_22 : decode cX3_buyBack 22 = .ok (.invokevirtual 79, 3) := by decide +kernel
theorem dX3_buyBack_25 : decode cX3_buyBack 25 = .ok (.invokevirtual 38, 3) := by decide +kernel
theorem dX3_buyBack_28 : decode cX3_buyBack 28 = .ok (.ireturn, 1) := by decide +kernel
theorem dX3_sell_0 : decode cX3_sell 0 = .ok (.aload_n 0, 1) := by decide +kernel
theorem dX3_sell_1 : decode cX3_sell 1 = .ok (.getfield 19, 3) := by decide +kernel
theorem dX3_sell_4 : decode cX3_sell 4 = .ok (.aload_n 0, 1) := by decide +kernel
theorem dX3_sell_5 : decode cX3_sell 5 = .ok (.getfield 10, 3) := by decide +kernel
theorem dX3_sell_8 : decode cX3_sell 8 = .ok (.invokevirtual 30, 3) := by decide +kernel
theorem dX3_sell_11 : decode cX3_sell 11 = .ok (.aload_n 0, 1) := by decide +kernel
theorem dX3_sell_12 : decode cX3_sell 12 = .ok (.getfield 19, 3) := by decide +kernel
theorem dX3_sell_15 : decode cX3_sell 15 = .ok (.aload_n 0, 1) := by decide +kernel
theorem dX3_sell_16 : decode cX3_sell 16 = .ok (.getfield 10, 3) := by decide +kernel
theorem dX3_sell_19 : decode cX3_sell 19 = .ok (.iload_n 1, 1) := by decide +kernel
theorem dX3_sell_20 : decode cX3_sell 20 = .ok (.invokevirtual 82, 3) := by decide +kernel
theorem dX3_sell_23 : decode cX3_sell 23 = .ok (.invokevirtual 38, 3) := by decide +kernel
theorem dX3_sell_26 : decode cX3_sell 26 = .ok (.ireturn, 1) := by decide +kernel
theorem dX3_rent_0 : decode cX3_rent 0 = .ok (.aload_n 0, 1) := by decide +kernel
theorem dX3_rent_1 : decode cX3_rent 1 = .ok (.getfield 19, 3) := by decide +kernel
theorem dX3_rent_4 : decode cX3_rent 4 = .ok (.aload_n 0, 1) := by decide +kernel
theorem dX3_rent_5 : decode cX3_rent 5 = .ok (.getfield 10, 3) := by decide +kernel
theorem dX3_rent_8 : decode cX3_rent 8 = .ok (.invokevirtual 30, 3) := by decide +kernel
theorem dX3_rent_11 : decode cX3_rent 11 = .ok (.aload_n 0, 1) := by decide +kernel
theorem dX3_rent_12 : decode cX3_rent 12 = .ok (.getfield 19, 3) := by decide +kernel
theorem dX3_rent_15 : decode cX3_rent 15 = .ok (.aload_n 0, 1) := by decide +kernel
theorem dX3_rent_16 : decode cX3_rent 16 = .ok (.getfield 10, 3) := by decide +kernel
theorem dX3_rent_19 : decode cX3_rent 19 = .ok (.iload_n 1, 1) := by decide +kernel
theorem dX3_rent_20 : decode cX3_rent 20 = .ok (.iload_n 2, 1) := by decide +kernel
theorem dX3_rent_21 : decode cX3_rent 21 = .ok (.invokevirtual 85, 3) := by decide +kernel
theorem dX3_rent_24 : decode cX3_rent 24 = .ok (.invokevirtual 38, 3) := by decide +kernel
theorem dX3_rent_27 : decode cX3_rent 27 = .ok (.ireturn, 1) := by decide +kernel
theorem dX3_next_0 : decode cX3_next 0 = .ok (.aload_n 0, 1) := by decide +kernel
theorem dX3_next_1 : decode cX3_next 1 = .ok (.getfield 10, 3) := by decide +kernel
theorem dX3_next_4 : decode cX3_next 4 = .ok (.iload_n 1, 1) := by decide +kernel
theorem dX3_next_5 : decode cX3_next 5 = .ok (.invokevirtual 88, 3) := by decide +kernel
theorem dX3_next_8 : decode cX3_next 8 = .ok (.ireturn, 1) := by decide +kernel
theorem dX3_giveBack_0 : decode cX3_giveBack 0 = .ok (.aload_n 0, 1) := by decide +kernel
theorem dX3_giveBack_1 : decode cX3_giveBack 1 = .ok (.getfield 19, 3) := by decide +kernel
theorem dX3_giveBack_4 : decode cX3_giveBack 4 = .ok (.aload_n 0, 1) := by decide +kernel
theorem dX3_giveBack_5 : decode cX3_giveBack 5 = .ok (.getfield 10, 3) := by decide +kernel
theorem dX3_giveBack_8 : decode cX3_giveBack 8 = .ok (.invokevirtual 30, 3) := by decide +kernel
theorem dX3_giveBack_11 : decode cX3_giveBack 11 = .ok (.aload_n 0, 1) := by decide +kernel
theorem dX3_giveBack_12 : decode cX3_giveBack 12 = .ok (.getfield 19, 3) := by decide +kernel
theorem dX3_giveBack_15 : decode cX3_giveBack 15 = .ok (.aload_n 0, 1) := by decide +kernel
theorem dX3_giveBack_16 : decode cX3_giveBack 16 = .ok (.getfield 10, 3) := by decide +kernel
theorem dX3_giveBack_19 : decode cX3_giveBack 19 = .ok (.iload_n 1, 1) := by decide +kernel
theorem dX3_giveBack_20 : decode cX3_giveBack 20 = .ok (.iload_n 2, 1) := by decide +kernel
theorem dX3_giveBack_21 : decode cX3_giveBack 21 = .ok (.invokevirtual 91, 3) := by decide +kernel
theorem dX3_giveBack_24 : decode cX3_giveBack 24 = .ok (.invokevirtual 38, 3) := by decide +kernel
theorem dX3_giveBack_27 : decode cX3_giveBack 27 = .ok (.ireturn, 1) := by decide +kernel
theorem dX3_charge_0 : decode cX3_charge 0 = .ok (.aload_n 0, 1) := by decide +kernel
theorem dX3_charge_1 : decode cX3_charge 1 = .ok (.getfield 10, 3) := by decide +kernel
theorem dX3_charge_4 : decode cX3_charge 4 = .ok (.iload_n 1, 1) := by decide +kernel
theorem dX3_charge_5 : decode cX3_charge 5 = .ok (.iload_n 2, 1) := by decide +kernel
theorem dX3_charge_6 : decode cX3_charge 6 = .ok (.iload_n 3, 1) := by decide +kernel
theorem dX3_charge_7 : decode cX3_charge 7 = .ok (.invokevirtual 94, 3) := by decide +kernel
theorem dX3_charge_10 : decode cX3_charge 10 = .ok (.ireturn, 1) := by decide +kernel
theorem dX3_pass_0 : decode cX3_pass 0 = .ok (.aload_n 0, 1) := by decide +kernel
theorem dX3_pass_1 : decode cX3_pass 1 = .ok (.getfield 19, 3) := by decide +kernel
theorem dX3_pass_4 : decode cX3_pass 4 = .ok (.aload_n 0, 1) := by decide +kernel
theorem dX3_pass_5 : decode cX3_pass 5 = .ok (.getfield 10, 3) := by decide +kernel
theorem dX3_pass_8 : decode cX3_pass 8 = .ok (.invokevirtual 30, 3) := by decide +kernel
theorem dX3_pass_11 : decode cX3_pass 11 = .ok (.aload_n 0, 1) := by decide +kernel
theorem dX3_pass_12 : decode cX3_pass 12 = .ok (.getfield 19, 3) := by decide +kernel
theorem dX3_pass_15 : decode cX3_pass 15 = .ok (.aload_n 0, 1) := by decide +kernel
theorem dX3_pass_16 : decode cX3_pass 16 = .ok (.getfield 10, 3) := by decide +kernel
theorem dX3_pass_19 : decode cX3_pass 19 = .ok (.iload_n 1, 1) := by decide +kernel
theorem dX3_pass_20 : decode cX3_pass 20 = .ok (.invokevirtual 97, 3) := by decide +kernel
theorem dX3_pass_23 : decode cX3_pass 23 = .ok (.invokevirtual 38, 3) := by decide +kernel
theorem dX3_pass_26 : decode cX3_pass 26 = .ok (.ireturn, 1) := by decide +kernel
theorem dX3_shelf_0 : decode cX3_shelf 0 = .ok (.aload_n 0, 1) := by decide +kernel
theorem dX3_shelf_1 : decode cX3_shelf 1 = .ok (.getfield 19, 3) := by decide +kernel
theorem dX3_shelf_4 : decode cX3_shelf 4 = .ok (.aload_n 0, 1) := by decide +kernel
theorem dX3_shelf_5 : decode cX3_shelf 5 = .ok (.getfield 10, 3) := by decide +kernel
theorem dX3_shelf_8 : decode cX3_shelf 8 = .ok (.invokevirtual 30, 3) := by decide +kernel
theorem dX3_shelf_11 : decode cX3_shelf 11 = .ok (.aload_n 0, 1) := by decide +kernel
theorem dX3_shelf_12 : decode cX3_shelf 12 = .ok (.getfield 19, 3) := by decide +kernel
theorem dX3_shelf_15 : decode cX3_shelf 15 = .ok (.aload_n 0, 1) := by decide +kernel
theorem dX3_shelf_16 : decode cX3_shelf 16 = .ok (.getfield 10, 3) := by decide +kernel
theorem dX3_shelf_19 : decode cX3_shelf 19 = .ok (.iload_n 1, 1) := by decide +kernel
theorem dX3_shelf_20 : decode cX3_shelf 20 = .ok (.iload_n 2, 1) := by decide +kernel
theorem dX3_shelf_21 : decode cX3_shelf 21 = .ok (.invokevirtual 100, 3) := by decide +kernel
theorem dX3_shelf_24 : decode cX3_shelf 24 = .ok (.invokevirtual 38, 3) := by decide +kernel
theorem dX3_shelf_27 : decode cX3_shelf 27 = .ok (.ireturn, 1) := by decide +kernel
theorem dX3_customer_0 : decode cX3_customer 0 = .ok (.aload_n 0, 1) := by decide +kernel
theorem dX3_customer_1 : decode cX3_customer 1 = .ok (.getfield 10, 3) := by decide +kernel
theorem dX3_customer_4 : decode cX3_customer 4 = .ok (.iload_n 1, 1) := by decide +kernel
theorem dX3_customer_5 : decode cX3_customer 5 = .ok (.iload_n 2, 1) := by decide +kernel
theorem dX3_customer_6 : decode cX3_customer 6 = .ok (.invokevirtual 103, 3) := by decide +kernel
theorem dX3_customer_9 : decode cX3_customer 9 = .ok (.ireturn, 1) := by decide +kernel
theorem dX3_lostIn_0 : decode cX3_lostIn 0 = .ok (.aload_n 0, 1) := by decide +kernel
theorem dX3_lostIn_1 : decode cX3_lostIn 1 = .ok (.getfield 10, 3) := by decide +kernel
theorem dX3_lostIn_4 : decode cX3_lostIn 4 = .ok (.iload_n 1, 1) := by decide +kernel
theorem dX3_lostIn_5 : decode cX3_lostIn 5 = .ok (.invokevirtual 106, 3) := by decide +kernel
theorem dX3_lostIn_8 : decode cX3_lostIn 8 = .ok (.ireturn, 1) := by decide +kernel
theorem dX3_agingOf_0 : decode cX3_agingOf 0 = .ok (.aload_n 0, 1) := by decide +kernel
theorem dX3_agingOf_1 : decode cX3_agingOf 1 = .ok (.getfield 10, 3) := by decide +kernel
theorem dX3_agingOf_4 : decode cX3_agingOf 4 = .ok (.iload_n 1, 1) := by decide +kernel
theorem dX3_agingOf_5 : decode cX3_agingOf 5 = .ok (.invokevirtual 109, 3) := by decide +kernel
theorem dX3_agingOf_8 : decode cX3_agingOf 8 = .ok (.ireturn, 1) := by decide +kernel
theorem dX3_served_0 : decode cX3_served 0 = .ok (.aload_n 0, 1) := by decide +kernel
theorem dX3_served_1 : decode cX3_served 1 = .ok (.getfield 10, 3) := by decide +kernel
theorem dX3_served_4 : decode cX3_served 4 = .ok (.invokevirtual 112, 3) := by decide +kernel
theorem dX3_served_7 : decode cX3_served 7 = .ok (.ireturn, 1) := by decide +kernel
theorem dX3_undo_0 : decode cX3_undo 0 = .ok (.aload_n 0, 1) := by decide +kernel
theorem dX3_undo_1 : decode cX3_undo 1 = .ok (.getfield 19, 3) := by decide +kernel
theorem dX3_undo_4 : decode cX3_undo 4 = .ok (.aload_n 0, 1) := by decide +kernel
theorem dX3_undo_5 : decode cX3_undo 5 = .ok (.getfield 10, 3) := by decide +kernel
theorem dX3_undo_8 : decode cX3_undo 8 = .ok (.invokevirtual 116, 3) := by decide +kernel
theorem dX3_undo_11 : decode cX3_undo 11 = .ok (.ireturn, 1) := by decide +kernel
theorem dX3_type_0 : decode cX3_type 0 = .ok (.aload_n 0, 1) := by decide +kernel
theorem dX3_type_1 : decode cX3_type 1 = .ok (.getfield 26, 3) := by decide +kernel
theorem dX3_type_4 : decode cX3_type 4 = .ok (.iload_n 1, 1) := by decide +kernel
theorem dX3_type_5 : decode cX3_type 5 = .ok (.invokevirtual 120, 3) := by decide +kernel
theorem dX3_type_8 : decode cX3_type 8 = .ok (.ireturn, 1) := by decide +kernel
theorem dX3_clearText_0 : decode cX3_clearText 0 = .ok (.aload_n 0, 1) := by decide +kernel
theorem dX3_clearText_1 : decode cX3_clearText 1 = .ok (.getfield 26, 3) := by decide +kernel
theorem dX3_clearText_4 : decode cX3_clearText 4 = .ok (.invokevirtual 123, 3) := by decide +kernel
theorem dX3_clearText_7 : decode cX3_clearText 7 = .ok (.ireturn, 1) := by decide +kernel
theorem dX3_textFault_0 : decode cX3_textFault 0 = .ok (.aload_n 0, 1) := by decide +kernel
theorem dX3_textFault_1 : decode cX3_textFault 1 = .ok (.getfield 26, 3) := by decide +kernel
theorem dX3_textFault_4 : decode cX3_textFault 4 = .ok (.invokevirtual 126, 3) := by decide +kernel
theorem dX3_textFault_7 : decode cX3_textFault 7 = .ok (.ireturn, 1) := by decide +kernel
theorem dX3_orders_0 : decode cX3_orders 0 = .ok (.aload_n 0, 1) := by decide +kernel
theorem dX3_orders_1 : decode cX3_orders 1 = .ok (.getfield 26, 3) := by decide +kernel
theorem dX3_orders_4 : decode cX3_orders 4 = .ok (.invokevirtual 126, 3) := by decide +kernel
theorem dX3_orders_7 : decode cX3_orders 7 = .ok (.iconst (-1), 1) := by decide +kernel
theorem dX3_orders_8 : decode cX3_orders 8 = .ok (.if_icmp .eq 6, 3) := by decide +kernel
theorem dX3_orders_11 : decode cX3_orders 11 = .ok (.bipush (-4), 2) := by decide +kernel
theorem dX3_orders_13 : decode cX3_orders 13 = .ok (.ireturn, 1) := by decide +kernel
theorem dX3_orders_14 : decode cX3_orders 14 = .ok (.aload_n 0, 1) := by decide +kernel
theorem dX3_orders_15 : decode cX3_orders 15 = .ok (.getfield 19, 3) := by decide +kernel
theorem dX3_orders_18 : decode cX3_orders 18 = .ok (.aload_n 0, 1) := by decide +kernel
theorem dX3_orders_19 : decode cX3_orders 19 = .ok (.getfield 10, 3) := by decide +kernel
theorem dX3_orders_22 : decode cX3_orders 22 = .ok (.invokevirtual 30, 3) := by decide +kernel
theorem dX3_orders_25 : decode cX3_orders 25 = .ok (.aload_n 0, 1) := by decide +kernel
theorem dX3_orders_26 : decode cX3_orders 26 = .ok (.getfield 26, 3) := by decide +kernel
theorem dX3_orders_29 : decode cX3_orders 29 = .ok (.invokevirtual 129, 3) := by decide +kernel
theorem dX3_orders_32 : decode cX3_orders 32 = .ok (.iconst 0, 1) := by decide +kernel
theorem dX3_orders_33 : decode cX3_orders 33 = .ok (.istore_n 1, 1) := by decide +kernel
theorem dX3_orders_34 : decode cX3_orders 34 = .ok (.iload_n 1, 1) := by decide +kernel
theorem dX3_orders_35 : decode cX3_orders 35 = .ok (.bipush 100, 2) := by decide +kernel
theorem dX3_orders_37 : decode cX3_orders 37 = .ok (.if_icmp .ge 37, 3) := by decide +kernel
theorem dX3_orders_40 : decode cX3_orders 40 = .ok (.aload_n 0, 1) := by decide +kernel
theorem dX3_orders_41 : decode cX3_orders 41 = .ok (.getfield 26, 3) := by decide +kernel
theorem dX3_orders_44 : decode cX3_orders 44 = .ok (.invokevirtual 132, 3) := by decide +kernel
theorem dX3_orders_47 : decode cX3_orders 47 = .ok (.ifCond .eq 27, 3) := by decide +kernel
theorem dX3_orders_50 : decode cX3_orders 50 = .ok (.aload_n 0, 1) := by decide +kernel
theorem dX3_orders_51 : decode cX3_orders 51 = .ok (.getfield 26, 3) := by decide +kernel
theorem dX3_orders_54 : decode cX3_orders 54 = .ok (.invokevirtual 136, 3) := by decide +kernel
theorem dX3_orders_57 : decode cX3_orders 57 = .ok (.iconst (-1), 1) := by decide +kernel
theorem dX3_orders_58 : decode cX3_orders 58 = .ok (.if_icmp .ne 16, 3) := by decide +kernel
theorem dX3_orders_61 : decode cX3_orders 61 = .ok (.aload_n 0, 1) := by decide +kernel
theorem dX3_orders_62 : decode cX3_orders 62 = .ok (.invokevirtual 139, 3) := by decide +kernel
theorem dX3_orders_65 : decode cX3_orders 65 = .ok (.ifCond .lt 9, 3) := by decide +kernel
theorem dX3_orders_68 : decode cX3_orders 68 = .ok (.iinc 1 1, 3) := by decide +kernel
theorem dX3_orders_71 : decode cX3_orders 71 = .ok (.goto (-37), 3) := by decide +kernel
theorem dX3_orders_74 : decode cX3_orders 74 = .ok (.aload_n 0, 1) := by decide +kernel
theorem dX3_orders_75 : decode cX3_orders 75 = .ok (.getfield 19, 3) := by decide +kernel
theorem dX3_orders_78 : decode cX3_orders 78 = .ok (.iload_n 1, 1) := by decide +kernel
theorem dX3_orders_79 : decode cX3_orders 79 = .ok (.invokevirtual 38, 3) := by decide +kernel
theorem dX3_orders_82 : decode cX3_orders 82 = .ok (.ireturn, 1) := by decide +kernel
theorem dX3_digest_0 : decode cX3_digest 0 = .ok (.ldc2_w 142, 3) := by decide +kernel
theorem dX3_digest_3 : decode cX3_digest 3 = .ok (.lstore_n 1, 1) := by decide +kernel
theorem dX3_digest_4 : decode cX3_digest 4 = .ok (.iconst 0, 1) := by decide +kernel
theorem dX3_digest_5 : decode cX3_digest 5 = .ok (.istore_n 3, 1) := by decide +kernel
theorem dX3_digest_6 : decode cX3_digest 6 = .ok (.iload_n 3, 1) := by decide +kernel
theorem dX3_digest_7 : decode cX3_digest 7 = .ok (.bipush 13, 2) := by decide +kernel
theorem dX3_digest_9 : decode cX3_digest 9 = .ok (.if_icmp .gt 25, 3) := by decide +kernel
theorem dX3_digest_12 : decode cX3_digest 12 = .ok (.ldc2_w 144, 3) := by decide +kernel
theorem dX3_digest_15 : decode cX3_digest 15 = .ok (.lload_n 1, 1) := by decide +kernel
theorem dX3_digest_16 : decode cX3_digest 16 = .ok (.lmul, 1) := by decide +kernel
theorem dX3_digest_17 : decode cX3_digest 17 = .ok (.aload_n 0, 1) := by decide +kernel
theorem dX3_digest_18 : decode cX3_digest 18 = .ok (.getfield 10, 3) := by decide +kernel
theorem dX3_digest_21 : decode cX3_digest 21 = .ok (.iload_n 3, 1) := by decide +kernel
theorem dX3_digest_22 : decode cX3_digest 22 = .ok (.invokevirtual 58, 3) := by decide +kernel
theorem dX3_digest_25 : decode cX3_digest 25 = .ok (.i2l, 1) := by decide +kernel
theorem dX3_digest_26 : decode cX3_digest 26 = .ok (.ladd, 1) := by decide +kernel
theorem dX3_digest_27 : decode cX3_digest 27 = .ok (.lstore_n 1, 1) := by decide +kernel
theorem dX3_digest_28 : decode cX3_digest 28 = .ok (.iinc 3 1, 3) := by decide +kernel
theorem dX3_digest_31 : decode cX3_digest 31 = .ok (.goto (-25), 3) := by decide +kernel
theorem dX3_digest_34 : decode cX3_digest 34 = .ok (.iconst 0, 1) := by decide +kernel
theorem dX3_digest_35 : decode cX3_digest 35 = .ok (.istore_n 3, 1) := by decide +kernel
theorem dX3_digest_36 : decode cX3_digest 36 = .ok (.iload_n 3, 1) := by decide +kernel
theorem dX3_digest_37 : decode cX3_digest 37 = .ok (.aload_n 0, 1) := by decide +kernel
theorem dX3_digest_38 : decode cX3_digest 38 = .ok (.getfield 10, 3) := by decide +kernel
theorem dX3_digest_41 : decode cX3_digest 41 = .ok (.getfield 146, 3) := by decide +kernel
theorem dX3_digest_44 : decode cX3_digest 44 = .ok (.if_icmp .ge 43, 3) := by decide +kernel
theorem dX3_digest_47 : decode cX3_digest 47 = .ok (.iconst 0, 1) := by decide +kernel
theorem dX3_digest_48 : decode cX3_digest 48 = .ok (.istore 4, 2) := by decide +kernel
theorem dX3_digest_50 : decode cX3_digest 50 = .ok (.iload 4, 2) := by decide +kernel
theorem dX3_digest_52 : decode cX3_digest 52 = .ok (.bipush 6, 2) := by decide +kernel
theorem dX3_digest_54 : decode cX3_digest 54 = .ok (.if_icmp .gt 27, 3) := by decide +kernel
theorem dX3_digest_57 : decode cX3_digest 57 = .ok (.ldc2_w 144, 3) := by decide +kernel
theorem dX3_digest_60 : decode cX3_digest 60 = .ok (.lload_n 1, 1) := by decide +kernel
theorem dX3_digest_61 : decode cX3_digest 61 = .ok (.lmul, 1) := by decide +kernel
theorem dX3_digest_62 : decode cX3_digest 62 = .ok (.aload_n 0, 1) := by decide +kernel
theorem dX3_digest_63 : decode cX3_digest 63 = .ok (.getfield 10, 3) := by decide +kernel
theorem dX3_digest_66 : decode cX3_digest 66 = .ok (.iload_n 3, 1) := by decide +kernel
theorem dX3_digest_67 : decode cX3_digest 67 = .ok (.iload 4, 2) := by decide +kernel
theorem dX3_digest_69 : decode cX3_digest 69 = .ok (.invokevirtual 61, 3) := by decide +kernel
theorem dX3_digest_72 : decode cX3_digest 72 = .ok (.i2l, 1) := by decide +kernel
theorem dX3_digest_73 : decode cX3_digest 73 = .ok (.ladd, 1) := by decide +kernel
theorem dX3_digest_74 : decode cX3_digest 74 = .ok (.lstore_n 1, 1) := by decide +kernel
theorem dX3_digest_75 : decode cX3_digest 75 = .ok (.iinc 4 1, 3) := by decide +kernel
theorem dX3_digest_78 : decode cX3_digest 78 = .ok (.goto (-28), 3) := by decide +kernel
theorem dX3_digest_81 : decode cX3_digest 81 = .ok (.iinc 3 1, 3) := by decide +kernel
theorem dX3_digest_84 : decode cX3_digest 84 = .ok (.goto (-48), 3) := by decide +kernel
theorem dX3_digest_87 : decode cX3_digest 87 = .ok (.iconst 0, 1) := by decide +kernel
theorem dX3_digest_88 : decode cX3_digest 88 = .ok (.istore_n 3, 1) := by decide +kernel
theorem dX3_digest_89 : decode cX3_digest 89 = .ok (.iload_n 3, 1) := by decide +kernel
theorem dX3_digest_90 : decode cX3_digest 90 = .ok (.aload_n 0, 1) := by decide +kernel
theorem dX3_digest_91 : decode cX3_digest 91 = .ok (.getfield 10, 3) := by decide +kernel
theorem dX3_digest_94 : decode cX3_digest 94 = .ok (.getfield 150, 3) := by decide +kernel
theorem dX3_digest_97 : decode cX3_digest 97 = .ok (.if_icmp .ge 42, 3) := by decide +kernel
theorem dX3_digest_100 : decode cX3_digest 100 = .ok (.iconst 0, 1) := by decide +kernel
theorem dX3_digest_101 : decode cX3_digest 101 = .ok (.istore 4, 2) := by decide +kernel
theorem dX3_digest_103 : decode cX3_digest 103 = .ok (.iload 4, 2) := by decide +kernel
theorem dX3_digest_105 : decode cX3_digest 105 = .ok (.iconst 3, 1) := by decide +kernel
theorem dX3_digest_106 : decode cX3_digest 106 = .ok (.if_icmp .gt 27, 3) := by decide +kernel
theorem dX3_digest_109 : decode cX3_digest 109 = .ok (.ldc2_w 144, 3) := by decide +kernel
theorem dX3_digest_112 : decode cX3_digest 112 = .ok (.lload_n 1, 1) := by decide +kernel
theorem dX3_digest_113 : decode cX3_digest 113 = .ok (.lmul, 1) := by decide +kernel
theorem dX3_digest_114 : decode cX3_digest 114 = .ok (.aload_n 0, 1) := by decide +kernel
theorem dX3_digest_115 : decode cX3_digest 115 = .ok (.getfield 10, 3) := by decide +kernel
theorem dX3_digest_118 : decode cX3_digest 118 = .ok (.iload_n 3, 1) := by decide +kernel
theorem dX3_digest_119 : decode cX3_digest 119 = .ok (.iload 4, 2) := by decide +kernel
theorem dX3_digest_121 : decode cX3_digest 121 = .ok (.invokevirtual 64, 3) := by decide +kernel
theorem dX3_digest_124 : decode cX3_digest 124 = .ok (.i2l, 1) := by decide +kernel
theorem dX3_digest_125 : decode cX3_digest 125 = .ok (.ladd, 1) := by decide +kernel
theorem dX3_digest_126 : decode cX3_digest 126 = .ok (.lstore_n 1, 1) := by decide +kernel
theorem dX3_digest_127 : decode cX3_digest 127 = .ok (.iinc 4 1, 3) := by decide +kernel
theorem dX3_digest_130 : decode cX3_digest 130 = .ok (.goto (-27), 3) := by decide +kernel
theorem dX3_digest_133 : decode cX3_digest 133 = .ok (.iinc 3 1, 3) := by decide +kernel
theorem dX3_digest_136 : decode cX3_digest 136 = .ok (.goto (-47), 3) := by decide +kernel
theorem dX3_digest_139 : decode cX3_digest 139 = .ok (.iconst 0, 1) := by decide +kernel
theorem dX3_digest_140 : decode cX3_digest 140 = .ok (.istore_n 3, 1) := by decide +kernel
theorem dX3_digest_141 : decode cX3_digest 141 = .ok (.iload_n 3, 1) := by decide +kernel
theorem dX3_digest_142 : decode cX3_digest 142 = .ok (.aload_n 0, 1) := by decide +kernel
theorem dX3_digest_143 : decode cX3_digest 143 = .ok (.getfield 10, 3) := by decide +kernel
theorem dX3_digest_146 : decode cX3_digest 146 = .ok (.getfield 153, 3) := by decide +kernel
theorem dX3_digest_149 : decode cX3_digest 149 = .ok (.if_icmp .ge 43, 3) := by decide +kernel
theorem dX3_digest_152 : decode cX3_digest 152 = .ok (.iconst 0, 1) := by decide +kernel
theorem dX3_digest_153 : decode cX3_digest 153 = .ok (.istore 4, 2) := by decide +kernel
theorem dX3_digest_155 : decode cX3_digest 155 = .ok (.iload 4, 2) := by decide +kernel
theorem dX3_digest_157 : decode cX3_digest 157 = .ok (.bipush 10, 2) := by decide +kernel
theorem dX3_digest_159 : decode cX3_digest 159 = .ok (.if_icmp .gt 27, 3) := by decide +kernel
theorem dX3_digest_162 : decode cX3_digest 162 = .ok (.ldc2_w 144, 3) := by decide +kernel
theorem dX3_digest_165 : decode cX3_digest 165 = .ok (.lload_n 1, 1) := by decide +kernel
theorem dX3_digest_166 : decode cX3_digest 166 = .ok (.lmul, 1) := by decide +kernel
theorem dX3_digest_167 : decode cX3_digest 167 = .ok (.aload_n 0, 1) := by decide +kernel
theorem dX3_digest_168 : decode cX3_digest 168 = .ok (.getfield 10, 3) := by decide +kernel
theorem dX3_digest_171 : decode cX3_digest 171 = .ok (.iload_n 3, 1) := by decide +kernel
theorem dX3_digest_172 : decode cX3_digest 172 = .ok (.iload 4, 2) := by decide +kernel
theorem dX3_digest_174 : decode cX3_digest 174 = .ok (.invokevirtual 67, 3) := by decide +kernel
theorem dX3_digest_177 : decode cX3_digest 177 = .ok (.i2l, 1) := by decide +kernel
theorem dX3_digest_178 : decode cX3_digest 178 = .ok (.ladd, 1) := by decide +kernel
theorem dX3_digest_179 : decode cX3_digest 179 = .ok (.lstore_n 1, 1) := by decide +kernel
theorem dX3_digest_180 : decode cX3_digest 180 = .ok (.iinc 4 1, 3) := by decide +kernel
theorem dX3_digest_183 : decode cX3_digest 183 = .ok (.goto (-28), 3) := by decide +kernel
theorem dX3_digest_186 : decode cX3_digest 186 = .ok (.iinc 3 1, 3) := by decide +kernel
theorem dX3_digest_189 : decode cX3_digest 189 = .ok (.goto (-48), 3) := by decide +kernel
theorem dX3_digest_192 : decode cX3_digest 192 = .ok (.iconst 0, 1) := by decide +kernel
theorem dX3_digest_193 : decode cX3_digest 193 = .ok (.istore_n 3, 1) := by decide +kernel
theorem dX3_digest_194 : decode cX3_digest 194 = .ok (.iload_n 3, 1) := by decide +kernel
theorem dX3_digest_195 : decode cX3_digest 195 = .ok (.bipush 7, 2) := by decide +kernel
theorem dX3_digest_197 : decode cX3_digest 197 = .ok (.if_icmp .gt 25, 3) := by decide +kernel
theorem dX3_digest_200 : decode cX3_digest 200 = .ok (.ldc2_w 144, 3) := by decide +kernel
theorem dX3_digest_203 : decode cX3_digest 203 = .ok (.lload_n 1, 1) := by decide +kernel
theorem dX3_digest_204 : decode cX3_digest 204 = .ok (.lmul, 1) := by decide +kernel
theorem dX3_digest_205 : decode cX3_digest 205 = .ok (.aload_n 0, 1) := by decide +kernel
theorem dX3_digest_206 : decode cX3_digest 206 = .ok (.getfield 10, 3) := by decide +kernel
theorem dX3_digest_209 : decode cX3_digest 209 = .ok (.iload_n 3, 1) := by decide +kernel
theorem dX3_digest_210 : decode cX3_digest 210 = .ok (.invokevirtual 70, 3) := by decide +kernel
theorem dX3_digest_213 : decode cX3_digest 213 = .ok (.i2l, 1) := by decide +kernel
theorem dX3_digest_214 : decode cX3_digest 214 = .ok (.ladd, 1) := by decide +kernel
theorem dX3_digest_215 : decode cX3_digest 215 = .ok (.lstore_n 1, 1) := by decide +kernel
theorem dX3_digest_216 : decode cX3_digest 216 = .ok (.iinc 3 1, 3) := by decide +kernel
theorem dX3_digest_219 : decode cX3_digest 219 = .ok (.goto (-25), 3) := by decide +kernel
theorem dX3_digest_222 : decode cX3_digest 222 = .ok (.iconst 0, 1) := by decide +kernel
theorem dX3_digest_223 : decode cX3_digest 223 = .ok (.istore_n 3, 1) := by decide +kernel
theorem dX3_digest_224 : decode cX3_digest 224 = .ok (.iload_n 3, 1) := by decide +kernel
theorem dX3_digest_225 : decode cX3_digest 225 = .ok (.bipush 8, 2) := by decide +kernel
theorem dX3_digest_227 : decode cX3_digest 227 = .ok (.if_icmp .ge 42, 3) := by decide +kernel
theorem dX3_digest_230 : decode cX3_digest 230 = .ok (.iconst 0, 1) := by decide +kernel
theorem dX3_digest_231 : decode cX3_digest 231 = .ok (.istore 4, 2) := by decide +kernel
theorem dX3_digest_233 : decode cX3_digest 233 = .ok (.iload 4, 2) := by decide +kernel
theorem dX3_digest_235 : decode cX3_digest 235 = .ok (.iconst 2, 1) := by decide +kernel
theorem dX3_digest_236 : decode cX3_digest 236 = .ok (.if_icmp .gt 27, 3) := by decide +kernel
theorem dX3_digest_239 : decode cX3_digest 239 = .ok (.ldc2_w 144, 3) := by decide +kernel
theorem dX3_digest_242 : decode cX3_digest 242 = .ok (.lload_n 1, 1) := by decide +kernel
theorem dX3_digest_243 : decode cX3_digest 243 = .ok (.lmul, 1) := by decide +kernel
theorem dX3_digest_244 : decode cX3_digest 244 = .ok (.aload_n 0, 1) := by decide +kernel
theorem dX3_digest_245 : decode cX3_digest 245 = .ok (.getfield 10, 3) := by decide +kernel
theorem dX3_digest_248 : decode cX3_digest 248 = .ok (.iload_n 3, 1) := by decide +kernel
theorem dX3_digest_249 : decode cX3_digest 249 = .ok (.iload 4, 2) := by decide +kernel
theorem dX3_digest_251 : decode cX3_digest 251 = .ok (.invokevirtual 103, 3) := by decide +kernel
theorem dX3_digest_254 : decode cX3_digest 254 = .ok (.i2l, 1) := by decide +kernel
theorem dX3_digest_255 : decode cX3_digest 255 = .ok (.ladd, 1) := by decide +kernel
theorem dX3_digest_256 : decode cX3_digest 256 = .ok (.lstore_n 1, 1) := by decide +kernel
theorem dX3_digest_257 : decode cX3_digest 257 = .ok (.iinc 4 1, 3) := by decide +kernel
theorem dX3_digest_260 : decode cX3_digest 260 = .ok (.goto (-27), 3) := by decide +kernel
theorem dX3_digest_263 : decode cX3_digest 263 = .ok (.iinc 3 1, 3) := by decide +kernel
theorem dX3_digest_266 : decode cX3_digest 266 = .ok (.goto (-42), 3) := by decide +kernel
theorem dX3_digest_269 : decode cX3_digest 269 = .ok (.lload_n 1, 1) := by decide +kernel
theorem dX3_digest_270 : decode cX3_digest 270 = .ok (.lreturn, 1) := by decide +kernel
theorem dX3_carryOut_0 : decode cX3_carryOut 0 = .ok (.aload_n 0, 1) := by decide +kernel
theorem dX3_carryOut_1 : decode cX3_carryOut 1 = .ok (.getfield 26, 3) := by decide +kernel
theorem dX3_carryOut_4 : decode cX3_carryOut 4 = .ok (.invokevirtual 156, 3) := by decide +kernel
theorem dX3_carryOut_7 : decode cX3_carryOut 7 = .ok (.tableswitch 110 0 3 #[29, 51, 73, 95], 29) := by decide +kernel
theorem dX3_carryOut_36 : decode cX3_carryOut 36 = .ok (.aload_n 0, 1) := by decide +kernel
theorem dX3_carryOut_37 : decode cX3_carryOut 37 = .ok (.getfield 10, 3) := by decide +kernel
theorem dX3_carryOut_40 : decode cX3_carryOut 40 = .ok (.aload_n 0, 1) := by decide +kernel
theorem dX3_carryOut_41 : decode cX3_carryOut 41 = .ok (.getfield 26, 3) := by decide +kernel
theorem dX3_carryOut_44 : decode cX3_carryOut 44 = .ok (.invokevirtual 159, 3) := by decide +kernel
theorem dX3_carryOut_47 : decode cX3_carryOut 47 = .ok (.aload_n 0, 1) := by decide +kernel
theorem dX3_carryOut_48 : decode cX3_carryOut 48 = .ok (.getfield 26, 3) := by decide +kernel
theorem dX3_carryOut_51 : decode cX3_carryOut 51 = .ok (.invokevirtual 162, 3) := by decide +kernel
theorem dX3_carryOut_54 : decode cX3_carryOut 54 = .ok (.invokevirtual 85, 3) := by decide +kernel
theorem dX3_carryOut_57 : decode cX3_carryOut 57 = .ok (.ireturn, 1) := by decide +kernel
theorem dX3_carryOut_58 : decode cX3_carryOut 58 = .ok (.aload_n 0, 1) := by decide +kernel
theorem dX3_carryOut_59 : decode cX3_carryOut 59 = .ok (.getfield 10, 3) := by decide +kernel
theorem dX3_carryOut_62 : decode cX3_carryOut 62 = .ok (.aload_n 0, 1) := by decide +kernel
theorem dX3_carryOut_63 : decode cX3_carryOut 63 = .ok (.getfield 26, 3) := by decide +kernel
theorem dX3_carryOut_66 : decode cX3_carryOut 66 = .ok (.invokevirtual 159, 3) := by decide +kernel
theorem dX3_carryOut_69 : decode cX3_carryOut 69 = .ok (.aload_n 0, 1) := by decide +kernel
theorem dX3_carryOut_70 : decode cX3_carryOut 70 = .ok (.getfield 26, 3) := by decide +kernel
theorem dX3_carryOut_73 : decode cX3_carryOut 73 = .ok (.invokevirtual 162, 3) := by decide +kernel
theorem dX3_carryOut_76 : decode cX3_carryOut 76 = .ok (.invokevirtual 91, 3) := by decide +kernel
theorem dX3_carryOut_79 : decode cX3_carryOut 79 = .ok (.ireturn, 1) := by decide +kernel
theorem dX3_carryOut_80 : decode cX3_carryOut 80 = .ok (.aload_n 0, 1) := by decide +kernel
theorem dX3_carryOut_81 : decode cX3_carryOut 81 = .ok (.getfield 10, 3) := by decide +kernel
theorem dX3_carryOut_84 : decode cX3_carryOut 84 = .ok (.aload_n 0, 1) := by decide +kernel
theorem dX3_carryOut_85 : decode cX3_carryOut 85 = .ok (.getfield 26, 3) := by decide +kernel
theorem dX3_carryOut_88 : decode cX3_carryOut 88 = .ok (.invokevirtual 159, 3) := by decide +kernel
theorem dX3_carryOut_91 : decode cX3_carryOut 91 = .ok (.aload_n 0, 1) := by decide +kernel
theorem dX3_carryOut_92 : decode cX3_carryOut 92 = .ok (.getfield 26, 3) := by decide +kernel
theorem dX3_carryOut_95 : decode cX3_carryOut 95 = .ok (.invokevirtual 162, 3) := by decide +kernel
theorem dX3_carryOut_98 : decode cX3_carryOut 98 = .ok (.invokevirtual 73, 3) := by decide +kernel
theorem dX3_carryOut_101 : decode cX3_carryOut 101 = .ok (.ireturn, 1) := by decide +kernel
theorem dX3_carryOut_102 : decode cX3_carryOut 102 = .ok (.aload_n 0, 1) := by decide +kernel
theorem dX3_carryOut_103 : decode cX3_carryOut 103 = .ok (.getfield 10, 3) := by decide +kernel
theorem dX3_carryOut_106 : decode cX3_carryOut 106 = .ok (.aload_n 0, 1) := by decide +kernel
theorem dX3_carryOut_107 : decode cX3_carryOut 107 = .ok (.getfield 26, 3) := by decide +kernel
theorem dX3_carryOut_110 : decode cX3_carryOut 110 = .ok (.invokevirtual 159, 3) := by decide +kernel
theorem dX3_carryOut_113 : decode cX3_carryOut 113 = .ok (.invokevirtual 82, 3) := by decide +kernel
theorem dX3_carryOut_116 : decode cX3_carryOut 116 = .ok (.ireturn, 1) := by decide +kernel
theorem dX3_carryOut_117 : decode cX3_carryOut 117 = .ok (.aload_n 0, 1) := by decide +kernel
theorem dX3_carryOut_118 : decode cX3_carryOut 118 = .ok (.getfield 10, 3) := by decide +kernel
theorem dX3_carryOut_121 : decode cX3_carryOut 121 = .ok (.aload_n 0, 1) := by decide +kernel
theorem dX3_carryOut_122 : decode cX3_carryOut 122 = .ok (.getfield 26, 3) := by decide +kernel
theorem dX3_carryOut_125 : decode cX3_carryOut 125 = .ok (.invokevirtual 159, 3) := by decide +kernel
theorem dX3_carryOut_128 : decode cX3_carryOut 128 = .ok (.invokevirtual 97, 3) := by decide +kernel
theorem dX3_carryOut_131 : decode cX3_carryOut 131 = .ok (.ireturn, 1) := by decide +kernel
end
section
theorem dX4_init_0 : decode cX4_init 0 = .ok (.aload_n 0, 1) := by decide +kernel
theorem dX4_init_1 : decode cX4_init 1 = .ok (.invokespecial 1, 3) := by decide +kernel
theorem dX4_init_4 : decode cX4_init 4 = .ok (.aload_n 0, 1) := by decide +kernel
theorem dX4_init_5 : decode cX4_init 5 = .ok (.sipush 2891, 3) := by decide +kernel
theorem dX4_init_8 : decode cX4_init 8 = .ok (.newarray .int, 2) := by decide +kernel
theorem dX4_init_10 : decode cX4_init 10 = .ok (.putfield 7, 3) := by decide +kernel
theorem dX4_init_13 : decode cX4_init 13 = .ok (.aload_n 0, 1) := by decide +kernel
theorem dX4_init_14 : decode cX4_init 14 = .ok (.iconst 4, 1) := by decide +kernel
theorem dX4_init_15 : decode cX4_init 15 = .ok (.newarray .int, 2) := by decide +kernel
theorem dX4_init_17 : decode cX4_init 17 = .ok (.dup, 1) := by decide +kernel
theorem dX4_init_18 : decode cX4_init 18 = .ok (.iconst 0, 1) := by decide +kernel
theorem dX4_init_19 : decode cX4_init 19 = .ok (.bipush 10, 2) := by decide +kernel
theorem dX4_init_21 : decode cX4_init 21 = .ok (.iastore, 1) := by decide +kernel
theorem dX4_init_22 : decode cX4_init 22 = .ok (.dup, 1) := by decide +kernel
theorem dX4_init_23 : decode cX4_init 23 = .ok (.iconst 1, 1) := by decide +kernel
theorem dX4_init_24 : decode cX4_init 24 = .ok (.iconst 0, 1) := by decide +kernel
theorem dX4_init_25 : decode cX4_init 25 = .ok (.iastore, 1) := by decide +kernel
theorem dX4_init_26 : decode cX4_init 26 = .ok (.dup, 1) := by decide +kernel
theorem dX4_init_27 : decode cX4_init 27 = .ok (.iconst 2, 1) := by decide +kernel
theorem dX4_init_28 : decode cX4_init 28 = .ok (.iconst 1, 1) := by decide +kernel
theorem dX4_init_29 : decode cX4_init 29 = .ok (.iastore, 1) := by decide +kernel
theorem dX4_init_30 : decode cX4_init 30 = .ok (.dup, 1) := by decide +kernel
theorem dX4_init_31 : decode cX4_init 31 = .ok (.iconst 3, 1) := by decide +kernel
theorem dX4_init_32 : decode cX4_init 32 = .ok (.iconst 0, 1) := by decide +kernel
theorem dX4_init_33 : decode cX4_init 33 = .ok (.iastore, 1) := by decide +kernel
theorem dX4_init_34 : decode cX4_init 34 = .ok (.putfield 13, 3) := by decide +kernel
theorem dX4_init_37 : decode cX4_init 37 = .ok (.aload_n 0, 1) := by decide +kernel
theorem dX4_init_38 : decode cX4_init 38 = .ok (.iconst 4, 1) := by decide +kernel
theorem dX4_init_39 : decode cX4_init 39 = .ok (.newarray .int, 2) := by decide +kernel
theorem dX4_init_41 : decode cX4_init 41 = .ok (.dup, 1) := by decide +kernel
theorem dX4_init_42 : decode cX4_init 42 = .ok (.iconst 0, 1) := by decide +kernel
theorem dX4_init_43 : decode cX4_init 43 = .ok (.sipush 200, 3) := by decide +kernel
theorem dX4_init_46 : decode cX4_init 46 = .ok (.iastore, 1) := by decide +kernel
theorem dX4_init_47 : decode cX4_init 47 = .ok (.dup, 1) := by decide +kernel
theorem dX4_init_48 : decode cX4_init 48 = .ok (.iconst 1, 1) := by decide +kernel
theorem dX4_init_49 : decode cX4_init 49 = .ok (.sipush 200, 3) := by decide +kernel
theorem dX4_init_52 : decode cX4_init 52 = .ok (.iastore, 1) := by decide +kernel
theorem dX4_init_53 : decode cX4_init 53 = .ok (.dup, 1) := by decide +kernel
theorem dX4_init_54 : decode cX4_init 54 = .ok (.iconst 2, 1) := by decide +kernel
theorem dX4_init_55 : decode cX4_init 55 = .ok (.bipush 60, 2) := by decide +kernel
theorem dX4_init_57 : decode cX4_init 57 = .ok (.iastore, 1) := by decide +kernel
theorem dX4_init_58 : decode cX4_init 58 = .ok (.dup, 1) := by decide +kernel
theorem dX4_init_59 : decode cX4_init 59 = .ok (.iconst 3, 1) := by decide +kernel
theorem dX4_init_60 : decode cX4_init 60 = .ok (.bipush 50, 2) := by decide +kernel
theorem dX4_init_62 : decode cX4_init 62 = .ok (.iastore, 1) := by decide +kernel
theorem dX4_init_63 : decode cX4_init 63 = .ok (.putfield 16, 3) := by decide +kernel
theorem dX4_init_66 : decode cX4_init 66 = .ok (.aload_n 0, 1) := by decide +kernel
theorem dX4_init_67 : decode cX4_init 67 = .ok (.bipush 100, 2) := by decide +kernel
theorem dX4_init_69 : decode cX4_init 69 = .ok (.newarray .int, 2) := by decide +kernel
theorem dX4_init_71 : decode cX4_init 71 = .ok (.putfield 19, 3) := by decide +kernel
theorem dX4_init_74 : decode cX4_init 74 = .ok (.aload_n 0, 1) := by decide +kernel
theorem dX4_init_75 : decode cX4_init 75 = .ok (.getfield 7, 3) := by decide +kernel
theorem dX4_init_78 : decode cX4_init 78 = .ok (.iconst 4, 1) := by decide +kernel
theorem dX4_init_79 : decode cX4_init 79 = .ok (.bipush 100, 2) := by decide +kernel
theorem dX4_init_81 : decode cX4_init 81 = .ok (.iastore, 1) := by decide +kernel
theorem dX4_init_82 : decode cX4_init 82 = .ok (.aload_n 0, 1) := by decide +kernel
theorem dX4_init_83 : decode cX4_init 83 = .ok (.getfield 7, 3) := by decide +kernel
theorem dX4_init_86 : decode cX4_init 86 = .ok (.iconst 5, 1) := by decide +kernel
theorem dX4_init_87 : decode cX4_init 87 = .ok (.bipush 25, 2) := by decide +kernel
theorem dX4_init_89 : decode cX4_init 89 = .ok (.iastore, 1) := by decide +kernel
theorem dX4_init_90 : decode cX4_init 90 = .ok (.aload_n 0, 1) := by decide +kernel
theorem dX4_init_91 : decode cX4_init 91 = .ok (.getfield 7, 3) := by decide +kernel
theorem dX4_init_94 : decode cX4_init 94 = .ok (.bipush 6, 2) := by decide +kernel
theorem dX4_init_96 : decode cX4_init 96 = .ok (.bipush 30, 2) := by decide +kernel
theorem dX4_init_98 : decode cX4_init 98 = .ok (.iastore, 1) := by decide +kernel
theorem dX4_init_99 : decode cX4_init 99 = .ok (.aload_n 0, 1) := by decide +kernel
theorem dX4_init_100 : decode cX4_init 100 = .ok (.getfield 7, 3) := by decide +kernel
theorem dX4_init_103 : decode cX4_init 103 = .ok (.bipush 7, 2) := by decide +kernel
theorem dX4_init_105 : decode cX4_init 105 = .ok (.bipush 20, 2) := by decide +kernel
theorem dX4_init_107 : decode cX4_init 107 = .ok (.iastore, 1) := by decide +kernel
theorem dX4_init_108 : decode cX4_init 108 = .ok (.return_, 1) := by decide +kernel
theorem dX4_in_0 : decode cX4_in 0 = .ok (.iload_n 0, 1) := by decide +kernel
theorem dX4_in_1 : decode cX4_in 1 = .ok (.iload_n 1, 1) := by decide +kernel
theorem dX4_in_2 : decode cX4_in 2 = .ok (.if_icmp .lt 12, 3) := by decide +kernel
theorem dX4_in_5 : decode cX4_in 5 = .ok (.iload_n 0, 1) := by decide +kernel
theorem dX4_in_6 : decode cX4_in 6 = .ok (.iload_n 2, 1) := by decide +kernel
theorem dX4_in_7 : decode cX4_in 7 = .ok (.if_icmp .gt 7, 3) := by decide +kernel
theorem dX4_in_10 : decode cX4_in 10 = .ok (.iconst 1, 1) := by decide +kernel
theorem dX4_in_11 : decode cX4_in 11 = .ok (.goto 4, 3) := by decide +kernel
theorem dX4_in_14 : decode cX4_in 14 = .ok (.iconst 0, 1) := by decide +kernel
theorem dX4_in_15 : decode cX4_in 15 = .ok (.ireturn, 1) := by decide +kernel
theorem dX4_lesser_0 : decode cX4_lesser 0 = .ok (.iload_n 0, 1) := by decide +kernel
theorem dX4_lesser_1 : decode cX4_lesser 1 = .ok (.iload_n 1, 1) := by decide +kernel
theorem dX4_lesser_2 : decode cX4_lesser 2 = .ok (.if_icmp .ge 7, 3) := by decide +kernel
theorem dX4_lesser_5 : decode cX4_lesser 5 = .ok (.iload_n 0, 1) := by decide +kernel
theorem dX4_lesser_6 : decode cX4_lesser 6 = .ok (.goto 4, 3) := by decide +kernel
theorem dX4_lesser_9 : decode cX4_lesser 9 = .ok (.iload_n 1, 1) := by decide +kernel
theorem dX4_lesser_10 : decode cX4_lesser 10 = .ok (.ireturn, 1) := by decide +kernel
theorem dX4_copies_0 : decode cX4_copies 0 = .ok (.iconst 0, 1) := by decide +kernel
theorem dX4_copies_1 : decode cX4_copies 1 = .ok (.istore_n 3, 1) := by decide +kernel
theorem dX4_copies_2 : decode cX4_copies 2 = .ok (.iload_n 3, 1) := by decide +kernel
theorem dX4_copies_3 : decode cX4_copies 3 = .ok (.sipush 413, 3) := by decide +kernel
theorem dX4_copies_6 : decode cX4_copies 6 = .ok (.if_icmp .ge 33, 3) := by decide +kernel
theorem dX4_copies_9 : decode cX4_copies 9 = .ok (.aload_n 0, 1) := by decide +kernel
theorem dX4_copies_10 : decode cX4_copies 10 = .ok (.getfield 7, 3) := by decide +kernel
theorem dX4_copies_13 : decode cX4_copies 13 = .ok (.sipush 413, 3) := by decide +kernel
theorem dX4_copies_16 : decode cX4_copies 16 = .ok (.iload_n 2, 1) := by decide +kernel
theorem dX4_copies_17 : decode cX4_copies 17 = .ok (.imul, 1) := by decide +kernel
theorem dX4_copies_18 : decode cX4_copies 18 = .ok (.iload_n 3, 1) := by decide +kernel
theorem dX4_copies_19 : decode cX4_copies 19 = .ok (.iadd, 1) := by decide +kernel
theorem dX4_copies_20 : decode cX4_copies 20 = .ok (.aload_n 0, 1) := by decide +kernel
theorem dX4_copies_21 : decode cX4_copies 21 = .ok (.getfield 7, 3) := by decide +kernel
theorem dX4_copies_24 : decode cX4_copies 24 = .ok (.sipush 413, 3) := by decide +kernel
theorem dX4_copies_27 : decode cX4_copies 27 = .ok (.iload_n 1, 1) := by decide +kernel
theorem dX4_copies_28 : decode cX4_copies 28 = .ok (.imul, 1) := by decide +kernel
theorem dX4_copies_29 : decode cX4_copies 29 = .ok (.iload_n 3, 1) := by decide +kernel
theorem dX4_copies_30 : decode cX4_copies 30 = .ok (.iadd, 1) := by decide +kernel
theorem dX4_copies_31 : decode cX4_copies 31 = .ok (.iaload, 1) := by decide +kernel
theorem dX4_copies_32 : decode cX4_copies 32 = .ok (.iastore, 1) := by decide +kernel
theorem dX4_copies_33 : decode cX4_copies 33 = .ok (.iinc 3 1, 3) := by decide +kernel
theorem dX4_copies_36 : decode cX4_copies 36 = .ok (.goto (-34), 3) := by decide +kernel
theorem dX4_copies_39 : decode cX4_copies 39 = .ok (.return_, 1) := by decide +kernel
theorem dX4_saves_0 : decode cX4_saves 0 = .ok (.iconst 1, 1) := by decide +kernel
theorem dX4_saves_1 : decode cX4_saves 1 = .ok (.istore_n 1, 1) := by decide +kernel
theorem dX4_saves_2 : decode cX4_saves 2 = .ok (.iload_n 1, 1) := by decide +kernel
theorem dX4_saves_3 : decode cX4_saves 3 = .ok (.iconst 5, 1) := by decide +kernel
theorem dX4_saves_4 : decode cX4_saves 4 = .ok (.if_icmp .ge 25, 3) := by decide +kernel
theorem dX4_saves_7 : decode cX4_saves 7 = .ok (.aload_n 0, 1) := by decide +kernel
theorem dX4_saves_8 : decode cX4_saves 8 = .ok (.getfield 22, 3) := by decide +kernel
theorem dX4_saves_11 : decode cX4_saves 11 = .ok (.iconst 5, 1) := by decide +kernel
theorem dX4_saves_12 : decode cX4_saves 12 = .ok (.if_icmp .ne 17, 3) := by decide +kernel
theorem dX4_saves_15 : decode cX4_saves 15 = .ok (.aload_n 0, 1) := by decide +kernel
theorem dX4_saves_16 : decode cX4_saves 16 = .ok (.iload_n 1, 1) := by decide +kernel
theorem dX4_saves_17 : decode cX4_saves 17 = .ok (.iconst 1, 1) := by decide +kernel
theorem dX4_saves_18 : decode cX4_saves 18 = .ok (.iadd, 1) := by decide +kernel
theorem dX4_saves_19 : decode cX4_saves 19 = .ok (.iload_n 1, 1) := by decide +kernel
theorem dX4_saves_20 : decode cX4_saves 20 = .ok (.invokevirtual 26, 3) := by decide +kernel
theorem dX4_saves_23 : decode cX4_saves 23 = .ok (.iinc 1 1, 3) := by decide +kernel
theorem dX4_saves_26 : decode cX4_saves 26 = .ok (.goto (-24), 3) := by decide +kernel
theorem dX4_saves_29 : decode cX4_saves 29 = .ok (.aload_n 0, 1) := by decide +kernel
theorem dX4_saves_30 : decode cX4_saves 30 = .ok (.dup, 1) := by decide +kernel
theorem dX4_saves_31 : decode cX4_saves 31 = .ok (.getfield 22, 3) := by decide +kernel
theorem dX4_saves_34 : decode cX4_saves 34 = .ok (.aload_n 0, 1) := by decide +kernel
theorem dX4_saves_35 : decode cX4_saves 35 = .ok (.getfield 22, 3) := by decide +kernel
theorem dX4_saves_38 : decode cX4_saves 38 = .ok (.iconst 5, 1) := by decide +kernel
theorem dX4_saves_39 : decode cX4_saves 39 = .ok (.if_icmp .ne 7, 3) := by decide +kernel
theorem dX4_saves_42 : decode cX4_saves 42 = .ok (.iconst 1, 1) := by decide +kernel
theorem dX4_saves_43 : decode cX4_saves 43 = .ok (.goto 4, 3) := by decide +kernel
theorem dX4_saves_46 : decode cX4_saves 46 = .ok (.iconst 0, 1) := by decide +kernel
theorem dX4_saves_47 : decode cX4_saves 47 = .ok (.isub, 1) := by decide +kernel
theorem dX4_saves_48 : decode cX4_saves 48 = .ok (.putfield 22, 3) := by decide +kernel
theorem dX4_saves_51 : decode cX4_saves 51 = .ok (.aload_n 0, 1) := by decide +kernel
theorem dX4_saves_52 : decode cX4_saves 52 = .ok (.dup, 1) := by decide +kernel
theorem dX4_saves_53 : decode cX4_saves 53 = .ok (.getfield 22, 3) := by decide +kernel
theorem dX4_saves_56 : decode cX4_saves 56 = .ok (.iconst 1, 1) := by decide +kernel
theorem dX4_saves_57 : decode cX4_saves 57 = .ok (.iadd, 1) := by decide +kernel
theorem dX4_saves_58 : decode cX4_saves 58 = .ok (.putfield 22, 3) := by decide +kernel
theorem dX4_saves_61 : decode cX4_saves 61 = .ok (.aload_n 0, 1) := by decide +kernel
theorem dX4_saves_62 : decode cX4_saves 62 = .ok (.iconst 0, 1) := by decide +kernel
theorem dX4_saves_63 : decode cX4_saves 63 = .ok (.aload_n 0, 1) := by decide +kernel
theorem dX4_saves_64 : decode cX4_saves 64 = .ok (.getfield 22, 3) := by decide +kernel
theorem dX4_saves_67 : decode cX4_saves 67 = .ok (.invokevirtual 26, 3) := by decide +kernel
theorem dX4_saves_70 : decode cX4_saves 70 = .ok (.return_, 1) := by decide +kernel
theorem dX4_isTitle_0 : decode cX4_isTitle 0 = .ok (.iload_n 1, 1) := by decide +kernel
theorem dX4_isTitle_1 : decode cX4_isTitle 1 = .ok (.iconst 0, 1) := by decide +kernel
theorem dX4_isTitle_2 : decode cX4_isTitle 2 = .ok (.aload_n 0, 1) := by decide +kernel
theorem dX4_isTitle_3 : decode cX4_isTitle 3 = .ok (.getfield 7, 3) := by decide +kernel
theorem dX4_isTitle_6 : decode cX4_isTitle 6 = .ok (.iconst 0, 1) := by decide +kernel
theorem dX4_isTitle_7 : decode cX4_isTitle 7 = .ok (.iaload, 1) := by decide +kernel
theorem dX4_isTitle_8 : decode cX4_isTitle 8 = .ok (.iconst 1, 1) := by decide +kernel
theorem dX4_isTitle_9 : decode cX4_isTitle 9 = .ok (.isub, 1) := by decide +kernel
theorem dX4_isTitle_10 : decode cX4_isTitle 10 = .ok (.invokestatic 30, 3) := by decide +kernel
theorem dX4_isTitle_13 : decode cX4_isTitle 13 = .ok (.ireturn, 1) := by decide +kernel
theorem dX4_isCourse_0 : decode cX4_isCourse 0 = .ok (.iload_n 1, 1) := by decide +kernel
theorem dX4_isCourse_1 : decode cX4_isCourse 1 = .ok (.iconst 0, 1) := by decide +kernel
theorem dX4_isCourse_2 : decode cX4_isCourse 2 = .ok (.aload_n 0, 1) := by decide +kernel
theorem dX4_isCourse_3 : decode cX4_isCourse 3 = .ok (.getfield 7, 3) := by decide +kernel
theorem dX4_isCourse_6 : decode cX4_isCourse 6 = .ok (.iconst 2, 1) := by decide +kernel
theorem dX4_isCourse_7 : decode cX4_isCourse 7 = .ok (.iaload, 1) := by decide +kernel
theorem dX4_isCourse_8 : decode cX4_isCourse 8 = .ok (.iconst 1, 1) := by decide +kernel
theorem dX4_isCourse_9 : decode cX4_isCourse 9 = .ok (.isub, 1) := by decide +kernel
theorem dX4_isCourse_10 : decode cX4_isCourse 10 = .ok (.invokestatic 30, 3) := by decide +kernel
theorem dX4_isCourse_13 : decode cX4_isCourse 13 = .ok (.ireturn, 1) := by decide +kernel
theorem dX4_isCopy_0 : decode cX4_isCopy 0 = .ok (.iload_n 1, 1) := by decide +kernel
theorem dX4_isCopy_1 : decode cX4_isCopy 1 = .ok (.iconst 0, 1) := by decide +kernel
theorem dX4_isCopy_2 : decode cX4_isCopy 2 = .ok (.aload_n 0, 1) := by decide +kernel
theorem dX4_isCopy_3 : decode cX4_isCopy 3 = .ok (.getfield 7, 3) := by decide +kernel
theorem dX4_isCopy_6 : decode cX4_isCopy 6 = .ok (.iconst 1, 1) := by decide +kernel
theorem dX4_isCopy_7 : decode cX4_isCopy 7 = .ok (.iaload, 1) := by decide +kernel
theorem dX4_isCopy_8 : decode cX4_isCopy 8 = .ok (.iconst 1, 1) := by decide +kernel
theorem dX4_isCopy_9 : decode cX4_isCopy 9 = .ok (.isub, 1) := by decide +kernel
theorem dX4_isCopy_10 : decode cX4_isCopy 10 = .ok (.invokestatic 30, 3) := by decide +kernel
theorem dX4_isCopy_13 : decode cX4_isCopy 13 = .ok (.ireturn, 1) := by decide +kernel
theorem dX4_isCustomer_0 : decode cX4_isCustomer 0 = .ok (.iload_n 0, 1) := by decide +kernel
theorem dX4_isCustomer_1 : decode cX4_isCustomer 1 = .ok (.iconst 0, 1) := by decide +kernel
theorem dX4_isCustomer_2 : decode cX4_isCustomer 2 = .ok (.bipush 7, 2) := by decide +kernel
theorem dX4_isCustomer_4 : decode cX4_isCustomer 4 = .ok (.invokestatic 30, 3) := by decide +kernel
theorem dX4_isCustomer_7 : decode cX4_isCustomer 7 = .ok (.ireturn, 1) := by decide +kernel
theorem dX4_price_0 : decode cX4_price 0 = .ok (.aload_n 0, 1) := by decide +kernel
theorem dX4_price_1 : decode cX4_price 1 = .ok (.getfield 7, 3) := by decide +kernel
theorem dX4_price_4 : decode cX4_price 4 = .ok (.bipush 23, 2) := by decide +kernel
theorem dX4_price_6 : decode cX4_price 6 = .ok (.iconst 2, 1) := by decide +kernel
theorem dX4_price_7 : decode cX4_price 7 = .ok (.iload_n 1, 1) := by decide +kernel
theorem dX4_price_8 : decode cX4_price 8 = .ok (.imul, 1) := by decide +kernel
theorem dX4_price_9 : decode cX4_price 9 = .ok (.iadd, 1) := by decide +kernel
theorem dX4_price_10 : decode cX4_price 10 = .ok (.iaload, 1) := by decide +kernel
theorem dX4_price_11 : decode cX4_price 11 = .ok (.ireturn, 1) := by decide +kernel
theorem dX4_current_0 : decode cX4_current 0 = .ok (.aload_n 0, 1) := by decide +kernel
theorem dX4_current_1 : decode cX4_current 1 = .ok (.getfield 7, 3) := by decide +kernel
theorem dX4_current_4 : decode cX4_current 4 = .ok (.bipush 23, 2) := by decide +kernel
theorem dX4_current_6 : decode cX4_current 6 = .ok (.iconst 2, 1) := by decide +kernel
theorem dX4_current_7 : decode cX4_current 7 = .ok (.iload_n 1, 1) := by decide +kernel
theorem dX4_current_8 : decode cX4_current 8 = .ok (.imul, 1) := by decide +kernel
theorem dX4_current_9 : decode cX4_current 9 = .ok (.iadd, 1) := by decide +kernel
theorem dX4_current_10 : decode cX4_current 10 = .ok (.iconst 1, 1) := by decide +kernel
theorem dX4_current_11 : decode cX4_current 11 = .ok (.iadd, 1) := by decide +kernel
theorem dX4_current_12 : decode cX4_current 12 = .ok (.iaload, 1) := by decide +kernel
theorem dX4_current_13 : decode cX4_current 13 = .ok (.ireturn, 1) := by decide +kernel
theorem dX4_ofCourse_0 : decode cX4_ofCourse 0 = .ok (.aload_n 0, 1) := by decide +kernel
theorem dX4_ofCourse_1 : decode cX4_ofCourse 1 = .ok (.getfield 7, 3) := by decide +kernel
theorem dX4_ofCourse_4 : decode cX4_ofCourse 4 = .ok (.bipush 35, 2) := by decide +kernel
theorem dX4_ofCourse_6 : decode cX4_ofCourse 6 = .ok (.iconst 3, 1) := by decide +kernel
theorem dX4_ofCourse_7 : decode cX4_ofCourse 7 = .ok (.iload_n 1, 1) := by decide +kernel
theorem dX4_ofCourse_8 : decode cX4_ofCourse 8 = .ok (.imul, 1) := by decide +kernel
theorem dX4_ofCourse_9 : decode cX4_ofCourse 9 = .ok (.iadd, 1) := by decide +kernel
theorem dX4_ofCourse_10 : decode cX4_ofCourse 10 = .ok (.iload_n 2, 1) := by decide +kernel
theorem dX4_ofCourse_11 : decode cX4_ofCourse 11 = .ok (.iadd, 1) := by decide +kernel
theorem dX4_ofCourse_12 : decode cX4_ofCourse 12 = .ok (.iaload, 1) := by decide +kernel
theorem dX4_ofCourse_13 : decode cX4_ofCourse 13 = .ok (.ireturn, 1) := by decide +kernel
theorem dX4_of_0 : decode cX4_of 0 = .ok (.aload_n 0, 1) := by decide +kernel
theorem dX4_of_1 : decode cX4_of 1 = .ok (.getfield 7, 3) := by decide +kernel
theorem dX4_of_4 : decode cX4_of 4 = .ok (.bipush 53, 2) := by decide +kernel
theorem dX4_of_6 : decode cX4_of 6 = .ok (.bipush 6, 2) := by decide +kernel
theorem dX4_of_8 : decode cX4_of 8 = .ok (.iload_n 1, 1) := by decide +kernel
theorem dX4_of_9 : decode cX4_of 9 = .ok (.imul, 1) := by decide +kernel
theorem dX4_of_10 : decode cX4_of 10 = .ok (.iadd, 1) := by decide +kernel
theorem dX4_of_11 : decode cX4_of 11 = .ok (.iload_n 2, 1) := by decide +kernel
theorem dX4_of_12 : decode cX4_of 12 = .ok (.iadd, 1) := by decide +kernel
theorem dX4_of_13 : decode cX4_of 13 = .ok (.iaload, 1) := by decide +kernel
theorem dX4_of_14 : decode cX4_of 14 = .ok (.ireturn, 1) := by decide +kernel
theorem dX4_sets_0 : decode cX4_sets 0 = .ok (.aload_n 0, 1) := by decide +kernel
theorem dX4_sets_1 : decode cX4_sets 1 = .ok (.getfield 7, 3) := by decide +kernel
theorem dX4_sets_4 : decode cX4_sets 4 = .ok (.bipush 53, 2) := by decide +kernel
theorem dX4_sets_6 : decode cX4_sets 6 = .ok (.bipush 6, 2) := by decide +kernel
theorem dX4_sets_8 : decode cX4_sets 8 = .ok (.iload_n 1, 1) := by decide +kernel
theorem dX4_sets_9 : decode cX4_sets 9 = .ok (.imul, 1) := by decide +kernel
theorem dX4_sets_10 : decode cX4_sets 10 = .ok (.iadd, 1) := by decide +kernel
theorem dX4_sets_11 : decode cX4_sets 11 = .ok (.iload_n 2, 1) := by decide +kernel
theorem dX4_sets_12 : decode cX4_sets 12 = .ok (.iadd, 1) := by decide +kernel
theorem dX4_sets_13 : decode cX4_sets 13 = .ok (.iload_n 3, 1) := by decide +kernel
theorem dX4_sets_14 : decode cX4_sets 14 = .ok (.iastore, 1) := by decide +kernel
theorem dX4_sets_15 : decode cX4_sets 15 = .ok (.return_, 1) := by decide +kernel
theorem dX4_is_0 : decode cX4_is 0 = .ok (.aload_n 0, 1) := by decide +kernel
theorem dX4_is_1 : decode cX4_is 1 = .ok (.iload_n 1, 1) := by decide +kernel
theorem dX4_is_2 : decode cX4_is 2 = .ok (.iconst 3, 1) := by decide +kernel
theorem dX4_is_3 : decode cX4_is 3 = .ok (.invokevirtual 34, 3) := by decide +kernel
theorem dX4_is_6 : decode cX4_is 6 = .ok (.iload_n 2, 1) := by decide +kernel
theorem dX4_is_7 : decode cX4_is 7 = .ok (.if_icmp .ne 7, 3) := by decide +kernel
theorem dX4_is_10 : decode cX4_is 10 = .ok (.iconst 1, 1) := by decide +kernel
theorem dX4_is_11 : decode cX4_is 11 = .ok (.goto 4, 3) := by decide +kernel
theorem dX4_is_14 : decode cX4_is 14 = .ok (.iconst 0, 1) := by decide +kernel
theorem dX4_is_15 : decode cX4_is 15 = .ok (.ireturn, 1) := by decide +kernel
theorem dX4_worth_0 : decode cX4_worth 0 = .ok (.aload_n 0, 1) := by decide +kernel
theorem dX4_worth_1 : decode cX4_worth 1 = .ok (.iload_n 1, 1) := by decide +kernel
theorem dX4_worth_2 : decode cX4_worth 2 = .ok (.invokevirtual 38, 3) := by decide +kernel
theorem dX4_worth_5 : decode cX4_worth 5 = .ok (.bipush 100, 2) := by decide +kernel
theorem dX4_worth_7 : decode cX4_worth 7 = .ok (.bipush 20, 2) := by decide +kernel
theorem dX4_worth_9 : decode cX4_worth 9 = .ok (.iload_n 3, 1) := by decide +kernel
theorem dX4_worth_10 : decode cX4_worth 10 = .ok (.imul, 1) := by decide +kernel
theorem dX4_worth_11 : decode cX4_worth 11 = .ok (.isub, 1) := by decide +kernel
theorem dX4_worth_12 : decode cX4_worth 12 = .ok (.imul, 1) := by decide +kernel
theorem dX4_worth_13 : decode cX4_worth 13 = .ok (.bipush 100, 2) := by decide +kernel
theorem dX4_worth_15 : decode cX4_worth 15 = .ok (.idiv, 1) := by decide +kernel
theorem dX4_worth_16 : decode cX4_worth 16 = .ok (.istore 4, 2) := by decide +kernel
theorem dX4_worth_18 : decode cX4_worth 18 = .ok (.iload_n 2, 1) := by decide +kernel
theorem dX4_worth_19 : decode cX4_worth 19 = .ok (.aload_n 0, 1) := by decide +kernel
theorem dX4_worth_20 : decode cX4_worth 20 = .ok (.iload_n 1, 1) := by decide +kernel
theorem dX4_worth_21 : decode cX4_worth 21 = .ok (.invokevirtual 42, 3) := by decide +kernel
theorem dX4_worth_24 : decode cX4_worth 24 = .ok (.if_icmp .ge 13, 3) := by decide +kernel
theorem dX4_worth_27 : decode cX4_worth 27 = .ok (.aload_n 0, 1) := by decide +kernel
theorem dX4_worth_28 : decode cX4_worth 28 = .ok (.iload_n 1, 1) := by decide +kernel
theorem dX4_worth_29 : decode cX4_worth 29 = .ok (.invokevirtual 42, 3) := by decide +kernel
theorem dX4_worth_32 : decode cX4_worth 32 = .ok (.iload_n 2, 1) := by decide +kernel
theorem dX4_worth_33 : decode cX4_worth 33 = .ok (.isub, 1) := by decide +kernel
theorem dX4_worth_34 : decode cX4_worth 34 = .ok (.goto 4, 3) := by decide +kernel
theorem dX4_worth_37 : decode cX4_worth 37 = .ok (.iconst 0, 1) := by decide +kernel
theorem dX4_worth_38 : decode cX4_worth 38 = .ok (.istore 5, 2) := by decide +kernel
theorem dX4_worth_40 : decode cX4_worth 40 = .ok (.iload 4, 2) := by decide +kernel
theorem dX4_worth_42 : decode cX4_worth 42 = .ok (.iload 4, 2) := by decide +kernel
theorem dX4_worth_44 : decode cX4_worth 44 = .ok (.bipush 100, 2) := by decide +kernel
theorem dX4_worth_46 : decode cX4_worth 46 = .ok (.aload_n 0, 1) := by decide +kernel
theorem dX4_worth_47 : decode cX4_worth 47 = .ok (.getfield 7, 3) := by decide +kernel
theorem dX4_worth_50 : decode cX4_worth 50 = .ok (.bipush 7, 2) := by decide +kernel
theorem dX4_worth_52 : decode cX4_worth 52 = .ok (.iaload, 1) := by decide +kernel
theorem dX4_worth_53 : decode cX4_worth 53 = .ok (.iload 5, 2) := by decide +kernel
theorem dX4_worth_55 : decode cX4_worth 55 = .ok (.imul, 1) := by decide +kernel
theorem dX4_worth_56 : decode cX4_worth 56 = .ok (.invokestatic 45, 3) := by decide +kernel
theorem dX4_worth_59 : decode cX4_worth 59 = .ok (.imul, 1) := by decide +kernel
theorem dX4_worth_60 : decode cX4_worth 60 = .ok (.bipush 100, 2) := by decide +kernel
theorem dX4_worth_62 : decode cX4_worth 62 = .ok (.idiv, 1) := by decide +kernel
theorem dX4_worth_63 : decode cX4_worth 63 = .ok (.isub, 1) := by decide +kernel
theorem dX4_worth_64 : decode cX4_worth 64 = .ok (.ireturn, 1) := by decide +kernel
theorem dX4_worthOf_0 : decode cX4_worthOf 0 = .ok (.aload_n 0, 1) := by decide +kernel
theorem dX4_worthOf_1 : decode cX4_worthOf 1 = .ok (.aload_n 0, 1) := by decide +kernel
theorem dX4_worthOf_2 : decode cX4_worthOf 2 = .ok (.iload_n 1, 1) := by decide +kernel
theorem dX4_worthOf_3 : decode cX4_worthOf 3 = .ok (.iconst 0, 1) := by decide +kernel
theorem dX4_worthOf_4 : decode cX4_worthOf 4 = .ok (.invokevirtual 34, 3) := by decide +kernel
theorem dX4_worthOf_7 : decode cX4_worthOf 7 = .ok (.aload_n 0, 1) := by decide +kernel
theorem dX4_worthOf_8 : decode cX4_worthOf 8 = .ok (.iload_n 1, 1) := by decide +kernel
theorem dX4_worthOf_9 : decode cX4_worthOf 9 = .ok (.iconst 1, 1) := by decide +kernel
theorem dX4_worthOf_10 : decode cX4_worthOf 10 = .ok (.invokevirtual 34, 3) := by decide +kernel
theorem dX4_worthOf_13 : decode cX4_worthOf 13 = .ok (.aload_n 0, 1) := by decide +kernel
theorem dX4_worthOf_14 : decode cX4_worthOf 14 = .ok (.iload_n 1, 1) := by decide +kernel
theorem dX4_worthOf_15 : decode cX4_worthOf 15 = .ok (.iconst 2, 1) := by decide +kernel
theorem dX4_worthOf_16 : decode cX4_worthOf 16 = .ok (.invokevirtual 34, 3) := by decide +kernel
theorem dX4_worthOf_19 : decode cX4_worthOf 19 = .ok (.invokevirtual 48, 3) := by decide +kernel
theorem dX4_worthOf_22 : decode cX4_worthOf 22 = .ok (.ireturn, 1) := by decide +kernel
theorem dX4_isOfUse_0 : decode cX4_isOfUse 0 = .ok (.iconst 0, 1) := by decide +kernel
theorem dX4_isOfUse_1 : decode cX4_isOfUse 1 = .ok (.istore_n 3, 1) := by decide +kernel
theorem dX4_isOfUse_2 : decode cX4_isOfUse 2 = .ok (.iconst 0, 1) := by decide +kernel
theorem dX4_isOfUse_3 : decode cX4_isOfUse 3 = .ok (.istore 4, 2) := by decide +kernel
theorem dX4_isOfUse_5 : decode cX4_isOfUse 5 = .ok (.iload 4, 2) := by decide +kernel
theorem dX4_isOfUse_7 : decode cX4_isOfUse 7 = .ok (.aload_n 0, 1) := by decide +kernel
theorem dX4_isOfUse_8 : decode cX4_isOfUse 8 = .ok (.getfield 7, 3) := by decide +kernel
theorem dX4_isOfUse_11 : decode cX4_isOfUse 11 = .ok (.iconst 2, 1) := by decide +kernel
theorem dX4_isOfUse_12 : decode cX4_isOfUse 12 = .ok (.iaload, 1) := by decide +kernel
theorem dX4_isOfUse_13 : decode cX4_isOfUse 13 = .ok (.if_icmp .ge 41, 3) := by decide +kernel
theorem dX4_isOfUse_16 : decode cX4_isOfUse 16 = .ok (.iload_n 3, 1) := by decide +kernel
theorem dX4_isOfUse_17 : decode cX4_isOfUse 17 = .ok (.ifCond .ne 25, 3) := by decide +kernel
theorem dX4_isOfUse_20 : decode cX4_isOfUse 20 = .ok (.aload_n 0, 1) := by decide +kernel
theorem dX4_isOfUse_21 : decode cX4_isOfUse 21 = .ok (.iload 4, 2) := by decide +kernel
theorem dX4_isOfUse_23 : decode cX4_isOfUse 23 = .ok (.iconst 0, 1) := by decide +kernel
theorem dX4_isOfUse_24 : decode cX4_isOfUse 24 = .ok (.invokevirtual 52, 3) := by decide +kernel
theorem dX4_isOfUse_27 : decode cX4_isOfUse 27 = .ok (.iload_n 1, 1) := by decide +kernel
theorem dX4_isOfUse_28 : decode cX4_isOfUse 28 = .ok (.if_icmp .ne 18, 3) := by decide +kernel
theorem dX4_isOfUse_31 : decode cX4_isOfUse 31 = .ok (.iload_n 2, 1) := by decide +kernel
theorem dX4_isOfUse_32 : decode cX4_isOfUse 32 = .ok (.aload_n 0, 1) := by decide +kernel
theorem dX4_isOfUse_33 : decode cX4_isOfUse 33 = .ok (.iload 4, 2) := by decide +kernel
theorem dX4_isOfUse_35 : decode cX4_isOfUse 35 = .ok (.iconst 1, 1) := by decide +kernel
theorem dX4_isOfUse_36 : decode cX4_isOfUse 36 = .ok (.invokevirtual 52, 3) := by decide +kernel
theorem dX4_isOfUse_39 : decode cX4_isOfUse 39 = .ok (.if_icmp .lt 7, 3) := by decide +kernel
theorem dX4_isOfUse_42 : decode cX4_isOfUse 42 = .ok (.iconst 1, 1) := by decide +kernel
theorem dX4_isOfUse_43 : decode cX4_isOfUse 43 = .ok (.goto 4, 3) := by decide +kernel
theorem dX4_isOfUse_46 : decode cX4_isOfUse 46 = .ok (.iconst 0, 1) := by decide +kernel
theorem dX4_isOfUse_47 : decode cX4_isOfUse 47 = .ok (.istore_n 3, 1) := by decide +kernel
theorem dX4_isOfUse_48 : decode cX4_isOfUse 48 = .ok (.iinc 4 1, 3) := by decide +kernel
theorem dX4_isOfUse_51 : decode cX4_isOfUse 51 = .ok (.goto (-46), 3) := by decide +kernel
theorem dX4_isOfUse_54 : decode cX4_isOfUse 54 = .ok (.iload_n 3, 1) := by decide +kernel
theorem dX4_isOfUse_55 : decode cX4_isOfUse 55 = .ok (.ireturn, 1) := by decide +kernel
theorem dX4_demand_0 : decode cX4_demand 0 = .ok (.iconst 0, 1) := by decide +kernel
theorem dX4_demand_1 : decode cX4_demand 1 = .ok (.istore_n 2, 1) := by decide +kernel
theorem dX4_demand_2 : decode cX4_demand 2 = .ok (.iconst 0, 1) := by decide +kernel
theorem dX4_demand_3 : decode cX4_demand 3 = .ok (.istore_n 3, 1) := by decide +kernel
theorem dX4_demand_4 : decode cX4_demand 4 = .ok (.iload_n 3, 1) := by decide +kernel
theorem dX4_demand_5 : decode cX4_demand 5 = .ok (.aload_n 0, 1) := by decide +kernel
theorem dX4_demand_6 : decode cX4_demand 6 = .ok (.getfield 7, 3) := by decide +kernel
theorem dX4_demand_9 : decode cX4_demand 9 = .ok (.iconst 2, 1) := by decide +kernel
theorem dX4_demand_10 : decode cX4_demand 10 = .ok (.iaload, 1) := by decide +kernel
theorem dX4_demand_11 : decode cX4_demand 11 = .ok (.if_icmp .ge 32, 3) := by decide +kernel
theorem dX4_demand_14 : decode cX4_demand 14 = .ok (.iload_n 2, 1) := by decide +kernel
theorem dX4_demand_15 : decode cX4_demand 15 = .ok (.aload_n 0, 1) := by decide +kernel
theorem dX4_demand_16 : decode cX4_demand 16 = .ok (.iload_n 3, 1) := by decide +kernel
theorem dX4_demand_17 : decode cX4_demand 17 = .ok (.iconst 0, 1) := by decide +kernel
theorem dX4_demand_18 : decode cX4_demand 18 = .ok (.invokevirtual 52, 3) := by decide +kernel
theorem dX4_demand_21 : decode cX4_demand 21 = .ok (.iload_n 1, 1) := by decide +kernel
theorem dX4_demand_22 : decode cX4_demand 22 = .ok (.if_icmp .ne 12, 3) := by decide +kernel
theorem dX4_demand_25 : decode cX4_demand 25 = .ok (.aload_n 0, 1) := by decide +kernel
theorem dX4_demand_26 : decode cX4_demand 26 = .ok (.iload_n 3, 1) := by decide +kernel
theorem dX4_demand_27 : decode cX4_demand 27 = .ok (.iconst 2, 1) := by decide +kernel
theorem dX4_demand_28 : decode cX4_demand 28 = .ok (.invokevirtual 52, 3) := by decide +kernel
theorem dX4_demand_31 : decode cX4_demand 31 = .ok (.goto 4, 3) := by decide +kernel
theorem dX4_demand_34 : decode cX4_demand 34 = .ok (.iconst 0, 1) := by decide +kernel
theorem dX4_demand_35 : decode cX4_demand 35 = .ok (.iadd, 1) := by decide +kernel
theorem dX4_demand_36 : decode cX4_demand 36 = .ok (.istore_n 2, 1) := by decide +kernel
theorem dX4_demand_37 : decode cX4_demand 37 = .ok (.iinc 3 1, 3) := by decide +kernel
theorem dX4_demand_40 : decode cX4_demand 40 = .ok (.goto (-36), 3) := by decide +kernel
theorem dX4_demand_43 : decode cX4_demand 43 = .ok (.iload_n 2, 1) := by decide +kernel
theorem dX4_demand_44 : decode cX4_demand 44 = .ok (.ireturn, 1) := by decide +kernel
theorem dX4_supply_0 : decode cX4_supply 0 = .ok (.iconst 0, 1) := by decide +kernel
theorem dX4_supply_1 : decode cX4_supply 1 = .ok (.istore_n 2, 1) := by decide +kernel
theorem dX4_supply_2 : decode cX4_supply 2 = .ok (.iconst 0, 1) := by decide +kernel
theorem dX4_supply_3 : decode cX4_supply 3 = .ok (.istore_n 3, 1) := by decide +kernel
theorem dX4_supply_4 : decode cX4_supply 4 = .ok (.iload_n 3, 1) := by decide +kernel
theorem dX4_supply_5 : decode cX4_supply 5 = .ok (.aload_n 0, 1) := by decide +kernel
theorem dX4_supply_6 : decode cX4_supply 6 = .ok (.getfield 7, 3) := by decide +kernel
theorem dX4_supply_9 : decode cX4_supply 9 = .ok (.iconst 1, 1) := by decide +kernel
theorem dX4_supply_10 : decode cX4_supply 10 = .ok (.iaload, 1) := by decide +kernel
theorem dX4_supply_11 : decode cX4_supply 11 = .ok (.if_icmp .ge 59, 3) := by decide +kernel
theorem dX4_supply_14 : decode cX4_supply 14 = .ok (.iload_n 2, 1) := by decide +kernel
theorem dX4_supply_15 : decode cX4_supply 15 = .ok (.aload_n 0, 1) := by decide +kernel
theorem dX4_supply_16 : decode cX4_supply 16 = .ok (.iload_n 3, 1) := by decide +kernel
theorem dX4_supply_17 : decode cX4_supply 17 = .ok (.iconst 0, 1) := by decide +kernel
theorem dX4_supply_18 : decode cX4_supply 18 = .ok (.invokevirtual 34, 3) := by decide +kernel
theorem dX4_supply_21 : decode cX4_supply 21 = .ok (.iload_n 1, 1) := by decide +kernel
theorem dX4_supply_22 : decode cX4_supply 22 = .ok (.if_icmp .ne 39, 3) := by decide +kernel
theorem dX4_supply_25 : decode cX4_supply 25 = .ok (.aload_n 0, 1) := by decide +kernel
theorem dX4_supply_26 : decode cX4_supply 26 = .ok (.iload_n 3, 1) := by decide +kernel
theorem dX4_supply_27 : decode cX4_supply 27 = .ok (.iconst 0, 1) := by decide +kernel
theorem dX4_supply_28 : decode cX4_supply 28 = .ok (.invokevirtual 55, 3) := by decide +kernel
theorem dX4_supply_31 : decode cX4_supply 31 = .ok (.ifCond .ne 12, 3) := by decide +kernel
theorem dX4_supply_34 : decode cX4_supply 34 = .ok (.aload_n 0, 1) := by decide +kernel
theorem dX4_supply_35 : decode cX4_supply 35 = .ok (.iload_n 3, 1) := by decide +kernel
theorem dX4_supply_36 : decode cX4_supply 36 = .ok (.iconst 1, 1) := by decide +kernel
theorem dX4_supply_37 : decode cX4_supply 37 = .ok (.invokevirtual 55, 3) := by decide +kernel
theorem dX4_supply_40 : decode cX4_supply 40 = .ok (.ifCond .eq 21, 3) := by decide +kernel
theorem dX4_supply_43 : decode cX4_supply 43 = .ok (.aload_n 0, 1) := by decide +kernel
theorem dX4_supply_44 : decode cX4_supply 44 = .ok (.iload_n 1, 1) := by decide +kernel
theorem dX4_supply_45 : decode cX4_supply 45 = .ok (.aload_n 0, 1) := by decide +kernel
theorem dX4_supply_46 : decode cX4_supply 46 = .ok (.iload_n 3, 1) := by decide +kernel
theorem dX4_supply_47 : decode cX4_supply 47 = .ok (.iconst 1, 1) := by decide +kernel
theorem dX4_supply_48 : decode cX4_supply 48 = .ok (.invokevirtual 34, 3) := by decide +kernel
theorem dX4_supply_51 : decode cX4_supply 51 = .ok (.invokevirtual 59, 3) := by decide +kernel
theorem dX4_supply_54 : decode cX4_supply 54 = .ok (.ifCond .eq 7, 3) := by decide +kernel
theorem dX4_supply_57 : decode cX4_supply 57 = .ok (.iconst 1, 1) := by decide +kernel
theorem dX4_supply_58 : decode cX4_supply 58 = .ok (.goto 4, 3) := by decide +kernel
theorem dX4_supply_61 : decode cX4_supply 61 = .ok (.iconst 0, 1) := by decide +kernel
theorem dX4_supply_62 : decode cX4_supply 62 = .ok (.iadd, 1) := by decide +kernel
theorem dX4_supply_63 : decode cX4_supply 63 = .ok (.istore_n 2, 1) := by decide +kernel
theorem dX4_supply_64 : decode cX4_supply 64 = .ok (.iinc 3 1, 3) := by decide +kernel
theorem dX4_supply_67 : decode cX4_supply 67 = .ok (.goto (-63), 3) := by decide +kernel
theorem dX4_supply_70 : decode cX4_supply 70 = .ok (.iload_n 2, 1) := by decide +kernel
theorem dX4_supply_71 : decode cX4_supply 71 = .ok (.ireturn, 1) := by decide +kernel
theorem dX4_inState_0 : decode cX4_inState 0 = .ok (.iconst 0, 1) := by decide +kernel
theorem dX4_inState_1 : decode cX4_inState 1 = .ok (.istore_n 2, 1) := by decide +kernel
theorem dX4_inState_2 : decode cX4_inState 2 = .ok (.iconst 0, 1) := by decide +kernel
theorem dX4_inState_3 : decode cX4_inState 3 = .ok (.istore_n 3, 1) := by decide +kernel
theorem dX4_inState_4 : decode cX4_inState 4 = .ok (.iload_n 3, 1) := by decide +kernel
theorem dX4_inState_5 : decode cX4_inState 5 = .ok (.aload_n 0, 1) := by decide +kernel
theorem dX4_inState_6 : decode cX4_inState 6 = .ok (.getfield 7, 3) := by decide +kernel
theorem dX4_inState_9 : decode cX4_inState 9 = .ok (.iconst 1, 1) := by decide +kernel
theorem dX4_inState_10 : decode cX4_inState 10 = .ok (.iaload, 1) := by decide +kernel
theorem dX4_inState_11 : decode cX4_inState 11 = .ok (.if_icmp .ge 26, 3) := by decide +kernel
theorem dX4_inState_14 : decode cX4_inState 14 = .ok (.iload_n 2, 1) := by decide +kernel
theorem dX4_inState_15 : decode cX4_inState 15 = .ok (.aload_n 0, 1) := by decide +kernel
theorem dX4_inState_16 : decode cX4_inState 16 = .ok (.iload_n 3, 1) := by decide +kernel
theorem dX4_inState_17 : decode cX4_inState 17 = .ok (.iload_n 1, 1) := by decide +kernel
theorem dX4_inState_18 : decode cX4_inState 18 = .ok (.invokevirtual 55, 3) := by decide +kernel
theorem dX4_inState_21 : decode cX4_inState 21 = .ok (.ifCond .eq 7, 3) := by decide +kernel
theorem dX4_inState_24 : decode cX4_inState 24 = .ok (.iconst 1, 1) := by decide +kernel
theorem dX4_inState_25 : decode cX4_inState 25 = .ok (.goto 4, 3) := by decide +kernel
theorem dX4_inState_28 : decode cX4_inState 28 = .ok (.iconst 0, 1) := by decide +kernel
theorem dX4_inState_29 : decode cX4_inState 29 = .ok (.iadd, 1) := by decide +kernel
theorem dX4_inState_30 : decode cX4_inState 30 = .ok (.istore_n 2, 1) := by decide +kernel
theorem dX4_inState_31 : decode cX4_inState 31 = .ok (.iinc 3 1, 3) := by decide +kernel
theorem dX4_inState_34 : decode cX4_inState 34 = .ok (.goto (-30), 3) := by decide +kernel
theorem dX4_inState_37 : decode cX4_inState 37 = .ok (.iload_n 2, 1) := by decide +kernel
theorem dX4_inState_38 : decode cX4_inState 38 = .ok (.ireturn, 1) := by decide +kernel
theorem dX4_ofTitle_0 : decode cX4_ofTitle 0 = .ok (.iconst 0, 1) := by decide +kernel
theorem dX4_ofTitle_1 : decode cX4_ofTitle 1 = .ok (.istore_n 3, 1) := by decide +kernel
theorem dX4_ofTitle_2 : decode cX4_ofTitle 2 = .ok (.iconst 0, 1) := by decide +kernel
theorem dX4_ofTitle_3 : decode cX4_ofTitle 3 = .ok (.istore 4, 2) := by decide +kernel
theorem dX4_ofTitle_5 : decode cX4_ofTitle 5 = .ok (.iload 4, 2) := by decide +kernel
theorem dX4_ofTitle_7 : decode cX4_ofTitle 7 = .ok (.aload_n 0, 1) := by decide +kernel
theorem dX4_ofTitle_8 : decode cX4_ofTitle 8 = .ok (.getfield 7, 3) := by decide +kernel
theorem dX4_ofTitle_11 : decode cX4_ofTitle 11 = .ok (.iconst 1, 1) := by decide +kernel
theorem dX4_ofTitle_12 : decode cX4_ofTitle 12 = .ok (.iaload, 1) := by decide +kernel
theorem dX4_ofTitle_13 : decode cX4_ofTitle 13 = .ok (.if_icmp .ge 43, 3) := by decide +kernel
theorem dX4_ofTitle_16 : decode cX4_ofTitle 16 = .ok (.iload_n 3, 1) := by decide +kernel
theorem dX4_ofTitle_17 : decode cX4_ofTitle 17 = .ok (.aload_n 0, 1) := by decide +kernel
theorem dX4_ofTitle_18 : decode cX4_ofTitle 18 = .ok (.iload 4, 2) := by decide +kernel
theorem dX4_ofTitle_20 : decode cX4_ofTitle 20 = .ok (.iconst 0, 1) := by decide +kernel
theorem dX4_ofTitle_21 : decode cX4_ofTitle 21 = .ok (.invokevirtual 34, 3) := by decide +kernel
theorem dX4_ofTitle_24 : decode cX4_ofTitle 24 = .ok (.iload_n 1, 1) := by decide +kernel
theorem dX4_ofTitle_25 : decode cX4_ofTitle 25 = .ok (.if_icmp .ne 22, 3) := by decide +kernel
theorem dX4_ofTitle_28 : decode cX4_ofTitle 28 = .ok (.iload_n 2, 1) := by decide +kernel
theorem dX4_ofTitle_29 : decode cX4_ofTitle 29 = .ok (.iconst (-1), 1) := by decide +kernel
theorem dX4_ofTitle_30 : decode cX4_ofTitle 30 = .ok (.if_icmp .eq 13, 3) := by decide +kernel
theorem dX4_ofTitle_33 : decode cX4_ofTitle 33 = .ok (.aload_n 0, 1) := by decide +kernel
theorem dX4_ofTitle_34 : decode cX4_ofTitle 34 = .ok (.iload 4, 2) := by decide +kernel
theorem dX4_ofTitle_36 : decode cX4_ofTitle 36 = .ok (.iload_n 2, 1) := by decide +kernel
theorem dX4_ofTitle_37 : decode cX4_ofTitle 37 = .ok (.invokevirtual 55, 3) := by decide +kernel
theorem dX4_ofTitle_40 : decode cX4_ofTitle 40 = .ok (.ifCond .eq 7, 3) := by decide +kernel
theorem dX4_ofTitle_43 : decode cX4_ofTitle 43 = .ok (.iconst 1, 1) := by decide +kernel
theorem dX4_ofTitle_44 : decode cX4_ofTitle 44 = .ok (.goto 4, 3) := by decide +kernel
theorem dX4_ofTitle_47 : decode cX4_ofTitle 47 = .ok (.iconst 0, 1) := by decide +kernel
theorem dX4_ofTitle_48 : decode cX4_ofTitle 48 = .ok (.iadd, 1) := by decide +kernel
theorem dX4_ofTitle_49 : decode cX4_ofTitle 49 = .ok (.istore_n 3, 1) := by decide +kernel
theorem dX4_ofTitle_50 : decode cX4_ofTitle 50 = .ok (.iinc 4 1, 3) := by decide +kernel
theorem dX4_ofTitle_53 : decode cX4_ofTitle 53 = .ok (.goto (-48), 3) := by decide +kernel
theorem dX4_ofTitle_56 : decode cX4_ofTitle 56 = .ok (.iload_n 3, 1) := by decide +kernel
theorem dX4_ofTitle_57 : decode cX4_ofTitle 57 = .ok (.ireturn, 1) := by decide +kernel
theorem dX4_addTitle_0 : decode cX4_addTitle 0 = .ok (.iload_n 1, 1) := by decide +kernel
theorem dX4_addTitle_1 : decode cX4_addTitle 1 = .ok (.bipush 100, 2) := by decide +kernel
theorem dX4_addTitle_3 : decode cX4_addTitle 3 = .ok (.sipush 20000, 3) := by decide +kernel
theorem dX4_addTitle_6 : decode cX4_addTitle 6 = .ok (.invokestatic 30, 3) := by decide +kernel
theorem dX4_addTitle_9 : decode cX4_addTitle 9 = .ok (.ifCond .eq 13, 3) := by decide +kernel
theorem dX4_addTitle_12 : decode cX4_addTitle 12 = .ok (.iload_n 2, 1) := by decide +kernel
theorem dX4_addTitle_13 : decode cX4_addTitle 13 = .ok (.iconst 1, 1) := by decide +kernel
theorem dX4_addTitle_14 : decode cX4_addTitle 14 = .ok (.bipush 30, 2) := by decide +kernel
theorem dX4_addTitle_16 : decode cX4_addTitle 16 = .ok (.invokestatic 30, 3) := by decide +kernel
theorem dX4_addTitle_19 : decode cX4_addTitle 19 = .ok (.ifCond .ne 6, 3) := by decide +kernel
theorem dX4_addTitle_22 : decode cX4_addTitle 22 = .ok (.bipush (-3), 2) := by decide +kernel
theorem dX4_addTitle_24 : decode cX4_addTitle 24 = .ok (.ireturn, 1) := by decide +kernel
theorem dX4_addTitle_25 : decode cX4_addTitle 25 = .ok (.aload_n 0, 1) := by decide +kernel
theorem dX4_addTitle_26 : decode cX4_addTitle 26 = .ok (.getfield 7, 3) := by decide +kernel
theorem dX4_addTitle_29 : decode cX4_addTitle 29 = .ok (.iconst 0, 1) := by decide +kernel
theorem dX4_addTitle_30 : decode cX4_addTitle 30 = .ok (.iaload, 1) := by decide +kernel
theorem dX4_addTitle_31 : decode cX4_addTitle 31 = .ok (.bipush 6, 2) := by decide +kernel
theorem dX4_addTitle_33 : decode cX4_addTitle 33 = .ok (.if_icmp .ne 6, 3) := by decide +kernel
theorem dX4_addTitle_36 : decode cX4_addTitle 36 = .ok (.bipush (-5), 2) := by decide +kernel
theorem dX4_addTitle_38 : decode cX4_addTitle 38 = .ok (.ireturn, 1) := by decide +kernel
theorem dX4_addTitle_39 : decode cX4_addTitle 39 = .ok (.aload_n 0, 1) := by decide +kernel
theorem dX4_addTitle_40 : decode cX4_addTitle 40 = .ok (.invokevirtual 62, 3) := by decide +kernel
theorem dX4_addTitle_43 : decode cX4_addTitle 43 = .ok (.aload_n 0, 1) := by decide +kernel
theorem dX4_addTitle_44 : decode cX4_addTitle 44 = .ok (.getfield 7, 3) := by decide +kernel
theorem dX4_addTitle_47 : decode cX4_addTitle 47 = .ok (.bipush 23, 2) := by decide +kernel
theorem dX4_addTitle_49 : decode cX4_addTitle 49 = .ok (.iconst 2, 1) := by decide +kernel
theorem dX4_addTitle_50 : decode cX4_addTitle 50 = .ok (.aload_n 0, 1) := by decide +kernel
theorem dX4_addTitle_51 : decode cX4_addTitle 51 = .ok (.getfield 7, 3) := by decide +kernel
theorem dX4_addTitle_54 : decode cX4_addTitle 54 = .ok (.iconst 0, 1) := by decide +kernel
theorem dX4_addTitle_55 : decode cX4_addTitle 55 = .ok (.iaload, 1) := by decide +kernel
theorem dX4_addTitle_56 : decode cX4_addTitle 56 = .ok (.imul, 1) := by decide +kernel
theorem dX4_addTitle_57 : decode cX4_addTitle 57 = .ok (.iadd, 1) := by decide +kernel
theorem dX4_addTitle_58 : decode cX4_addTitle 58 = .ok (.iload_n 1, 1) := by decide +kernel
theorem dX4_addTitle_59 : decode cX4_addTitle 59 = .ok (.iastore, 1) := by decide +kernel
theorem dX4_addTitle_60 : decode cX4_addTitle 60 = .ok (.aload_n 0, 1) := by decide +kernel
theorem dX4_addTitle_61 : decode cX4_addTitle 61 = .ok (.getfield 7, 3) := by decide +kernel
theorem dX4_addTitle_64 : decode cX4_addTitle 64 = .ok (.bipush 23, 2) := by decide +kernel
theorem dX4_addTitle_66 : decode cX4_addTitle 66 = .ok (.iconst 2, 1) := by decide +kernel
theorem dX4_addTitle_67 : decode cX4_addTitle 67 = .ok (.aload_n 0, 1) := by decide +kernel
theorem dX4_addTitle_68 : decode cX4_addTitle 68 = .ok (.getfield 7, 3) := by decide +kernel
theorem dX4_addTitle_71 : decode cX4_addTitle 71 = .ok (.iconst 0, 1) := by decide +kernel
theorem dX4_addTitle_72 : decode cX4_addTitle 72 = .ok (.iaload, 1) := by decide +kernel
theorem dX4_addTitle_73 : decode cX4_addTitle 73 = .ok (.imul, 1) := by decide +kernel
theorem dX4_addTitle_74 : decode cX4_addTitle 74 = .ok (.iadd, 1) := by decide +kernel
theorem dX4_addTitle_75 : decode cX4_addTitle 75 = .ok (.iconst 1, 1) := by decide +kernel
theorem dX4_addTitle_76 : decode cX4_addTitle 76 = .ok (.iadd, 1) := by decide +kernel
theorem dX4_addTitle_77 : decode cX4_addTitle 77 = .ok (.iload_n 2, 1) := by decide +kernel
theorem dX4_addTitle_78 : decode cX4_addTitle 78 = .ok (.iastore, 1) := by decide +kernel
theorem dX4_addTitle_79 : decode cX4_addTitle 79 = .ok (.aload_n 0, 1) := by decide +kernel
theorem dX4_addTitle_80 : decode cX4_addTitle 80 = .ok (.getfield 7, 3) := by decide +kernel
theorem dX4_addTitle_83 : decode cX4_addTitle 83 = .ok (.iconst 0, 1) := by decide +kernel
theorem dX4_addTitle_84 : decode cX4_addTitle 84 = .ok (.dup2, 1) := by decide +kernel
theorem dX4_addTitle_85 : decode cX4_addTitle 85 = .ok (.iaload, 1) := by decide +kernel
theorem dX4_addTitle_86 : decode cX4_addTitle 86 = .ok (.iconst 1, 1) := by decide +kernel
theorem dX4_addTitle_87 : decode cX4_addTitle 87 = .ok (.iadd, 1) := by decide +kernel
theorem dX4_addTitle_88 : decode cX4_addTitle 88 = .ok (.iastore, 1) := by decide +kernel
theorem dX4_addTitle_89 : decode cX4_addTitle 89 = .ok (.aload_n 0, 1) := by decide +kernel
theorem dX4_addTitle_90 : decode cX4_addTitle 90 = .ok (.getfield 7, 3) := by decide +kernel
theorem dX4_addTitle_93 : decode cX4_addTitle 93 = .ok (.iconst 0, 1) := by decide +kernel
theorem dX4_addTitle_94 : decode cX4_addTitle 94 = .ok (.iaload, 1) := by decide +kernel
theorem dX4_addTitle_95 : decode cX4_addTitle 95 = .ok (.iconst 1, 1) := by decide +kernel
theorem dX4_addTitle_96 : decode cX4_addTitle 96 = .ok (.isub, 1) := by decide +kernel
theorem dX4_addTitle_97 : decode cX4_addTitle 97 = .ok (.ireturn, 1) := by decide +kernel
theorem dX4_setPrice_0 : decode cX4_setPrice 0 = .ok (.aload_n 0, 1) := by decide +kernel
theorem dX4_setPrice_1 : decode cX4_setPrice 1 = .ok (.iload_n 1, 1) := by decide +kernel
theorem dX4_setPrice_2 : decode cX4_setPrice 2 = .ok (.invokevirtual 65, 3) := by decide +kernel
theorem dX4_setPrice_5 : decode cX4_setPrice 5 = .ok (.ifCond .ne 6, 3) := by decide +kernel
theorem dX4_setPrice_8 : decode cX4_setPrice 8 = .ok (.bipush (-2), 2) := by decide +kernel
theorem dX4_setPrice_10 : decode cX4_setPrice 10 = .ok (.ireturn, 1) := by decide +kernel
theorem dX4_setPrice_11 : decode cX4_setPrice 11 = .ok (.iload_n 2, 1) := by decide +kernel
theorem dX4_setPrice_12 : decode cX4_setPrice 12 = .ok (.bipush 100, 2) := by decide +kernel
theorem dX4_setPrice_14 : decode cX4_setPrice 14 = .ok (.sipush 20000, 3) := by decide +kernel
theorem dX4_setPrice_17 : decode cX4_setPrice 17 = .ok (.invokestatic 30, 3) := by decide +kernel
theorem dX4_setPrice_20 : decode cX4_setPrice 20 = .ok (.ifCond .ne 6, 3) := by decide +kernel
theorem dX4_setPrice_23 : decode cX4_setPrice 23 = .ok (.bipush (-3), 2) := by decide +kernel
theorem dX4_setPrice_25 : decode cX4_setPrice 25 = .ok (.ireturn, 1) := by decide +kernel
theorem dX4_setPrice_26 : decode cX4_setPrice 26 = .ok (.aload_n 0, 1) := by decide +kernel
theorem dX4_setPrice_27 : decode cX4_setPrice 27 = .ok (.invokevirtual 62, 3) := by decide +kernel
theorem dX4_setPrice_30 : decode cX4_setPrice 30 = .ok (.aload_n 0, 1) := by decide +kernel
theorem dX4_setPrice_31 : decode cX4_setPrice 31 = .ok (.iload_n 1, 1) := by decide +kernel
theorem dX4_setPrice_32 : decode cX4_setPrice 32 = .ok (.invokevirtual 38, 3) := by decide +kernel
theorem dX4_setPrice_35 : decode cX4_setPrice 35 = .ok (.istore_n 3, 1) := by decide +kernel
theorem dX4_setPrice_36 : decode cX4_setPrice 36 = .ok (.aload_n 0, 1) := by decide +kernel
theorem dX4_setPrice_37 : decode cX4_setPrice 37 = .ok (.getfield 7, 3) := by decide +kernel
theorem dX4_setPrice_40 : decode cX4_setPrice 40 = .ok (.bipush 23, 2) := by decide +kernel
theorem dX4_setPrice_42 : decode cX4_setPrice 42 = .ok (.iconst 2, 1) := by decide +kernel
theorem dX4_setPrice_43 : decode cX4_setPrice 43 = .ok (.iload_n 1, 1) := by decide +kernel
theorem dX4_setPrice_44 : decode cX4_setPrice 44 = .ok (.imul, 1) := by decide +kernel
theorem dX4_setPrice_45 : decode cX4_setPrice 45 = .ok (.iadd, 1) := by decide +kernel
theorem dX4_setPrice_46 : decode cX4_setPrice 46 = .ok (.iload_n 2, 1) := by decide +kernel
theorem dX4_setPrice_47 : decode cX4_setPrice 47 = .ok (.iastore, 1) := by decide +kernel
theorem dX4_setPrice_48 : decode cX4_setPrice 48 = .ok (.iload_n 3, 1) := by decide +kernel
theorem dX4_setPrice_49 : decode cX4_setPrice 49 = .ok (.ireturn, 1) := by decide +kernel
theorem dX4_newEdition_0 : decode cX4_newEdition 0 = .ok (.aload_n 0, 1) := by decide +kernel
theorem dX4_newEdition_1 : decode cX4_newEdition 1 = .ok (.iload_n 1, 1) := by decide +kernel
theorem dX4_newEdition_2 : decode cX4_newEdition 2 = .ok (.invokevirtual 65, 3) := by decide +kernel
theorem dX4_newEdition_5 : decode cX4_newEdition 5 = .ok (.ifCond .ne 6, 3) := by decide +kernel
theorem dX4_newEdition_8 : decode cX4_newEdition 8 = .ok (.bipush (-2), 2) := by decide +kernel
theorem dX4_newEdition_10 : decode cX4_newEdition 10 = .ok (.ireturn, 1) := by decide +kernel
theorem dX4_newEdition_11 : decode cX4_newEdition 11 = .ok (.aload_n 0, 1) := by decide +kernel
theorem dX4_newEdition_12 : decode cX4_newEdition 12 = .ok (.iload_n 1, 1) := by decide +kernel
theorem dX4_newEdition_13 : decode cX4_newEdition 13 = .ok (.invokevirtual 42, 3) := by decide +kernel
theorem dX4_newEdition_16 : decode cX4_newEdition 16 = .ok (.bipush 30, 2) := by decide +kernel
theorem dX4_newEdition_18 : decode cX4_newEdition 18 = .ok (.if_icmp .ne 6, 3) := by decide +kernel
theorem dX4_newEdition_21 : decode cX4_newEdition 21 = .ok (.bipush (-5), 2) := by decide +kernel
theorem dX4_newEdition_23 : decode cX4_newEdition 23 = .ok (.ireturn, 1) := by decide +kernel
theorem dX4_newEdition_24 : decode cX4_newEdition 24 = .ok (.aload_n 0, 1) := by decide +kernel
theorem dX4_newEdition_25 : decode cX4_newEdition 25 = .ok (.invokevirtual 62, 3) := by decide +kernel
theorem dX4_newEdition_28 : decode cX4_newEdition 28 = .ok (.aload_n 0, 1) := by decide +kernel
theorem dX4_newEdition_29 : decode cX4_newEdition 29 = .ok (.getfield 7, 3) := by decide +kernel
theorem dX4_newEdition_32 : decode cX4_newEdition 32 = .ok (.bipush 23, 2) := by decide +kernel
theorem dX4_newEdition_34 : decode cX4_newEdition 34 = .ok (.iconst 2, 1) := by decide +kernel
theorem dX4_newEdition_35 : decode cX4_newEdition 35 = .ok (.iload_n 1, 1) := by decide +kernel
theorem dX4_newEdition_36 : decode cX4_newEdition 36 = .ok (.imul, 1) := by decide +kernel
theorem dX4_newEdition_37 : decode cX4_newEdition 37 = .ok (.iadd, 1) := by decide +kernel
theorem dX4_newEdition_38 : decode cX4_newEdition 38 = .ok (.iconst 1, 1) := by decide +kernel
theorem dX4_newEdition_39 : decode cX4_newEdition 39 = .ok (.iadd, 1) := by decide +kernel
theorem dX4_newEdition_40 : decode cX4_newEdition 40 = .ok (.dup2, 1) := by decide +kernel
theorem dX4_newEdition_41 : decode cX4_newEdition 41 = .ok (.iaload, 1) := by decide +kernel
theorem dX4_newEdition_42 : decode cX4_newEdition 42 = .ok (.iconst 1, 1) := by decide +kernel
theorem dX4_newEdition_43 : decode cX4_newEdition 43 = .ok (.iadd, 1) := by decide +kernel
theorem dX4_newEdition_44 : decode cX4_newEdition 44 = .ok (.iastore, 1) := by decide +kernel
theorem dX4_newEdition_45 : decode cX4_newEdition 45 = .ok (.aload_n 0, 1) := by decide +kernel
theorem dX4_newEdition_46 : decode cX4_newEdition 46 = .ok (.iload_n 1, 1) := by decide +kernel
theorem dX4_newEdition_47 : decode cX4_newEdition 47 = .ok (.invokevirtual 42, 3) := by decide +kernel
theorem dX4_newEdition_50 : decode cX4_newEdition 50 = .ok (.ireturn, 1) := by decide +kernel
theorem dX4_isCourseLike_0 : decode cX4_isCourseLike 0 = .ok (.iload_n 0, 1) := by decide +kernel
theorem dX4_isCourseLike_1 : decode cX4_isCourseLike 1 = .ok (.iconst 1, 1) := by decide +kernel
theorem dX4_isCourseLike_2 : decode cX4_isCourseLike 2 = .ok (.bipush 30, 2) := by decide +kernel
theorem dX4_isCourseLike_4 : decode cX4_isCourseLike 4 = .ok (.invokestatic 30, 3) := by decide +kernel
theorem dX4_isCourseLike_7 : decode cX4_isCourseLike 7 = .ok (.ifCond .eq 18, 3) := by decide +kernel
theorem dX4_isCourseLike_10 : decode cX4_isCourseLike 10 = .ok (.iload_n 1, 1) := by decide +kernel
theorem dX4_isCourseLike_11 : decode cX4_isCourseLike 11 = .ok (.iconst 0, 1) := by decide +kernel
theorem dX4_isCourseLike_12 : decode cX4_isCourseLike 12 = .ok (.sipush 200, 3) := by decide +kernel
theorem dX4_isCourseLike_15 : decode cX4_isCourseLike 15 = .ok (.invokestatic 30, 3) := by decide +kernel
theorem dX4_isCourseLike_18 : decode cX4_isCourseLike 18 = .ok (.ifCond .eq 7, 3) := by decide +kernel
theorem dX4_isCourseLike_21 : decode cX4_isCourseLike 21 = .ok (.iconst 1, 1) := by decide +kernel
theorem dX4_isCourseLike_22 : decode cX4_isCourseLike 22 = .ok (.goto 4, 3) := by decide +kernel
theorem dX4_isCourseLike_25 : decode cX4_isCourseLike 25 = .ok (.iconst 0, 1) := by decide +kernel
theorem dX4_isCourseLike_26 : decode cX4_isCourseLike 26 = .ok (.ireturn, 1) := by decide +kernel
theorem dX4_addCourse_0 : decode cX4_addCourse 0 = .ok (.aload_n 0, 1) := by decide +kernel
theorem dX4_addCourse_1 : decode cX4_addCourse 1 = .ok (.iload_n 1, 1) := by decide +kernel
theorem dX4_addCourse_2 : decode cX4_addCourse 2 = .ok (.invokevirtual 65, 3) := by decide +kernel
theorem dX4_addCourse_5 : decode cX4_addCourse 5 = .ok (.ifCond .ne 6, 3) := by decide +kernel
theorem dX4_addCourse_8 : decode cX4_addCourse 8 = .ok (.bipush (-2), 2) := by decide +kernel
theorem dX4_addCourse_10 : decode cX4_addCourse 10 = .ok (.ireturn, 1) := by decide +kernel
theorem dX4_addCourse_11 : decode cX4_addCourse 11 = .ok (.iload_n 2, 1) := by decide +kernel
theorem dX4_addCourse_12 : decode cX4_addCourse 12 = .ok (.iload_n 3, 1) := by decide +kernel
theorem dX4_addCourse_13 : decode cX4_addCourse 13 = .ok (.invokestatic 69, 3) := by decide +kernel
theorem dX4_addCourse_16 : decode cX4_addCourse 16 = .ok (.ifCond .ne 6, 3) := by decide +kernel
theorem dX4_addCourse_19 : decode cX4_addCourse 19 = .ok (.bipush (-3), 2) := by decide +kernel
theorem dX4_addCourse_21 : decode cX4_addCourse 21 = .ok (.ireturn, 1) := by decide +kernel
theorem dX4_addCourse_22 : decode cX4_addCourse 22 = .ok (.aload_n 0, 1) := by decide +kernel
theorem dX4_addCourse_23 : decode cX4_addCourse 23 = .ok (.getfield 7, 3) := by decide +kernel
theorem dX4_addCourse_26 : decode cX4_addCourse 26 = .ok (.iconst 2, 1) := by decide +kernel
theorem dX4_addCourse_27 : decode cX4_addCourse 27 = .ok (.iaload, 1) := by decide +kernel
theorem dX4_addCourse_28 : decode cX4_addCourse 28 = .ok (.bipush 6, 2) := by decide +kernel
theorem dX4_addCourse_30 : decode cX4_addCourse 30 = .ok (.if_icmp .ne 6, 3) := by decide +kernel
theorem dX4_addCourse_33 : decode cX4_addCourse 33 = .ok (.bipush (-5), 2) := by decide +kernel
theorem dX4_addCourse_35 : decode cX4_addCourse 35 = .ok (.ireturn, 1) := by decide +kernel
theorem dX4_addCourse_36 : decode cX4_addCourse 36 = .ok (.aload_n 0, 1) := by decide +kernel
theorem dX4_addCourse_37 : decode cX4_addCourse 37 = .ok (.invokevirtual 62, 3) := by decide +kernel
theorem dX4_addCourse_40 : decode cX4_addCourse 40 = .ok (.bipush 35, 2) := by decide +kernel
theorem dX4_addCourse_42 : decode cX4_addCourse 42 = .ok (.iconst 3, 1) := by decide +kernel
theorem dX4_addCourse_43 : decode cX4_addCourse 43 = .ok (.aload_n 0, 1) := by decide +kernel
theorem dX4_addCourse_44 : decode cX4_addCourse 44 = .ok (.getfield 7, 3) := by decide +kernel
theorem dX4_addCourse_47 : decode cX4_addCourse 47 = .ok (.iconst 2, 1) := by decide +kernel
theorem dX4_addCourse_48 : decode cX4_addCourse 48 = .ok (.iaload, 1) := by decide +kernel
theorem dX4_addCourse_49 : decode cX4_addCourse 49 = .ok (.imul, 1) := by decide +kernel
theorem dX4_addCourse_50 : decode cX4_addCourse 50 = .ok (.iadd, 1) := by decide +kernel
theorem dX4_addCourse_51 : decode cX4_addCourse 51 = .ok (.istore 4, 2) := by decide +kernel
theorem dX4_addCourse_53 : decode cX4_addCourse 53 = .ok (.aload_n 0, 1) := by decide +kernel
theorem dX4_addCourse_54 : decode cX4_addCourse 54 = .ok (.getfield 7, 3) := by decide +kernel
theorem dX4_addCourse_57 : decode cX4_addCourse 57 = .ok (.iload 4, 2) := by decide +kernel
theorem dX4_addCourse_59 : decode cX4_addCourse 59 = .ok (.iload_n 1, 1) := by decide +kernel
theorem dX4_addCourse_60 : decode cX4_addCourse 60 = .ok (.iastore, 1) := by decide +kernel
theorem dX4_addCourse_61 : decode cX4_addCourse 61 = .ok (.aload_n 0, 1) := by decide +kernel
theorem dX4_addCourse_62 : decode cX4_addCourse 62 = .ok (.getfield 7, 3) := by decide +kernel
theorem dX4_addCourse_65 : decode cX4_addCourse 65 = .ok (.iload 4, 2) := by decide +kernel
theorem dX4_addCourse_67 : decode cX4_addCourse 67 = .ok (.iconst 1, 1) := by decide +kernel
theorem dX4_addCourse_68 : decode cX4_addCourse 68 = .ok (.iadd, 1) := by decide +kernel
theorem dX4_addCourse_69 : decode cX4_addCourse 69 = .ok (.iload_n 2, 1) := by decide +kernel
theorem dX4_addCourse_70 : decode cX4_addCourse 70 = .ok (.iastore, 1) := by decide +kernel
theorem dX4_addCourse_71 : decode cX4_addCourse 71 = .ok (.aload_n 0, 1) := by decide +kernel
theorem dX4_addCourse_72 : decode cX4_addCourse 72 = .ok (.getfield 7, 3) := by decide +kernel
theorem dX4_addCourse_75 : decode cX4_addCourse 75 = .ok (.iload 4, 2) := by decide +kernel
theorem dX4_addCourse_77 : decode cX4_addCourse 77 = .ok (.iconst 2, 1) := by decide +kernel
theorem dX4_addCourse_78 : decode cX4_addCourse 78 = .ok (.iadd, 1) := by decide +kernel
theorem dX4_addCourse_79 : decode cX4_addCourse 79 = .ok (.iload_n 3, 1) := by decide +kernel
theorem dX4_addCourse_80 : decode cX4_addCourse 80 = .ok (.iastore, 1) := by decide +kernel
theorem dX4_addCourse_81 : decode cX4_addCourse 81 = .ok (.aload_n 0, 1) := by decide +kernel
theorem dX4_addCourse_82 : decode cX4_addCourse 82 = .ok (.getfield 7, 3) := by decide +kernel
theorem dX4_addCourse_85 : decode cX4_addCourse 85 = .ok (.iconst 2, 1) := by decide +kernel
theorem dX4_addCourse_86 : decode cX4_addCourse 86 = .ok (.dup2, 1) := by decide +kernel
theorem dX4_addCourse_87 : decode cX4_addCourse 87 = .ok (.iaload, 1) := by decide +kernel
theorem dX4_addCourse_88 : decode cX4_addCourse 88 = .ok (.iconst 1, 1) := by decide +kernel
theorem dX4_addCourse_89 : decode cX4_addCourse 89 = .ok (.iadd, 1) := by decide +kernel
theorem dX4_addCourse_90 : decode cX4_addCourse 90 = .ok (.iastore, 1) := by decide +kernel
theorem dX4_addCourse_91 : decode cX4_addCourse 91 = .ok (.aload_n 0, 1) := by decide +kernel
theorem dX4_addCourse_92 : decode cX4_addCourse 92 = .ok (.getfield 7, 3) := by decide +kernel
theorem dX4_addCourse_95 : decode cX4_addCourse 95 = .ok (.iconst 2, 1) := by decide +kernel
theorem dX4_addCourse_96 : decode cX4_addCourse 96 = .ok (.iaload, 1) := by decide +kernel
theorem dX4_addCourse_97 : decode cX4_addCourse 97 = .ok (.iconst 1, 1) := by decide +kernel
theorem dX4_addCourse_98 : decode cX4_addCourse 98 = .ok (.isub, 1) := by decide +kernel
theorem dX4_addCourse_99 : decode cX4_addCourse 99 = .ok (.ireturn, 1) := by decide +kernel
theorem dX4_setCourse_0 : decode cX4_setCourse 0 = .ok (.aload_n 0, 1) := by decide +kernel
theorem dX4_setCourse_1 : decode cX4_setCourse 1 = .ok (.iload_n 1, 1) := by decide +kernel
theorem dX4_setCourse_2 : decode cX4_setCourse 2 = .ok (.invokevirtual 72, 3) := by decide +kernel
theorem dX4_setCourse_5 : decode cX4_setCourse 5 = .ok (.ifCond .ne 6, 3) := by decide +kernel
theorem dX4_setCourse_8 : decode cX4_setCourse 8 = .ok (.bipush (-2), 2) := by decide +kernel
theorem dX4_setCourse_10 : decode cX4_setCourse 10 = .ok (.ireturn, 1) := by decide +kernel
theorem dX4_setCourse_11 : decode cX4_setCourse 11 = .ok (.iload_n 2, 1) := by decide +kernel
theorem dX4_setCourse_12 : decode cX4_setCourse 12 = .ok (.iload_n 3, 1) := by decide +kernel
theorem dX4_setCourse_13 : decode cX4_setCourse 13 = .ok (.invokestatic 69, 3) := by decide +kernel
theorem dX4_setCourse_16 : decode cX4_setCourse 16 = .ok (.ifCond .ne 6, 3) := by decide +kernel
theorem dX4_setCourse_19 : decode cX4_setCourse 19 = .ok (.bipush (-3), 2) := by decide +kernel
theorem dX4_setCourse_21 : decode cX4_setCourse 21 = .ok (.ireturn, 1) := by decide +kernel
theorem dX4_setCourse_22 : decode cX4_setCourse 22 = .ok (.aload_n 0, 1) := by decide +kernel
theorem dX4_setCourse_23 : decode cX4_setCourse 23 = .ok (.invokevirtual 62, 3) := by decide +kernel
theorem dX4_setCourse_26 : decode cX4_setCourse 26 = .ok (.aload_n 0, 1) := by decide +kernel
theorem dX4_setCourse_27 : decode cX4_setCourse 27 = .ok (.iload_n 1, 1) := by decide +kernel
theorem dX4_setCourse_28 : decode cX4_setCourse 28 = .ok (.iconst 2, 1) := by decide +kernel
theorem dX4_setCourse_29 : decode cX4_setCourse 29 = .ok (.invokevirtual 52, 3) := by decide +kernel
theorem dX4_setCourse_32 : decode cX4_setCourse 32 = .ok (.istore 4, 2) := by decide +kernel
theorem dX4_setCourse_34 : decode cX4_setCourse 34 = .ok (.aload_n 0, 1) := by decide +kernel
theorem dX4_setCourse_35 : decode cX4_setCourse 35 = .ok (.getfield 7, 3) := by decide +kernel
theorem dX4_setCourse_38 : decode cX4_setCourse 38 = .ok (.bipush 35, 2) := by decide +kernel
theorem dX4_setCourse_40 : decode cX4_setCourse 40 = .ok (.iconst 3, 1) := by decide +kernel
theorem dX4_setCourse_41 : decode cX4_setCourse 41 = .ok (.iload_n 1, 1) := by decide +kernel
theorem dX4_setCourse_42 : decode cX4_setCourse 42 = .ok (.imul, 1) := by decide +kernel
theorem dX4_setCourse_43 : decode cX4_setCourse 43 = .ok (.iadd, 1) := by decide +kernel
theorem dX4_setCourse_44 : decode cX4_setCourse 44 = .ok (.iconst 1, 1) := by decide +kernel
theorem dX4_setCourse_45 : decode cX4_setCourse 45 = .ok (.iadd, 1) := by decide +kernel
theorem dX4_setCourse_46 : decode cX4_setCourse 46 = .ok (.iload_n 2, 1) := by decide +kernel
theorem dX4_setCourse_47 : decode cX4_setCourse 47 = .ok (.iastore, 1) := by decide +kernel
theorem dX4_setCourse_48 : decode cX4_setCourse 48 = .ok (.aload_n 0, 1) := by decide +kernel
theorem dX4_setCourse_49 : decode cX4_setCourse 49 = .ok (.getfield 7, 3) := by decide +kernel
theorem dX4_setCourse_52 : decode cX4_setCourse 52 = .ok (.bipush 35, 2) := by decide +kernel
theorem dX4_setCourse_54 : decode cX4_setCourse 54 = .ok (.iconst 3, 1) := by decide +kernel
theorem dX4_setCourse_55 : decode cX4_setCourse 55 = .ok (.iload_n 1, 1) := by decide +kernel
theorem dX4_setCourse_56 : decode cX4_setCourse 56 = .ok (.imul, 1) := by decide +kernel
theorem dX4_setCourse_57 : decode cX4_setCourse 57 = .ok (.iadd, 1) := by decide +kernel
theorem dX4_setCourse_58 : decode cX4_setCourse 58 = .ok (.iconst 2, 1) := by decide +kernel
theorem dX4_setCourse_59 : decode cX4_setCourse 59 = .ok (.iadd, 1) := by decide +kernel
theorem dX4_setCourse_60 : decode cX4_setCourse 60 = .ok (.iload_n 3, 1) := by decide +kernel
theorem dX4_setCourse_61 : decode cX4_setCourse 61 = .ok (.iastore, 1) := by decide +kernel
theorem dX4_setCourse_62 : decode cX4_setCourse 62 = .ok (.iload 4, 2) := by decide +kernel
theorem dX4_setCourse_64 : decode cX4_setCourse 64 = .ok (.ireturn, 1) := by decide +kernel
theorem dX4_set_0 : decode cX4_set 0 = .ok (.iload_n 1, 1) := by decide +kernel
theorem dX4_set_1 : decode cX4_set 1 = .ok (.iconst 0, 1) := by decide +kernel
theorem dX4_set_2 : decode cX4_set 2 = .ok (.iconst 3, 1) := by decide +kernel
theorem dX4_set_3 : decode cX4_set 3 = .ok (.invokestatic 30, 3) := by decide +kernel
theorem dX4_set_6 : decode cX4_set 6 = .ok (.ifCond .ne 6, 3) := by decide +kernel
theorem dX4_set_9 : decode cX4_set 9 = .ok (.bipush (-2), 2) := by decide +kernel
theorem dX4_set_11 : decode cX4_set 11 = .ok (.ireturn, 1) := by decide +kernel
theorem dX4_set_12 : decode cX4_set 12 = .ok (.iload_n 2, 1) := by decide +kernel
theorem dX4_set_13 : decode cX4_set 13 = .ok (.aload_n 0, 1) := by decide +kernel
theorem dX4_set_14 : decode cX4_set 14 = .ok (.getfield 13, 3) := by decide +kernel
theorem dX4_set_17 : decode cX4_set 17 = .ok (.iload_n 1, 1) := by decide +kernel
theorem dX4_set_18 : decode cX4_set 18 = .ok (.iaload, 1) := by decide +kernel
theorem dX4_set_19 : decode cX4_set 19 = .ok (.aload_n 0, 1) := by decide +kernel
theorem dX4_set_20 : decode cX4_set 20 = .ok (.getfield 16, 3) := by decide +kernel
theorem dX4_set_23 : decode cX4_set 23 = .ok (.iload_n 1, 1) := by decide +kernel
theorem dX4_set_24 : decode cX4_set 24 = .ok (.iaload, 1) := by decide +kernel
theorem dX4_set_25 : decode cX4_set 25 = .ok (.invokestatic 30, 3) := by decide +kernel
theorem dX4_set_28 : decode cX4_set 28 = .ok (.ifCond .ne 6, 3) := by decide +kernel
theorem dX4_set_31 : decode cX4_set 31 = .ok (.bipush (-3), 2) := by decide +kernel
theorem dX4_set_33 : decode cX4_set 33 = .ok (.ireturn, 1) := by decide +kernel
theorem dX4_set_34 : decode cX4_set 34 = .ok (.aload_n 0, 1) := by decide +kernel
theorem dX4_set_35 : decode cX4_set 35 = .ok (.invokevirtual 62, 3) := by decide +kernel
theorem dX4_set_38 : decode cX4_set 38 = .ok (.aload_n 0, 1) := by decide +kernel
theorem dX4_set_39 : decode cX4_set 39 = .ok (.getfield 7, 3) := by decide +kernel
theorem dX4_set_42 : decode cX4_set 42 = .ok (.iconst 4, 1) := by decide +kernel
theorem dX4_set_43 : decode cX4_set 43 = .ok (.iload_n 1, 1) := by decide +kernel
theorem dX4_set_44 : decode cX4_set 44 = .ok (.iadd, 1) := by decide +kernel
theorem dX4_set_45 : decode cX4_set 45 = .ok (.iaload, 1) := by decide +kernel
theorem dX4_set_46 : decode cX4_set 46 = .ok (.istore_n 3, 1) := by decide +kernel
theorem dX4_set_47 : decode cX4_set 47 = .ok (.aload_n 0, 1) := by decide +kernel
theorem dX4_set_48 : decode cX4_set 48 = .ok (.getfield 7, 3) := by decide +kernel
theorem dX4_set_51 : decode cX4_set 51 = .ok (.iconst 4, 1) := by decide +kernel
theorem dX4_set_52 : decode cX4_set 52 = .ok (.iload_n 1, 1) := by decide +kernel
theorem dX4_set_53 : decode cX4_set 53 = .ok (.iadd, 1) := by decide +kernel
theorem dX4_set_54 : decode cX4_set 54 = .ok (.iload_n 2, 1) := by decide +kernel
theorem dX4_set_55 : decode cX4_set 55 = .ok (.iastore, 1) := by decide +kernel
theorem dX4_set_56 : decode cX4_set 56 = .ok (.iload_n 3, 1) := by decide +kernel
theorem dX4_set_57 : decode cX4_set 57 = .ok (.ireturn, 1) := by decide +kernel
theorem dX4_number_0 : decode cX4_number 0 = .ok (.iload_n 1, 1) := by decide +kernel
theorem dX4_number_1 : decode cX4_number 1 = .ok (.iconst 4, 1) := by decide +kernel
theorem dX4_number_2 : decode cX4_number 2 = .ok (.if_icmp .ge 10, 3) := by decide +kernel
theorem dX4_number_5 : decode cX4_number 5 = .ok (.aload_n 0, 1) := by decide +kernel
theorem dX4_number_6 : decode cX4_number 6 = .ok (.getfield 7, 3) := by decide +kernel
theorem dX4_number_9 : decode cX4_number 9 = .ok (.iload_n 1, 1) := by decide +kernel
theorem dX4_number_10 : decode cX4_number 10 = .ok (.iaload, 1) := by decide +kernel
theorem dX4_number_11 : decode cX4_number 11 = .ok (.ireturn, 1) := by decide +kernel
theorem dX4_number_12 : decode cX4_number 12 = .ok (.iload_n 1, 1) := by decide +kernel
theorem dX4_number_13 : decode cX4_number 13 = .ok (.bipush 9, 2) := by decide +kernel
theorem dX4_number_15 : decode cX4_number 15 = .ok (.if_icmp .ge 13, 3) := by decide +kernel
theorem dX4_number_18 : decode cX4_number 18 = .ok (.aload_n 0, 1) := by decide +kernel
theorem dX4_number_19 : decode cX4_number 19 = .ok (.iload_n 1, 1) := by decide +kernel
theorem dX4_number_20 : decode cX4_number 20 = .ok (.iconst 4, 1) := by decide +kernel
theorem dX4_number_21 : decode cX4_number 21 = .ok (.isub, 1) := by decide +kernel
theorem dX4_number_22 : decode cX4_number 22 = .ok (.invokevirtual 75, 3) := by decide +kernel
theorem dX4_number_25 : decode cX4_number 25 = .ok (.goto 40, 3) := by decide +kernel
theorem dX4_number_28 : decode cX4_number 28 = .ok (.iload_n 1, 1) := by decide +kernel
theorem dX4_number_29 : decode cX4_number 29 = .ok (.bipush 9, 2) := by decide +kernel
theorem dX4_number_31 : decode cX4_number 31 = .ok (.if_icmp .ne 23, 3) := by decide +kernel
theorem dX4_number_34 : decode cX4_number 34 = .ok (.aload_n 0, 1) := by decide +kernel
theorem dX4_number_35 : decode cX4_number 35 = .ok (.iconst 0, 1) := by decide +kernel
theorem dX4_number_36 : decode cX4_number 36 = .ok (.invokevirtual 75, 3) := by decide +kernel
theorem dX4_number_39 : decode cX4_number 39 = .ok (.aload_n 0, 1) := by decide +kernel
theorem dX4_number_40 : decode cX4_number 40 = .ok (.iconst 1, 1) := by decide +kernel
theorem dX4_number_41 : decode cX4_number 41 = .ok (.invokevirtual 75, 3) := by decide +kernel
theorem dX4_number_44 : decode cX4_number 44 = .ok (.iadd, 1) := by decide +kernel
theorem dX4_number_45 : decode cX4_number 45 = .ok (.aload_n 0, 1) := by decide +kernel
theorem dX4_number_46 : decode cX4_number 46 = .ok (.iconst 4, 1) := by decide +kernel
theorem dX4_number_47 : decode cX4_number 47 = .ok (.invokevirtual 75, 3) := by decide +kernel
theorem dX4_number_50 : decode cX4_number 50 = .ok (.iadd, 1) := by decide +kernel
theorem dX4_number_51 : decode cX4_number 51 = .ok (.goto 14, 3) := by decide +kernel
theorem dX4_number_54 : decode cX4_number 54 = .ok (.aload_n 0, 1) := by decide +kernel
theorem dX4_number_55 : decode cX4_number 55 = .ok (.getfield 7, 3) := by decide +kernel
theorem dX4_number_58 : decode cX4_number 58 = .ok (.iconst 4, 1) := by decide +kernel
theorem dX4_number_59 : decode cX4_number 59 = .ok (.iload_n 1, 1) := by decide +kernel
theorem dX4_number_60 : decode cX4_number 60 = .ok (.iadd, 1) := by decide +kernel
theorem dX4_number_61 : decode cX4_number 61 = .ok (.bipush 10, 2) := by decide +kernel
theorem dX4_number_63 : decode cX4_number 63 = .ok (.isub, 1) := by decide +kernel
theorem dX4_number_64 : decode cX4_number 64 = .ok (.iaload, 1) := by decide +kernel
theorem dX4_number_65 : decode cX4_number 65 = .ok (.ireturn, 1) := by decide +kernel
theorem dX4_count_0 : decode cX4_count 0 = .ok (.iload_n 1, 1) := by decide +kernel
theorem dX4_count_1 : decode cX4_count 1 = .ok (.iconst 0, 1) := by decide +kernel
theorem dX4_count_2 : decode cX4_count 2 = .ok (.bipush 13, 2) := by decide +kernel
theorem dX4_count_4 : decode cX4_count 4 = .ok (.invokestatic 30, 3) := by decide +kernel
theorem dX4_count_7 : decode cX4_count 7 = .ok (.ifCond .eq 11, 3) := by decide +kernel
theorem dX4_count_10 : decode cX4_count 10 = .ok (.aload_n 0, 1) := by decide +kernel
theorem dX4_count_11 : decode cX4_count 11 = .ok (.iload_n 1, 1) := by decide +kernel
theorem dX4_count_12 : decode cX4_count 12 = .ok (.invokevirtual 78, 3) := by decide +kernel
theorem dX4_count_15 : decode cX4_count 15 = .ok (.goto 5, 3) := by decide +kernel
theorem dX4_count_18 : decode cX4_count 18 = .ok (.bipush (-3), 2) := by decide +kernel
theorem dX4_count_20 : decode cX4_count 20 = .ok (.ireturn, 1) := by decide +kernel
theorem dX4_titleNow_0 : decode cX4_titleNow 0 = .ok (.iload_n 2, 1) := by decide +kernel
theorem dX4_titleNow_1 : decode cX4_titleNow 1 = .ok (.tableswitch 99 0 5 #[39, 45, 51, 57, 63, 92], 39) := by decide +kernel
theorem dX4_titleNow_40 : decode cX4_titleNow 40 = .ok (.aload_n 0, 1) := by decide +kernel
theorem dX4_titleNow_41 : decode cX4_titleNow 41 = .ok (.iload_n 1, 1) := by decide +kernel
theorem dX4_titleNow_42 : decode cX4_titleNow 42 = .ok (.invokevirtual 38, 3) := by decide +kernel
theorem dX4_titleNow_45 : decode cX4_titleNow 45 = .ok (.ireturn, 1) := by decide +kernel
theorem dX4_titleNow_46 : decode cX4_titleNow 46 = .ok (.aload_n 0, 1) := by decide +kernel
theorem dX4_titleNow_47 : decode cX4_titleNow 47 = .ok (.iload_n 1, 1) := by decide +kernel
theorem dX4_titleNow_48 : decode cX4_titleNow 48 = .ok (.invokevirtual 42, 3) := by decide +kernel
theorem dX4_titleNow_51 : decode cX4_titleNow 51 = .ok (.ireturn, 1) := by decide +kernel
theorem dX4_titleNow_52 : decode cX4_titleNow 52 = .ok (.aload_n 0, 1) := by decide +kernel
theorem dX4_titleNow_53 : decode cX4_titleNow 53 = .ok (.iload_n 1, 1) := by decide +kernel
theorem dX4_titleNow_54 : decode cX4_titleNow 54 = .ok (.invokevirtual 81, 3) := by decide +kernel
theorem dX4_titleNow_57 : decode cX4_titleNow 57 = .ok (.ireturn, 1) := by decide +kernel
theorem dX4_titleNow_58 : decode cX4_titleNow 58 = .ok (.aload_n 0, 1) := by decide +kernel
theorem dX4_titleNow_59 : decode cX4_titleNow 59 = .ok (.iload_n 1, 1) := by decide +kernel
theorem dX4_titleNow_60 : decode cX4_titleNow 60 = .ok (.invokevirtual 84, 3) := by decide +kernel
theorem dX4_titleNow_63 : decode cX4_titleNow 63 = .ok (.ireturn, 1) := by decide +kernel
theorem dX4_titleNow_64 : decode cX4_titleNow 64 = .ok (.aload_n 0, 1) := by decide +kernel
theorem dX4_titleNow_65 : decode cX4_titleNow 65 = .ok (.iload_n 1, 1) := by decide +kernel
theorem dX4_titleNow_66 : decode cX4_titleNow 66 = .ok (.invokevirtual 81, 3) := by decide +kernel
theorem dX4_titleNow_69 : decode cX4_titleNow 69 = .ok (.aload_n 0, 1) := by decide +kernel
theorem dX4_titleNow_70 : decode cX4_titleNow 70 = .ok (.iload_n 1, 1) := by decide +kernel
theorem dX4_titleNow_71 : decode cX4_titleNow 71 = .ok (.invokevirtual 84, 3) := by decide +kernel
theorem dX4_titleNow_74 : decode cX4_titleNow 74 = .ok (.if_icmp .le 17, 3) := by decide +kernel
theorem dX4_titleNow_77 : decode cX4_titleNow 77 = .ok (.aload_n 0, 1) := by decide +kernel
theorem dX4_titleNow_78 : decode cX4_titleNow 78 = .ok (.iload_n 1, 1) := by decide +kernel
theorem dX4_titleNow_79 : decode cX4_titleNow 79 = .ok (.invokevirtual 81, 3) := by decide +kernel
theorem dX4_titleNow_82 : decode cX4_titleNow 82 = .ok (.aload_n 0, 1) := by decide +kernel
theorem dX4_titleNow_83 : decode cX4_titleNow 83 = .ok (.iload_n 1, 1) := by decide +kernel
theorem dX4_titleNow_84 : decode cX4_titleNow 84 = .ok (.invokevirtual 84, 3) := by decide +kernel
theorem dX4_titleNow_87 : decode cX4_titleNow 87 = .ok (.isub, 1) := by decide +kernel
theorem dX4_titleNow_88 : decode cX4_titleNow 88 = .ok (.goto 4, 3) := by decide +kernel
theorem dX4_titleNow_91 : decode cX4_titleNow 91 = .ok (.iconst 0, 1) := by decide +kernel
theorem dX4_titleNow_92 : decode cX4_titleNow 92 = .ok (.ireturn, 1) := by decide +kernel
theorem dX4_titleNow_93 : decode cX4_titleNow 93 = .ok (.aload_n 0, 1) := by decide +kernel
theorem dX4_titleNow_94 : decode cX4_titleNow 94 = .ok (.iload_n 1, 1) := by decide +kernel
theorem dX4_titleNow_95 : decode cX4_titleNow 95 = .ok (.iconst (-1), 1) := by decide +kernel
theorem dX4_titleNow_96 : decode cX4_titleNow 96 = .ok (.invokevirtual 87, 3) := by decide +kernel
theorem dX4_titleNow_99 : decode cX4_titleNow 99 = .ok (.ireturn, 1) := by decide +kernel
theorem dX4_titleNow_100 : decode cX4_titleNow 100 = .ok (.aload_n 0, 1) := by decide +kernel
theorem dX4_titleNow_101 : decode cX4_titleNow 101 = .ok (.iload_n 1, 1) := by decide +kernel
theorem dX4_titleNow_102 : decode cX4_titleNow 102 = .ok (.iconst 0, 1) := by decide +kernel
theorem dX4_titleNow_103 : decode cX4_titleNow 103 = .ok (.invokevirtual 87, 3) := by decide +kernel
theorem dX4_titleNow_106 : decode cX4_titleNow 106 = .ok (.ireturn, 1) := by decide +kernel
theorem dX4_title_0 : decode cX4_title 0 = .ok (.aload_n 0, 1) := by decide +kernel
theorem dX4_title_1 : decode cX4_title 1 = .ok (.iload_n 1, 1) := by decide +kernel
theorem dX4_title_2 : decode cX4_title 2 = .ok (.invokevirtual 65, 3) := by decide +kernel
theorem dX4_title_5 : decode cX4_title 5 = .ok (.ifCond .ne 6, 3) := by decide +kernel
theorem dX4_title_8 : decode cX4_title 8 = .ok (.bipush (-2), 2) := by decide +kernel
theorem dX4_title_10 : decode cX4_title 10 = .ok (.ireturn, 1) := by decide +kernel
theorem dX4_title_11 : decode cX4_title 11 = .ok (.iload_n 2, 1) := by decide +kernel
theorem dX4_title_12 : decode cX4_title 12 = .ok (.iconst 0, 1) := by decide +kernel
theorem dX4_title_13 : decode cX4_title 13 = .ok (.bipush 6, 2) := by decide +kernel
theorem dX4_title_15 : decode cX4_title 15 = .ok (.invokestatic 30, 3) := by decide +kernel
theorem dX4_title_18 : decode cX4_title 18 = .ok (.ifCond .eq 12, 3) := by decide +kernel
theorem dX4_title_21 : decode cX4_title 21 = .ok (.aload_n 0, 1) := by decide +kernel
theorem dX4_title_22 : decode cX4_title 22 = .ok (.iload_n 1, 1) := by decide +kernel
theorem dX4_title_23 : decode cX4_title 23 = .ok (.iload_n 2, 1) := by decide +kernel
theorem dX4_title_24 : decode cX4_title 24 = .ok (.invokevirtual 90, 3) := by decide +kernel
theorem dX4_title_27 : decode cX4_title 27 = .ok (.goto 5, 3) := by decide +kernel
theorem dX4_title_30 : decode cX4_title 30 = .ok (.bipush (-3), 2) := by decide +kernel
theorem dX4_title_32 : decode cX4_title 32 = .ok (.ireturn, 1) := by decide +kernel
theorem dX4_takes_0 : decode cX4_takes 0 = .ok (.aload_n 0, 1) := by decide +kernel
theorem dX4_takes_1 : decode cX4_takes 1 = .ok (.iload_n 2, 1) := by decide +kernel
theorem dX4_takes_2 : decode cX4_takes 2 = .ok (.iconst 0, 1) := by decide +kernel
theorem dX4_takes_3 : decode cX4_takes 3 = .ok (.invokevirtual 55, 3) := by decide +kernel
theorem dX4_takes_6 : decode cX4_takes 6 = .ok (.ifCond .eq 37, 3) := by decide +kernel
theorem dX4_takes_9 : decode cX4_takes 9 = .ok (.aload_n 0, 1) := by decide +kernel
theorem dX4_takes_10 : decode cX4_takes 10 = .ok (.iload_n 2, 1) := by decide +kernel
theorem dX4_takes_11 : decode cX4_takes 11 = .ok (.iconst 0, 1) := by decide +kernel
theorem dX4_takes_12 : decode cX4_takes 12 = .ok (.invokevirtual 34, 3) := by decide +kernel
theorem dX4_takes_15 : decode cX4_takes 15 = .ok (.aload_n 0, 1) := by decide +kernel
theorem dX4_takes_16 : decode cX4_takes 16 = .ok (.iload_n 1, 1) := by decide +kernel
theorem dX4_takes_17 : decode cX4_takes 17 = .ok (.iconst 0, 1) := by decide +kernel
theorem dX4_takes_18 : decode cX4_takes 18 = .ok (.invokevirtual 52, 3) := by decide +kernel
theorem dX4_takes_21 : decode cX4_takes 21 = .ok (.if_icmp .ne 22, 3) := by decide +kernel
theorem dX4_takes_24 : decode cX4_takes 24 = .ok (.aload_n 0, 1) := by decide +kernel
theorem dX4_takes_25 : decode cX4_takes 25 = .ok (.iload_n 2, 1) := by decide +kernel
theorem dX4_takes_26 : decode cX4_takes 26 = .ok (.iconst 1, 1) := by decide +kernel
theorem dX4_takes_27 : decode cX4_takes 27 = .ok (.invokevirtual 34, 3) := by decide +kernel
theorem dX4_takes_30 : decode cX4_takes 30 = .ok (.aload_n 0, 1) := by decide +kernel
theorem dX4_takes_31 : decode cX4_takes 31 = .ok (.iload_n 1, 1) := by decide +kernel
theorem dX4_takes_32 : decode cX4_takes 32 = .ok (.iconst 1, 1) := by decide +kernel
theorem dX4_takes_33 : decode cX4_takes 33 = .ok (.invokevirtual 52, 3) := by decide +kernel
theorem dX4_takes_36 : decode cX4_takes 36 = .ok (.if_icmp .lt 7, 3) := by decide +kernel
theorem dX4_takes_39 : decode cX4_takes 39 = .ok (.iconst 1, 1) := by decide +kernel
theorem dX4_takes_40 : decode cX4_takes 40 = .ok (.goto 4, 3) := by decide +kernel
theorem dX4_takes_43 : decode cX4_takes 43 = .ok (.iconst 0, 1) := by decide +kernel
theorem dX4_takes_44 : decode cX4_takes 44 = .ok (.ireturn, 1) := by decide +kernel
theorem dX4_courseNow_0 : decode cX4_courseNow 0 = .ok (.iload_n 2, 1) := by decide +kernel
theorem dX4_courseNow_1 : decode cX4_courseNow 1 = .ok (.iconst 3, 1) := by decide +kernel
theorem dX4_courseNow_2 : decode cX4_courseNow 2 = .ok (.if_icmp .ge 10, 3) := by decide +kernel
theorem dX4_courseNow_5 : decode cX4_courseNow 5 = .ok (.aload_n 0, 1) := by decide +kernel
theorem dX4_courseNow_6 : decode cX4_courseNow 6 = .ok (.iload_n 1, 1) := by decide +kernel
theorem dX4_courseNow_7 : decode cX4_courseNow 7 = .ok (.iload_n 2, 1) := by decide +kernel
theorem dX4_courseNow_8 : decode cX4_courseNow 8 = .ok (.invokevirtual 52, 3) := by decide +kernel
theorem dX4_courseNow_11 : decode cX4_courseNow 11 = .ok (.ireturn, 1) := by decide +kernel
theorem dX4_courseNow_12 : decode cX4_courseNow 12 = .ok (.iconst 0, 1) := by decide +kernel
theorem dX4_courseNow_13 : decode cX4_courseNow 13 = .ok (.istore_n 3, 1) := by decide +kernel
theorem dX4_courseNow_14 : decode cX4_courseNow 14 = .ok (.iconst 0, 1) := by decide +kernel
theorem dX4_courseNow_15 : decode cX4_courseNow 15 = .ok (.istore 4, 2) := by decide +kernel
theorem dX4_courseNow_17 : decode cX4_courseNow 17 = .ok (.iload 4, 2) := by decide +kernel
theorem dX4_courseNow_19 : decode cX4_courseNow 19 = .ok (.aload_n 0, 1) := by decide +kernel
theorem dX4_courseNow_20 : decode cX4_courseNow 20 = .ok (.getfield 7, 3) := by decide +kernel
theorem dX4_courseNow_23 : decode cX4_courseNow 23 = .ok (.iconst 1, 1) := by decide +kernel
theorem dX4_courseNow_24 : decode cX4_courseNow 24 = .ok (.iaload, 1) := by decide +kernel
theorem dX4_courseNow_25 : decode cX4_courseNow 25 = .ok (.if_icmp .ge 27, 3) := by decide +kernel
theorem dX4_courseNow_28 : decode cX4_courseNow 28 = .ok (.iload_n 3, 1) := by decide +kernel
theorem dX4_courseNow_29 : decode cX4_courseNow 29 = .ok (.aload_n 0, 1) := by decide +kernel
theorem dX4_courseNow_30 : decode cX4_courseNow 30 = .ok (.iload_n 1, 1) := by decide +kernel
theorem dX4_courseNow_31 : decode cX4_courseNow 31 = .ok (.iload 4, 2) := by decide +kernel
theorem dX4_courseNow_33 : decode cX4_courseNow 33 = .ok (.invokevirtual 93, 3) := by decide +kernel
theorem dX4_courseNow_36 : decode cX4_courseNow 36 = .ok (.ifCond .eq 7, 3) := by decide +kernel
theorem dX4_courseNow_39 : decode cX4_courseNow 39 = .ok (.iconst 1, 1) := by decide +kernel
theorem dX4_courseNow_40 : decode cX4_courseNow 40 = .ok (.goto 4, 3) := by decide +kernel
theorem dX4_courseNow_43 : decode cX4_courseNow 43 = .ok (.iconst 0, 1) := by decide +kernel
theorem dX4_courseNow_44 : decode cX4_courseNow 44 = .ok (.iadd, 1) := by decide +kernel
theorem dX4_courseNow_45 : decode cX4_courseNow 45 = .ok (.istore_n 3, 1) := by decide +kernel
theorem dX4_courseNow_46 : decode cX4_courseNow 46 = .ok (.iinc 4 1, 3) := by decide +kernel
theorem dX4_courseNow_49 : decode cX4_courseNow 49 = .ok (.goto (-32), 3) := by decide +kernel
theorem dX4_courseNow_52 : decode cX4_courseNow 52 = .ok (.iload_n 3, 1) := by decide +kernel
theorem dX4_courseNow_53 : decode cX4_courseNow 53 = .ok (.ireturn, 1) := by decide +kernel
theorem dX4_course_0 : decode cX4_course 0 = .ok (.aload_n 0, 1) := by decide +kernel
theorem dX4_course_1 : decode cX4_course 1 = .ok (.iload_n 1, 1) := by decide +kernel
theorem dX4_course_2 : decode cX4_course 2 = .ok (.invokevirtual 72, 3) := by decide +kernel
theorem dX4_course_5 : decode cX4_course 5 = .ok (.ifCond .ne 6, 3) := by decide +kernel
theorem dX4_course_8 : decode cX4_course 8 = .ok (.bipush (-2), 2) := by decide +kernel
theorem dX4_course_10 : decode cX4_course 10 = .ok (.ireturn, 1) := by decide +kernel
theorem dX4_course_11 : decode cX4_course 11 = .ok (.iload_n 2, 1) := by decide +kernel
theorem dX4_course_12 : decode cX4_course 12 = .ok (.iconst 0, 1) := by decide +kernel
theorem dX4_course_13 : decode cX4_course 13 = .ok (.iconst 3, 1) := by decide +kernel
theorem dX4_course_14 : decode cX4_course 14 = .ok (.invokestatic 30, 3) := by decide +kernel
theorem dX4_course_17 : decode cX4_course 17 = .ok (.ifCond .eq 12, 3) := by decide +kernel
theorem dX4_course_20 : decode cX4_course 20 = .ok (.aload_n 0, 1) := by decide +kernel
theorem dX4_course_21 : decode cX4_course 21 = .ok (.iload_n 1, 1) := by decide +kernel
theorem dX4_course_22 : decode cX4_course 22 = .ok (.iload_n 2, 1) := by decide +kernel
theorem dX4_course_23 : decode cX4_course 23 = .ok (.invokevirtual 96, 3) := by decide +kernel
theorem dX4_course_26 : decode cX4_course 26 = .ok (.goto 5, 3) := by decide +kernel
theorem dX4_course_29 : decode cX4_course 29 = .ok (.bipush (-3), 2) := by decide +kernel
theorem dX4_course_31 : decode cX4_course 31 = .ok (.ireturn, 1) := by decide +kernel
theorem dX4_late_0 : decode cX4_late 0 = .ok (.aload_n 0, 1) := by decide +kernel
theorem dX4_late_1 : decode cX4_late 1 = .ok (.iload_n 1, 1) := by decide +kernel
theorem dX4_late_2 : decode cX4_late 2 = .ok (.iconst 1, 1) := by decide +kernel
theorem dX4_late_3 : decode cX4_late 3 = .ok (.invokevirtual 55, 3) := by decide +kernel
theorem dX4_late_6 : decode cX4_late 6 = .ok (.ifCond .eq 34, 3) := by decide +kernel
theorem dX4_late_9 : decode cX4_late 9 = .ok (.aload_n 0, 1) := by decide +kernel
theorem dX4_late_10 : decode cX4_late 10 = .ok (.getfield 7, 3) := by decide +kernel
theorem dX4_late_13 : decode cX4_late 13 = .ok (.iconst 3, 1) := by decide +kernel
theorem dX4_late_14 : decode cX4_late 14 = .ok (.iaload, 1) := by decide +kernel
theorem dX4_late_15 : decode cX4_late 15 = .ok (.aload_n 0, 1) := by decide +kernel
theorem dX4_late_16 : decode cX4_late 16 = .ok (.iload_n 1, 1) := by decide +kernel
theorem dX4_late_17 : decode cX4_late 17 = .ok (.iconst 5, 1) := by decide +kernel
theorem dX4_late_18 : decode cX4_late 18 = .ok (.invokevirtual 34, 3) := by decide +kernel
theorem dX4_late_21 : decode cX4_late 21 = .ok (.if_icmp .le 19, 3) := by decide +kernel
theorem dX4_late_24 : decode cX4_late 24 = .ok (.aload_n 0, 1) := by decide +kernel
theorem dX4_late_25 : decode cX4_late 25 = .ok (.getfield 7, 3) := by decide +kernel
theorem dX4_late_28 : decode cX4_late 28 = .ok (.iconst 3, 1) := by decide +kernel
theorem dX4_late_29 : decode cX4_late 29 = .ok (.iaload, 1) := by decide +kernel
theorem dX4_late_30 : decode cX4_late 30 = .ok (.aload_n 0, 1) := by decide +kernel
theorem dX4_late_31 : decode cX4_late 31 = .ok (.iload_n 1, 1) := by decide +kernel
theorem dX4_late_32 : decode cX4_late 32 = .ok (.iconst 5, 1) := by decide +kernel
theorem dX4_late_33 : decode cX4_late 33 = .ok (.invokevirtual 34, 3) := by decide +kernel
theorem dX4_late_36 : decode cX4_late 36 = .ok (.isub, 1) := by decide +kernel
theorem dX4_late_37 : decode cX4_late 37 = .ok (.goto 4, 3) := by decide +kernel
theorem dX4_late_40 : decode cX4_late 40 = .ok (.iconst 0, 1) := by decide +kernel
theorem dX4_late_41 : decode cX4_late 41 = .ok (.ireturn, 1) := by decide +kernel
theorem dX4_copyNow_0 : decode cX4_copyNow 0 = .ok (.iload_n 2, 1) := by decide +kernel
theorem dX4_copyNow_1 : decode cX4_copyNow 1 = .ok (.tableswitch 96 6 10 #[35, 41, 53, 65, 90], 35) := by decide +kernel
theorem dX4_copyNow_36 : decode cX4_copyNow 36 = .ok (.aload_n 0, 1) := by decide +kernel
theorem dX4_copyNow_37 : decode cX4_copyNow 37 = .ok (.iload_n 1, 1) := by decide +kernel
theorem dX4_copyNow_38 : decode cX4_copyNow 38 = .ok (.invokevirtual 99, 3) := by decide +kernel
theorem dX4_copyNow_41 : decode cX4_copyNow 41 = .ok (.ireturn, 1) := by decide +kernel
theorem dX4_copyNow_42 : decode cX4_copyNow 42 = .ok (.aload_n 0, 1) := by decide +kernel
theorem dX4_copyNow_43 : decode cX4_copyNow 43 = .ok (.iload_n 1, 1) := by decide +kernel
theorem dX4_copyNow_44 : decode cX4_copyNow 44 = .ok (.invokevirtual 99, 3) := by decide +kernel
theorem dX4_copyNow_47 : decode cX4_copyNow 47 = .ok (.bipush 30, 2) := by decide +kernel
theorem dX4_copyNow_49 : decode cX4_copyNow 49 = .ok (.imul, 1) := by decide +kernel
theorem dX4_copyNow_50 : decode cX4_copyNow 50 = .ok (.bipush 100, 2) := by decide +kernel
theorem dX4_copyNow_52 : decode cX4_copyNow 52 = .ok (.idiv, 1) := by decide +kernel
theorem dX4_copyNow_53 : decode cX4_copyNow 53 = .ok (.ireturn, 1) := by decide +kernel
theorem dX4_copyNow_54 : decode cX4_copyNow 54 = .ok (.aload_n 0, 1) := by decide +kernel
theorem dX4_copyNow_55 : decode cX4_copyNow 55 = .ok (.iload_n 1, 1) := by decide +kernel
theorem dX4_copyNow_56 : decode cX4_copyNow 56 = .ok (.invokevirtual 99, 3) := by decide +kernel
theorem dX4_copyNow_59 : decode cX4_copyNow 59 = .ok (.bipush 75, 2) := by decide +kernel
theorem dX4_copyNow_61 : decode cX4_copyNow 61 = .ok (.imul, 1) := by decide +kernel
theorem dX4_copyNow_62 : decode cX4_copyNow 62 = .ok (.bipush 100, 2) := by decide +kernel
theorem dX4_copyNow_64 : decode cX4_copyNow 64 = .ok (.idiv, 1) := by decide +kernel
theorem dX4_copyNow_65 : decode cX4_copyNow 65 = .ok (.ireturn, 1) := by decide +kernel
theorem dX4_copyNow_66 : decode cX4_copyNow 66 = .ok (.aload_n 0, 1) := by decide +kernel
theorem dX4_copyNow_67 : decode cX4_copyNow 67 = .ok (.aload_n 0, 1) := by decide +kernel
theorem dX4_copyNow_68 : decode cX4_copyNow 68 = .ok (.iload_n 1, 1) := by decide +kernel
theorem dX4_copyNow_69 : decode cX4_copyNow 69 = .ok (.iconst 0, 1) := by decide +kernel
theorem dX4_copyNow_70 : decode cX4_copyNow 70 = .ok (.invokevirtual 34, 3) := by decide +kernel
theorem dX4_copyNow_73 : decode cX4_copyNow 73 = .ok (.aload_n 0, 1) := by decide +kernel
theorem dX4_copyNow_74 : decode cX4_copyNow 74 = .ok (.iload_n 1, 1) := by decide +kernel
theorem dX4_copyNow_75 : decode cX4_copyNow 75 = .ok (.iconst 1, 1) := by decide +kernel
theorem dX4_copyNow_76 : decode cX4_copyNow 76 = .ok (.invokevirtual 34, 3) := by decide +kernel
theorem dX4_copyNow_79 : decode cX4_copyNow 79 = .ok (.invokevirtual 59, 3) := by decide +kernel
theorem dX4_copyNow_82 : decode cX4_copyNow 82 = .ok (.ifCond .eq 7, 3) := by decide +kernel
theorem dX4_copyNow_85 : decode cX4_copyNow 85 = .ok (.iconst 1, 1) := by decide +kernel
theorem dX4_copyNow_86 : decode cX4_copyNow 86 = .ok (.goto 4, 3) := by decide +kernel
theorem dX4_copyNow_89 : decode cX4_copyNow 89 = .ok (.iconst 0, 1) := by decide +kernel
theorem dX4_copyNow_90 : decode cX4_copyNow 90 = .ok (.ireturn, 1) := by decide +kernel
theorem dX4_copyNow_91 : decode cX4_copyNow 91 = .ok (.aload_n 0, 1) := by decide +kernel
theorem dX4_copyNow_92 : decode cX4_copyNow 92 = .ok (.iload_n 1, 1) := by decide +kernel
theorem dX4_copyNow_93 : decode cX4_copyNow 93 = .ok (.invokevirtual 102, 3) := by decide +kernel
theorem dX4_copyNow_96 : decode cX4_copyNow 96 = .ok (.ireturn, 1) := by decide +kernel
theorem dX4_copyNow_97 : decode cX4_copyNow 97 = .ok (.aload_n 0, 1) := by decide +kernel
theorem dX4_copyNow_98 : decode cX4_copyNow 98 = .ok (.iload_n 1, 1) := by decide +kernel
theorem dX4_copyNow_99 : decode cX4_copyNow 99 = .ok (.iload_n 2, 1) := by decide +kernel
theorem dX4_copyNow_100 : decode cX4_copyNow 100 = .ok (.invokevirtual 34, 3) := by decide +kernel
theorem dX4_copyNow_103 : decode cX4_copyNow 103 = .ok (.ireturn, 1) := by decide +kernel
theorem dX4_copy_0 : decode cX4_copy 0 = .ok (.aload_n 0, 1) := by decide +kernel
theorem dX4_copy_1 : decode cX4_copy 1 = .ok (.iload_n 1, 1) := by decide +kernel
theorem dX4_copy_2 : decode cX4_copy 2 = .ok (.invokevirtual 105, 3) := by decide +kernel
theorem dX4_copy_5 : decode cX4_copy 5 = .ok (.ifCond .ne 6, 3) := by decide +kernel
theorem dX4_copy_8 : decode cX4_copy 8 = .ok (.bipush (-2), 2) := by decide +kernel
theorem dX4_copy_10 : decode cX4_copy 10 = .ok (.ireturn, 1) := by decide +kernel
theorem dX4_copy_11 : decode cX4_copy 11 = .ok (.iload_n 2, 1) := by decide +kernel
theorem dX4_copy_12 : decode cX4_copy 12 = .ok (.iconst 0, 1) := by decide +kernel
theorem dX4_copy_13 : decode cX4_copy 13 = .ok (.bipush 10, 2) := by decide +kernel
theorem dX4_copy_15 : decode cX4_copy 15 = .ok (.invokestatic 30, 3) := by decide +kernel
theorem dX4_copy_18 : decode cX4_copy 18 = .ok (.ifCond .eq 12, 3) := by decide +kernel
theorem dX4_copy_21 : decode cX4_copy 21 = .ok (.aload_n 0, 1) := by decide +kernel
theorem dX4_copy_22 : decode cX4_copy 22 = .ok (.iload_n 1, 1) := by decide +kernel
theorem dX4_copy_23 : decode cX4_copy 23 = .ok (.iload_n 2, 1) := by decide +kernel
theorem dX4_copy_24 : decode cX4_copy 24 = .ok (.invokevirtual 108, 3) := by decide +kernel
theorem dX4_copy_27 : decode cX4_copy 27 = .ok (.goto 5, 3) := by decide +kernel
theorem dX4_copy_30 : decode cX4_copy 30 = .ok (.bipush (-3), 2) := by decide +kernel
theorem dX4_copy_32 : decode cX4_copy 32 = .ok (.ireturn, 1) := by decide +kernel
theorem dX4_sum_0 : decode cX4_sum 0 = .ok (.iload_n 1, 1) := by decide +kernel
theorem dX4_sum_1 : decode cX4_sum 1 = .ok (.bipush 7, 2) := by decide +kernel
theorem dX4_sum_3 : decode cX4_sum 3 = .ok (.if_icmp .ge 13, 3) := by decide +kernel
theorem dX4_sum_6 : decode cX4_sum 6 = .ok (.aload_n 0, 1) := by decide +kernel
theorem dX4_sum_7 : decode cX4_sum 7 = .ok (.getfield 7, 3) := by decide +kernel
theorem dX4_sum_10 : decode cX4_sum 10 = .ok (.bipush 8, 2) := by decide +kernel
theorem dX4_sum_12 : decode cX4_sum 12 = .ok (.iload_n 1, 1) := by decide +kernel
theorem dX4_sum_13 : decode cX4_sum 13 = .ok (.iadd, 1) := by decide +kernel
theorem dX4_sum_14 : decode cX4_sum 14 = .ok (.iaload, 1) := by decide +kernel
theorem dX4_sum_15 : decode cX4_sum 15 = .ok (.ireturn, 1) := by decide +kernel
theorem dX4_sum_16 : decode cX4_sum 16 = .ok (.iconst 0, 1) := by decide +kernel
theorem dX4_sum_17 : decode cX4_sum 17 = .ok (.istore_n 2, 1) := by decide +kernel
theorem dX4_sum_18 : decode cX4_sum 18 = .ok (.iconst 0, 1) := by decide +kernel
theorem dX4_sum_19 : decode cX4_sum 19 = .ok (.istore_n 3, 1) := by decide +kernel
theorem dX4_sum_20 : decode cX4_sum 20 = .ok (.iload_n 3, 1) := by decide +kernel
theorem dX4_sum_21 : decode cX4_sum 21 = .ok (.iconst 5, 1) := by decide +kernel
theorem dX4_sum_22 : decode cX4_sum 22 = .ok (.if_icmp .ge 21, 3) := by decide +kernel
theorem dX4_sum_25 : decode cX4_sum 25 = .ok (.iload_n 2, 1) := by decide +kernel
theorem dX4_sum_26 : decode cX4_sum 26 = .ok (.aload_n 0, 1) := by decide +kernel
theorem dX4_sum_27 : decode cX4_sum 27 = .ok (.getfield 7, 3) := by decide +kernel
theorem dX4_sum_30 : decode cX4_sum 30 = .ok (.bipush 8, 2) := by decide +kernel
theorem dX4_sum_32 : decode cX4_sum 32 = .ok (.iload_n 3, 1) := by decide +kernel
theorem dX4_sum_33 : decode cX4_sum 33 = .ok (.iadd, 1) := by decide +kernel
theorem dX4_sum_34 : decode cX4_sum 34 = .ok (.iaload, 1) := by decide +kernel
theorem dX4_sum_35 : decode cX4_sum 35 = .ok (.iadd, 1) := by decide +kernel
theorem dX4_sum_36 : decode cX4_sum 36 = .ok (.istore_n 2, 1) := by decide +kernel
theorem dX4_sum_37 : decode cX4_sum 37 = .ok (.iinc 3 1, 3) := by decide +kernel
theorem dX4_sum_40 : decode cX4_sum 40 = .ok (.goto (-20), 3) := by decide +kernel
theorem dX4_sum_43 : decode cX4_sum 43 = .ok (.ldc 111, 2) := by decide +kernel
theorem dX4_sum_45 : decode cX4_sum 45 = .ok (.iload_n 2, 1) := by decide +kernel
theorem dX4_sum_46 : decode cX4_sum 46 = .ok (.iadd, 1) := by decide +kernel
theorem dX4_sum_47 : decode cX4_sum 47 = .ok (.aload_n 0, 1) := by decide +kernel
theorem dX4_sum_48 : decode cX4_sum 48 = .ok (.getfield 7, 3) := by decide +kernel
theorem dX4_sum_51 : decode cX4_sum 51 = .ok (.bipush 13, 2) := by decide +kernel
theorem dX4_sum_53 : decode cX4_sum 53 = .ok (.iaload, 1) := by decide +kernel
theorem dX4_sum_54 : decode cX4_sum 54 = .ok (.isub, 1) := by decide +kernel
theorem dX4_sum_55 : decode cX4_sum 55 = .ok (.aload_n 0, 1) := by decide +kernel
theorem dX4_sum_56 : decode cX4_sum 56 = .ok (.getfield 7, 3) := by decide +kernel
theorem dX4_sum_59 : decode cX4_sum 59 = .ok (.bipush 14, 2) := by decide +kernel
theorem dX4_sum_61 : decode cX4_sum 61 = .ok (.iaload, 1) := by decide +kernel
theorem dX4_sum_62 : decode cX4_sum 62 = .ok (.isub, 1) := by decide +kernel
theorem dX4_sum_63 : decode cX4_sum 63 = .ok (.ireturn, 1) := by decide +kernel
theorem dX4_book_0 : decode cX4_book 0 = .ok (.iload_n 1, 1) := by decide +kernel
theorem dX4_book_1 : decode cX4_book 1 = .ok (.iconst 0, 1) := by decide +kernel
theorem dX4_book_2 : decode cX4_book 2 = .ok (.bipush 7, 2) := by decide +kernel
theorem dX4_book_4 : decode cX4_book 4 = .ok (.invokestatic 30, 3) := by decide +kernel
theorem dX4_book_7 : decode cX4_book 7 = .ok (.ifCond .eq 11, 3) := by decide +kernel
theorem dX4_book_10 : decode cX4_book 10 = .ok (.aload_n 0, 1) := by decide +kernel
theorem dX4_book_11 : decode cX4_book 11 = .ok (.iload_n 1, 1) := by decide +kernel
theorem dX4_book_12 : decode cX4_book 12 = .ok (.invokevirtual 112, 3) := by decide +kernel
theorem dX4_book_15 : decode cX4_book 15 = .ok (.goto 5, 3) := by decide +kernel
theorem dX4_book_18 : decode cX4_book 18 = .ok (.bipush (-3), 2) := by decide +kernel
theorem dX4_book_20 : decode cX4_book 20 = .ok (.ireturn, 1) := by decide +kernel
theorem dX4_comes_0 : decode cX4_comes 0 = .ok (.aload_n 0, 1) := by decide +kernel
theorem dX4_comes_1 : decode cX4_comes 1 = .ok (.getfield 7, 3) := by decide +kernel
theorem dX4_comes_4 : decode cX4_comes 4 = .ok (.iconst 1, 1) := by decide +kernel
theorem dX4_comes_5 : decode cX4_comes 5 = .ok (.iaload, 1) := by decide +kernel
theorem dX4_comes_6 : decode cX4_comes 6 = .ok (.istore 4, 2) := by decide +kernel
theorem dX4_comes_8 : decode cX4_comes 8 = .ok (.aload_n 0, 1) := by decide +kernel
theorem dX4_comes_9 : decode cX4_comes 9 = .ok (.iload 4, 2) := by decide +kernel
theorem dX4_comes_11 : decode cX4_comes 11 = .ok (.iconst 0, 1) := by decide +kernel
theorem dX4_comes_12 : decode cX4_comes 12 = .ok (.iload_n 1, 1) := by decide +kernel
theorem dX4_comes_13 : decode cX4_comes 13 = .ok (.invokevirtual 115, 3) := by decide +kernel
theorem dX4_comes_16 : decode cX4_comes 16 = .ok (.aload_n 0, 1) := by decide +kernel
theorem dX4_comes_17 : decode cX4_comes 17 = .ok (.iload 4, 2) := by decide +kernel
theorem dX4_comes_19 : decode cX4_comes 19 = .ok (.iconst 1, 1) := by decide +kernel
theorem dX4_comes_20 : decode cX4_comes 20 = .ok (.iload_n 2, 1) := by decide +kernel
theorem dX4_comes_21 : decode cX4_comes 21 = .ok (.invokevirtual 115, 3) := by decide +kernel
theorem dX4_comes_24 : decode cX4_comes 24 = .ok (.aload_n 0, 1) := by decide +kernel
theorem dX4_comes_25 : decode cX4_comes 25 = .ok (.iload 4, 2) := by decide +kernel
theorem dX4_comes_27 : decode cX4_comes 27 = .ok (.iconst 2, 1) := by decide +kernel
theorem dX4_comes_28 : decode cX4_comes 28 = .ok (.iload_n 3, 1) := by decide +kernel
theorem dX4_comes_29 : decode cX4_comes 29 = .ok (.invokevirtual 115, 3) := by decide +kernel
theorem dX4_comes_32 : decode cX4_comes 32 = .ok (.aload_n 0, 1) := by decide +kernel
theorem dX4_comes_33 : decode cX4_comes 33 = .ok (.iload 4, 2) := by decide +kernel
theorem dX4_comes_35 : decode cX4_comes 35 = .ok (.iconst 3, 1) := by decide +kernel
theorem dX4_comes_36 : decode cX4_comes 36 = .ok (.iconst 0, 1) := by decide +kernel
theorem dX4_comes_37 : decode cX4_comes 37 = .ok (.invokevirtual 115, 3) := by decide +kernel
theorem dX4_comes_40 : decode cX4_comes 40 = .ok (.aload_n 0, 1) := by decide +kernel
theorem dX4_comes_41 : decode cX4_comes 41 = .ok (.iload 4, 2) := by decide +kernel
theorem dX4_comes_43 : decode cX4_comes 43 = .ok (.iconst 4, 1) := by decide +kernel
theorem dX4_comes_44 : decode cX4_comes 44 = .ok (.iconst (-1), 1) := by decide +kernel
theorem dX4_comes_45 : decode cX4_comes 45 = .ok (.invokevirtual 115, 3) := by decide +kernel
theorem dX4_comes_48 : decode cX4_comes 48 = .ok (.aload_n 0, 1) := by decide +kernel
theorem dX4_comes_49 : decode cX4_comes 49 = .ok (.iload 4, 2) := by decide +kernel
theorem dX4_comes_51 : decode cX4_comes 51 = .ok (.iconst 5, 1) := by decide +kernel
theorem dX4_comes_52 : decode cX4_comes 52 = .ok (.iconst (-1), 1) := by decide +kernel
theorem dX4_comes_53 : decode cX4_comes 53 = .ok (.invokevirtual 115, 3) := by decide +kernel
theorem dX4_comes_56 : decode cX4_comes 56 = .ok (.aload_n 0, 1) := by decide +kernel
theorem dX4_comes_57 : decode cX4_comes 57 = .ok (.getfield 7, 3) := by decide +kernel
theorem dX4_comes_60 : decode cX4_comes 60 = .ok (.iconst 1, 1) := by decide +kernel
theorem dX4_comes_61 : decode cX4_comes 61 = .ok (.dup2, 1) := by decide +kernel
theorem dX4_comes_62 : decode cX4_comes 62 = .ok (.iaload, 1) := by decide +kernel
theorem dX4_comes_63 : decode cX4_comes 63 = .ok (.iconst 1, 1) := by decide +kernel
theorem dX4_comes_64 : decode cX4_comes 64 = .ok (.iadd, 1) := by decide +kernel
theorem dX4_comes_65 : decode cX4_comes 65 = .ok (.iastore, 1) := by decide +kernel
theorem dX4_comes_66 : decode cX4_comes 66 = .ok (.return_, 1) := by decide +kernel
theorem dX4_goes_0 : decode cX4_goes 0 = .ok (.aload_n 0, 1) := by decide +kernel
theorem dX4_goes_1 : decode cX4_goes 1 = .ok (.iload_n 1, 1) := by decide +kernel
theorem dX4_goes_2 : decode cX4_goes 2 = .ok (.iconst 3, 1) := by decide +kernel
theorem dX4_goes_3 : decode cX4_goes 3 = .ok (.iload_n 2, 1) := by decide +kernel
theorem dX4_goes_4 : decode cX4_goes 4 = .ok (.invokevirtual 115, 3) := by decide +kernel
theorem dX4_goes_7 : decode cX4_goes 7 = .ok (.aload_n 0, 1) := by decide +kernel
theorem dX4_goes_8 : decode cX4_goes 8 = .ok (.iload_n 1, 1) := by decide +kernel
theorem dX4_goes_9 : decode cX4_goes 9 = .ok (.iconst 4, 1) := by decide +kernel
theorem dX4_goes_10 : decode cX4_goes 10 = .ok (.iconst (-1), 1) := by decide +kernel
theorem dX4_goes_11 : decode cX4_goes 11 = .ok (.invokevirtual 115, 3) := by decide +kernel
theorem dX4_goes_14 : decode cX4_goes 14 = .ok (.aload_n 0, 1) := by decide +kernel
theorem dX4_goes_15 : decode cX4_goes 15 = .ok (.iload_n 1, 1) := by decide +kernel
theorem dX4_goes_16 : decode cX4_goes 16 = .ok (.iconst 5, 1) := by decide +kernel
theorem dX4_goes_17 : decode cX4_goes 17 = .ok (.iconst (-1), 1) := by decide +kernel
theorem dX4_goes_18 : decode cX4_goes 18 = .ok (.invokevirtual 115, 3) := by decide +kernel
theorem dX4_goes_21 : decode cX4_goes 21 = .ok (.return_, 1) := by decide +kernel
theorem dX4_cannotBuy_0 : decode cX4_cannotBuy 0 = .ok (.aload_n 0, 1) := by decide +kernel
theorem dX4_cannotBuy_1 : decode cX4_cannotBuy 1 = .ok (.iload_n 1, 1) := by decide +kernel
theorem dX4_cannotBuy_2 : decode cX4_cannotBuy 2 = .ok (.invokevirtual 65, 3) := by decide +kernel
theorem dX4_cannotBuy_5 : decode cX4_cannotBuy 5 = .ok (.ifCond .ne 6, 3) := by decide +kernel
theorem dX4_cannotBuy_8 : decode cX4_cannotBuy 8 = .ok (.bipush (-2), 2) := by decide +kernel
theorem dX4_cannotBuy_10 : decode cX4_cannotBuy 10 = .ok (.ireturn, 1) := by decide +kernel
theorem dX4_cannotBuy_11 : decode cX4_cannotBuy 11 = .ok (.iload_n 2, 1) := by decide +kernel
theorem dX4_cannotBuy_12 : decode cX4_cannotBuy 12 = .ok (.iconst 1, 1) := by decide +kernel
theorem dX4_cannotBuy_13 : decode cX4_cannotBuy 13 = .ok (.bipush 20, 2) := by decide +kernel
theorem dX4_cannotBuy_15 : decode cX4_cannotBuy 15 = .ok (.invokestatic 30, 3) := by decide +kernel
theorem dX4_cannotBuy_18 : decode cX4_cannotBuy 18 = .ok (.ifCond .ne 6, 3) := by decide +kernel
theorem dX4_cannotBuy_21 : decode cX4_cannotBuy 21 = .ok (.bipush (-3), 2) := by decide +kernel
theorem dX4_cannotBuy_23 : decode cX4_cannotBuy 23 = .ok (.ireturn, 1) := by decide +kernel
theorem dX4_cannotBuy_24 : decode cX4_cannotBuy 24 = .ok (.aload_n 0, 1) := by decide +kernel
theorem dX4_cannotBuy_25 : decode cX4_cannotBuy 25 = .ok (.getfield 7, 3) := by decide +kernel
theorem dX4_cannotBuy_28 : decode cX4_cannotBuy 28 = .ok (.iconst 1, 1) := by decide +kernel
theorem dX4_cannotBuy_29 : decode cX4_cannotBuy 29 = .ok (.iaload, 1) := by decide +kernel
theorem dX4_cannotBuy_30 : decode cX4_cannotBuy 30 = .ok (.iload_n 2, 1) := by decide +kernel
theorem dX4_cannotBuy_31 : decode cX4_cannotBuy 31 = .ok (.iadd, 1) := by decide +kernel
theorem dX4_cannotBuy_32 : decode cX4_cannotBuy 32 = .ok (.bipush 60, 2) := by decide +kernel
theorem dX4_cannotBuy_34 : decode cX4_cannotBuy 34 = .ok (.if_icmp .le 8, 3) := by decide +kernel
theorem dX4_cannotBuy_37 : decode cX4_cannotBuy 37 = .ok (.bipush (-5), 2) := by decide +kernel
theorem dX4_cannotBuy_39 : decode cX4_cannotBuy 39 = .ok (.goto 4, 3) := by decide +kernel
theorem dX4_cannotBuy_42 : decode cX4_cannotBuy 42 = .ok (.iconst 0, 1) := by decide +kernel
theorem dX4_cannotBuy_43 : decode cX4_cannotBuy 43 = .ok (.ireturn, 1) := by decide +kernel
theorem dX4_buys_0 : decode cX4_buys 0 = .ok (.aload_n 0, 1) := by decide +kernel
theorem dX4_buys_1 : decode cX4_buys 1 = .ok (.getfield 7, 3) := by decide +kernel
theorem dX4_buys_4 : decode cX4_buys 4 = .ok (.iconst 1, 1) := by decide +kernel
theorem dX4_buys_5 : decode cX4_buys 5 = .ok (.iaload, 1) := by decide +kernel
theorem dX4_buys_6 : decode cX4_buys 6 = .ok (.istore_n 3, 1) := by decide +kernel
theorem dX4_buys_7 : decode cX4_buys 7 = .ok (.iconst 0, 1) := by decide +kernel
theorem dX4_buys_8 : decode cX4_buys 8 = .ok (.istore 4, 2) := by decide +kernel
theorem dX4_buys_10 : decode cX4_buys 10 = .ok (.iload 4, 2) := by decide +kernel
theorem dX4_buys_12 : decode cX4_buys 12 = .ok (.iload_n 2, 1) := by decide +kernel
theorem dX4_buys_13 : decode cX4_buys 13 = .ok (.if_icmp .ge 20, 3) := by decide +kernel
theorem dX4_buys_16 : decode cX4_buys 16 = .ok (.aload_n 0, 1) := by decide +kernel
theorem dX4_buys_17 : decode cX4_buys 17 = .ok (.iload_n 1, 1) := by decide +kernel
theorem dX4_buys_18 : decode cX4_buys 18 = .ok (.aload_n 0, 1) := by decide +kernel
theorem dX4_buys_19 : decode cX4_buys 19 = .ok (.iload_n 1, 1) := by decide +kernel
theorem dX4_buys_20 : decode cX4_buys 20 = .ok (.invokevirtual 42, 3) := by decide +kernel
theorem dX4_buys_23 : decode cX4_buys 23 = .ok (.iconst 0, 1) := by decide +kernel
theorem dX4_buys_24 : decode cX4_buys 24 = .ok (.invokevirtual 119, 3) := by decide +kernel
theorem dX4_buys_27 : decode cX4_buys 27 = .ok (.iinc 4 1, 3) := by decide +kernel
theorem dX4_buys_30 : decode cX4_buys 30 = .ok (.goto (-20), 3) := by decide +kernel
theorem dX4_buys_33 : decode cX4_buys 33 = .ok (.aload_n 0, 1) := by decide +kernel
theorem dX4_buys_34 : decode cX4_buys 34 = .ok (.getfield 7, 3) := by decide +kernel
theorem dX4_buys_37 : decode cX4_buys 37 = .ok (.bipush 13, 2) := by decide +kernel
theorem dX4_buys_39 : decode cX4_buys 39 = .ok (.dup2, 1) := by decide +kernel
theorem dX4_buys_40 : decode cX4_buys 40 = .ok (.iaload, 1) := by decide +kernel
theorem dX4_buys_41 : decode cX4_buys 41 = .ok (.iload_n 2, 1) := by decide +kernel
theorem dX4_buys_42 : decode cX4_buys 42 = .ok (.aload_n 0, 1) := by decide +kernel
theorem dX4_buys_43 : decode cX4_buys 43 = .ok (.iload_n 1, 1) := by decide +kernel
theorem dX4_buys_44 : decode cX4_buys 44 = .ok (.invokevirtual 38, 3) := by decide +kernel
theorem dX4_buys_47 : decode cX4_buys 47 = .ok (.imul, 1) := by decide +kernel
theorem dX4_buys_48 : decode cX4_buys 48 = .ok (.iadd, 1) := by decide +kernel
theorem dX4_buys_49 : decode cX4_buys 49 = .ok (.iastore, 1) := by decide +kernel
theorem dX4_buys_50 : decode cX4_buys 50 = .ok (.iload_n 3, 1) := by decide +kernel
theorem dX4_buys_51 : decode cX4_buys 51 = .ok (.ireturn, 1) := by decide +kernel
theorem dX4_buy_0 : decode cX4_buy 0 = .ok (.aload_n 0, 1) := by decide +kernel
theorem dX4_buy_1 : decode cX4_buy 1 = .ok (.iload_n 1, 1) := by decide +kernel
theorem dX4_buy_2 : decode cX4_buy 2 = .ok (.iload_n 2, 1) := by decide +kernel
theorem dX4_buy_3 : decode cX4_buy 3 = .ok (.invokevirtual 122, 3) := by decide +kernel
theorem dX4_buy_6 : decode cX4_buy 6 = .ok (.istore_n 3, 1) := by decide +kernel
theorem dX4_buy_7 : decode cX4_buy 7 = .ok (.iload_n 3, 1) := by decide +kernel
theorem dX4_buy_8 : decode cX4_buy 8 = .ok (.ifCond .eq 5, 3) := by decide +kernel
theorem dX4_buy_11 : decode cX4_buy 11 = .ok (.iload_n 3, 1) := by decide +kernel
theorem dX4_buy_12 : decode cX4_buy 12 = .ok (.ireturn, 1) := by decide +kernel
theorem dX4_buy_13 : decode cX4_buy 13 = .ok (.aload_n 0, 1) := by decide +kernel
theorem dX4_buy_14 : decode cX4_buy 14 = .ok (.invokevirtual 62, 3) := by decide +kernel
theorem dX4_buy_17 : decode cX4_buy 17 = .ok (.aload_n 0, 1) := by decide +kernel
theorem dX4_buy_18 : decode cX4_buy 18 = .ok (.iload_n 1, 1) := by decide +kernel
theorem dX4_buy_19 : decode cX4_buy 19 = .ok (.iload_n 2, 1) := by decide +kernel
theorem dX4_buy_20 : decode cX4_buy 20 = .ok (.invokevirtual 125, 3) := by decide +kernel
theorem dX4_buy_23 : decode cX4_buy 23 = .ok (.ireturn, 1) := by decide +kernel
theorem dX4_offered_0 : decode cX4_offered 0 = .ok (.aload_n 0, 1) := by decide +kernel
theorem dX4_offered_1 : decode cX4_offered 1 = .ok (.iload_n 1, 1) := by decide +kernel
theorem dX4_offered_2 : decode cX4_offered 2 = .ok (.iload_n 2, 1) := by decide +kernel
theorem dX4_offered_3 : decode cX4_offered 3 = .ok (.iload_n 3, 1) := by decide +kernel
theorem dX4_offered_4 : decode cX4_offered 4 = .ok (.invokevirtual 48, 3) := by decide +kernel
theorem dX4_offered_7 : decode cX4_offered 7 = .ok (.bipush 40, 2) := by decide +kernel
theorem dX4_offered_9 : decode cX4_offered 9 = .ok (.imul, 1) := by decide +kernel
theorem dX4_offered_10 : decode cX4_offered 10 = .ok (.bipush 100, 2) := by decide +kernel
theorem dX4_offered_12 : decode cX4_offered 12 = .ok (.idiv, 1) := by decide +kernel
theorem dX4_offered_13 : decode cX4_offered 13 = .ok (.istore 4, 2) := by decide +kernel
theorem dX4_offered_15 : decode cX4_offered 15 = .ok (.aload_n 0, 1) := by decide +kernel
theorem dX4_offered_16 : decode cX4_offered 16 = .ok (.iload_n 1, 1) := by decide +kernel
theorem dX4_offered_17 : decode cX4_offered 17 = .ok (.iload_n 2, 1) := by decide +kernel
theorem dX4_offered_18 : decode cX4_offered 18 = .ok (.invokevirtual 59, 3) := by decide +kernel
theorem dX4_offered_21 : decode cX4_offered 21 = .ok (.ifCond .ne 7, 3) := by decide +kernel
theorem dX4_offered_24 : decode cX4_offered 24 = .ok (.iconst 0, 1) := by decide +kernel
theorem dX4_offered_25 : decode cX4_offered 25 = .ok (.goto 25, 3) := by decide +kernel
theorem dX4_offered_28 : decode cX4_offered 28 = .ok (.aload_n 0, 1) := by decide +kernel
theorem dX4_offered_29 : decode cX4_offered 29 = .ok (.iload_n 1, 1) := by decide +kernel
theorem dX4_offered_30 : decode cX4_offered 30 = .ok (.invokevirtual 84, 3) := by decide +kernel
theorem dX4_offered_33 : decode cX4_offered 33 = .ok (.aload_n 0, 1) := by decide +kernel
theorem dX4_offered_34 : decode cX4_offered 34 = .ok (.iload_n 1, 1) := by decide +kernel
theorem dX4_offered_35 : decode cX4_offered 35 = .ok (.invokevirtual 81, 3) := by decide +kernel
theorem dX4_offered_38 : decode cX4_offered 38 = .ok (.if_icmp .lt 10, 3) := by decide +kernel
theorem dX4_offered_41 : decode cX4_offered 41 = .ok (.iload 4, 2) := by decide +kernel
theorem dX4_offered_43 : decode cX4_offered 43 = .ok (.iconst 2, 1) := by decide +kernel
theorem dX4_offered_44 : decode cX4_offered 44 = .ok (.idiv, 1) := by decide +kernel
theorem dX4_offered_45 : decode cX4_offered 45 = .ok (.goto 5, 3) := by decide +kernel
theorem dX4_offered_48 : decode cX4_offered 48 = .ok (.iload 4, 2) := by decide +kernel
theorem dX4_offered_50 : decode cX4_offered 50 = .ok (.ireturn, 1) := by decide +kernel
theorem dX4_cannotOffer_0 : decode cX4_cannotOffer 0 = .ok (.aload_n 0, 1) := by decide +kernel
theorem dX4_cannotOffer_1 : decode cX4_cannotOffer 1 = .ok (.iload_n 1, 1) := by decide +kernel
theorem dX4_cannotOffer_2 : decode cX4_cannotOffer 2 = .ok (.invokevirtual 65, 3) := by decide +kernel
theorem dX4_cannotOffer_5 : decode cX4_cannotOffer 5 = .ok (.ifCond .ne 6, 3) := by decide +kernel
theorem dX4_cannotOffer_8 : decode cX4_cannotOffer 8 = .ok (.bipush (-2), 2) := by decide +kernel
theorem dX4_cannotOffer_10 : decode cX4_cannotOffer 10 = .ok (.ireturn, 1) := by decide +kernel
theorem dX4_cannotOffer_11 : decode cX4_cannotOffer 11 = .ok (.iload_n 2, 1) := by decide +kernel
theorem dX4_cannotOffer_12 : decode cX4_cannotOffer 12 = .ok (.iconst 1, 1) := by decide +kernel
theorem dX4_cannotOffer_13 : decode cX4_cannotOffer 13 = .ok (.bipush 30, 2) := by decide +kernel
theorem dX4_cannotOffer_15 : decode cX4_cannotOffer 15 = .ok (.invokestatic 30, 3) := by decide +kernel
theorem dX4_cannotOffer_18 : decode cX4_cannotOffer 18 = .ok (.ifCond .eq 16, 3) := by decide +kernel
theorem dX4_cannotOffer_21 : decode cX4_cannotOffer 21 = .ok (.iload_n 3, 1) := by decide +kernel
theorem dX4_cannotOffer_22 : decode cX4_cannotOffer 22 = .ok (.iconst 0, 1) := by decide +kernel
theorem dX4_cannotOffer_23 : decode cX4_cannotOffer 23 = .ok (.iconst 4, 1) := by decide +kernel
theorem dX4_cannotOffer_24 : decode cX4_cannotOffer 24 = .ok (.invokestatic 30, 3) := by decide +kernel
theorem dX4_cannotOffer_27 : decode cX4_cannotOffer 27 = .ok (.ifCond .eq 7, 3) := by decide +kernel
theorem dX4_cannotOffer_30 : decode cX4_cannotOffer 30 = .ok (.iconst 0, 1) := by decide +kernel
theorem dX4_cannotOffer_31 : decode cX4_cannotOffer 31 = .ok (.goto 5, 3) := by decide +kernel
theorem dX4_cannotOffer_34 : decode cX4_cannotOffer 34 = .ok (.bipush (-3), 2) := by decide +kernel
theorem dX4_cannotOffer_36 : decode cX4_cannotOffer 36 = .ok (.ireturn, 1) := by decide +kernel
theorem dX4_offer_0 : decode cX4_offer 0 = .ok (.aload_n 0, 1) := by decide +kernel
theorem dX4_offer_1 : decode cX4_offer 1 = .ok (.iload_n 1, 1) := by decide +kernel
theorem dX4_offer_2 : decode cX4_offer 2 = .ok (.iload_n 2, 1) := by decide +kernel
theorem dX4_offer_3 : decode cX4_offer 3 = .ok (.iload_n 3, 1) := by decide +kernel
theorem dX4_offer_4 : decode cX4_offer 4 = .ok (.invokevirtual 128, 3) := by decide +kernel
theorem dX4_offer_7 : decode cX4_offer 7 = .ok (.istore 4, 2) := by decide +kernel
theorem dX4_offer_9 : decode cX4_offer 9 = .ok (.iload 4, 2) := by decide +kernel
theorem dX4_offer_11 : decode cX4_offer 11 = .ok (.ifCond .eq 8, 3) := by decide +kernel
theorem dX4_offer_14 : decode cX4_offer 14 = .ok (.iload 4, 2) := by decide +kernel
theorem dX4_offer_16 : decode cX4_offer 16 = .ok (.goto 10, 3) := by decide +kernel
theorem dX4_offer_19 : decode cX4_offer 19 = .ok (.aload_n 0, 1) := by decide +kernel
theorem dX4_offer_20 : decode cX4_offer 20 = .ok (.iload_n 1, 1) := by decide +kernel
theorem dX4_offer_21 : decode cX4_offer 21 = .ok (.iload_n 2, 1) := by decide +kernel
theorem dX4_offer_22 : decode cX4_offer 22 = .ok (.iload_n 3, 1) := by decide +kernel
theorem dX4_offer_23 : decode cX4_offer 23 = .ok (.invokevirtual 131, 3) := by decide +kernel
theorem dX4_offer_26 : decode cX4_offer 26 = .ok (.ireturn, 1) := by decide +kernel
theorem dX4_buyBack_0 : decode cX4_buyBack 0 = .ok (.aload_n 0, 1) := by decide +kernel
theorem dX4_buyBack_1 : decode cX4_buyBack 1 = .ok (.iload_n 1, 1) := by decide +kernel
theorem dX4_buyBack_2 : decode cX4_buyBack 2 = .ok (.iload_n 2, 1) := by decide +kernel
theorem dX4_buyBack_3 : decode cX4_buyBack 3 = .ok (.iload_n 3, 1) := by decide +kernel
theorem dX4_buyBack_4 : decode cX4_buyBack 4 = .ok (.invokevirtual 128, 3) := by decide +kernel
theorem dX4_buyBack_7 : decode cX4_buyBack 7 = .ok (.istore 4, 2) := by decide +kernel
theorem dX4_buyBack_9 : decode cX4_buyBack 9 = .ok (.iload 4, 2) := by decide +kernel
theorem dX4_buyBack_11 : decode cX4_buyBack 11 = .ok (.ifCond .eq 6, 3) := by decide +kernel
theorem dX4_buyBack_14 : decode cX4_buyBack 14 = .ok (.iload 4, 2) := by decide +kernel
theorem dX4_buyBack_16 : decode cX4_buyBack 16 = .ok (.ireturn, 1) := by decide +kernel
theorem dX4_buyBack_17 : decode cX4_buyBack 17 = .ok (.aload_n 0, 1) := by decide +kernel
theorem dX4_buyBack_18 : decode cX4_buyBack 18 = .ok (.iload_n 1, 1) := by decide +kernel
theorem dX4_buyBack_19 : decode cX4_buyBack 19 = .ok (.iload_n 2, 1) := by decide +kernel
theorem dX4_buyBack_20 : decode cX4_buyBack 20 = .ok (.iload_n 3, 1) := by decide +kernel
theorem dX4_buyBack_21 : decode cX4_buyBack 21 = .ok (.invokevirtual 131, 3) := by decide +kernel
theorem dX4_buyBack_24 : decode cX4_buyBack 24 = .ok (.istore 5, 2) := by decide +kernel
theorem dX4_buyBack_26 : decode cX4_buyBack 26 = .ok (.iload 5, 2) := by decide +kernel
theorem dX4_buyBack_28 : decode cX4_buyBack 28 = .ok (.ifCond .ne 6, 3) := by decide +kernel
theorem dX4_buyBack_31 : decode cX4_buyBack 31 = .ok (.bipush (-4), 2) := by decide +kernel
theorem dX4_buyBack_33 : decode cX4_buyBack 33 = .ok (.ireturn, 1) := by decide +kernel
theorem dX4_buyBack_34 : decode cX4_buyBack 34 = .ok (.aload_n 0, 1) := by decide +kernel
theorem dX4_buyBack_35 : decode cX4_buyBack 35 = .ok (.getfield 7, 3) := by decide +kernel
theorem dX4_buyBack_38 : decode cX4_buyBack 38 = .ok (.iconst 1, 1) := by decide +kernel
theorem dX4_buyBack_39 : decode cX4_buyBack 39 = .ok (.iaload, 1) := by decide +kernel
theorem dX4_buyBack_40 : decode cX4_buyBack 40 = .ok (.bipush 60, 2) := by decide +kernel
theorem dX4_buyBack_42 : decode cX4_buyBack 42 = .ok (.if_icmp .ne 6, 3) := by decide +kernel
theorem dX4_buyBack_45 : decode cX4_buyBack 45 = .ok (.bipush (-5), 2) := by decide +kernel
theorem dX4_buyBack_47 : decode cX4_buyBack 47 = .ok (.ireturn, 1) := by decide +kernel
theorem dX4_buyBack_48 : decode cX4_buyBack 48 = .ok (.aload_n 0, 1) := by decide +kernel
theorem dX4_buyBack_49 : decode cX4_buyBack 49 = .ok (.invokevirtual 62, 3) := by decide +kernel
theorem dX4_buyBack_52 : decode cX4_buyBack 52 = .ok (.aload_n 0, 1) := by decide +kernel
theorem dX4_buyBack_53 : decode cX4_buyBack 53 = .ok (.iload_n 1, 1) := by decide +kernel
theorem dX4_buyBack_54 : decode cX4_buyBack 54 = .ok (.iload_n 2, 1) := by decide +kernel
theorem dX4_buyBack_55 : decode cX4_buyBack 55 = .ok (.iload_n 3, 1) := by decide +kernel
theorem dX4_buyBack_56 : decode cX4_buyBack 56 = .ok (.invokevirtual 119, 3) := by decide +kernel
theorem dX4_buyBack_59 : decode cX4_buyBack 59 = .ok (.aload_n 0, 1) := by decide +kernel
theorem dX4_buyBack_60 : decode cX4_buyBack 60 = .ok (.getfield 7, 3) := by decide +kernel
theorem dX4_buyBack_63 : decode cX4_buyBack 63 = .ok (.bipush 14, 2) := by decide +kernel
theorem dX4_buyBack_65 : decode cX4_buyBack 65 = .ok (.dup2, 1) := by decide +kernel
theorem dX4_buyBack_66 : decode cX4_buyBack 66 = .ok (.iaload, 1) := by decide +kernel
theorem dX4_buyBack_67 : decode cX4_buyBack 67 = .ok (.iload 5, 2) := by decide +kernel
theorem dX4_buyBack_69 : decode cX4_buyBack 69 = .ok (.iadd, 1) := by decide +kernel
theorem dX4_buyBack_70 : decode cX4_buyBack 70 = .ok (.iastore, 1) := by decide +kernel
theorem dX4_buyBack_71 : decode cX4_buyBack 71 = .ok (.aload_n 0, 1) := by decide +kernel
theorem dX4_buyBack_72 : decode cX4_buyBack 72 = .ok (.getfield 7, 3) := by decide +kernel
theorem dX4_buyBack_75 : decode cX4_buyBack 75 = .ok (.iconst 1, 1) := by decide +kernel
theorem dX4_buyBack_76 : decode cX4_buyBack 76 = .ok (.iaload, 1) := by decide +kernel
theorem dX4_buyBack_77 : decode cX4_buyBack 77 = .ok (.iconst 1, 1) := by decide +kernel
theorem dX4_buyBack_78 : decode cX4_buyBack 78 = .ok (.isub, 1) := by decide +kernel
theorem dX4_buyBack_79 : decode cX4_buyBack 79 = .ok (.ireturn, 1) := by decide +kernel
theorem dX4_cannotSell_0 : decode cX4_cannotSell 0 = .ok (.aload_n 0, 1) := by decide +kernel
theorem dX4_cannotSell_1 : decode cX4_cannotSell 1 = .ok (.iload_n 1, 1) := by decide +kernel
theorem dX4_cannotSell_2 : decode cX4_cannotSell 2 = .ok (.invokevirtual 105, 3) := by decide +kernel
theorem dX4_cannotSell_5 : decode cX4_cannotSell 5 = .ok (.ifCond .ne 8, 3) := by decide +kernel
theorem dX4_cannotSell_8 : decode cX4_cannotSell 8 = .ok (.bipush (-2), 2) := by decide +kernel
theorem dX4_cannotSell_10 : decode cX4_cannotSell 10 = .ok (.goto 18, 3) := by decide +kernel
theorem dX4_cannotSell_13 : decode cX4_cannotSell 13 = .ok (.aload_n 0, 1) := by decide +kernel
theorem dX4_cannotSell_14 : decode cX4_cannotSell 14 = .ok (.iload_n 1, 1) := by decide +kernel
theorem dX4_cannotSell_15 : decode cX4_cannotSell 15 = .ok (.iconst 0, 1) := by decide +kernel
theorem dX4_cannotSell_16 : decode cX4_cannotSell 16 = .ok (.invokevirtual 55, 3) := by decide +kernel
theorem dX4_cannotSell_19 : decode cX4_cannotSell 19 = .ok (.ifCond .eq 7, 3) := by decide +kernel
theorem dX4_cannotSell_22 : decode cX4_cannotSell 22 = .ok (.iconst 0, 1) := by decide +kernel
theorem dX4_cannotSell_23 : decode cX4_cannotSell 23 = .ok (.goto 5, 3) := by decide +kernel
theorem dX4_cannotSell_26 : decode cX4_cannotSell 26 = .ok (.bipush (-4), 2) := by decide +kernel
theorem dX4_cannotSell_28 : decode cX4_cannotSell 28 = .ok (.ireturn, 1) := by decide +kernel
theorem dX4_sells_0 : decode cX4_sells 0 = .ok (.aload_n 0, 1) := by decide +kernel
theorem dX4_sells_1 : decode cX4_sells 1 = .ok (.iload_n 1, 1) := by decide +kernel
theorem dX4_sells_2 : decode cX4_sells 2 = .ok (.bipush 8, 2) := by decide +kernel
theorem dX4_sells_4 : decode cX4_sells 4 = .ok (.invokevirtual 108, 3) := by decide +kernel
theorem dX4_sells_7 : decode cX4_sells 7 = .ok (.istore_n 2, 1) := by decide +kernel
theorem dX4_sells_8 : decode cX4_sells 8 = .ok (.aload_n 0, 1) := by decide +kernel
theorem dX4_sells_9 : decode cX4_sells 9 = .ok (.iload_n 1, 1) := by decide +kernel
theorem dX4_sells_10 : decode cX4_sells 10 = .ok (.iconst 2, 1) := by decide +kernel
theorem dX4_sells_11 : decode cX4_sells 11 = .ok (.invokevirtual 134, 3) := by decide +kernel
theorem dX4_sells_14 : decode cX4_sells 14 = .ok (.aload_n 0, 1) := by decide +kernel
theorem dX4_sells_15 : decode cX4_sells 15 = .ok (.getfield 7, 3) := by decide +kernel
theorem dX4_sells_18 : decode cX4_sells 18 = .ok (.bipush 12, 2) := by decide +kernel
theorem dX4_sells_20 : decode cX4_sells 20 = .ok (.dup2, 1) := by decide +kernel
theorem dX4_sells_21 : decode cX4_sells 21 = .ok (.iaload, 1) := by decide +kernel
theorem dX4_sells_22 : decode cX4_sells 22 = .ok (.iload_n 2, 1) := by decide +kernel
theorem dX4_sells_23 : decode cX4_sells 23 = .ok (.iadd, 1) := by decide +kernel
theorem dX4_sells_24 : decode cX4_sells 24 = .ok (.iastore, 1) := by decide +kernel
theorem dX4_sells_25 : decode cX4_sells 25 = .ok (.iload_n 2, 1) := by decide +kernel
theorem dX4_sells_26 : decode cX4_sells 26 = .ok (.ireturn, 1) := by decide +kernel
theorem dX4_sell_0 : decode cX4_sell 0 = .ok (.aload_n 0, 1) := by decide +kernel
theorem dX4_sell_1 : decode cX4_sell 1 = .ok (.iload_n 1, 1) := by decide +kernel
theorem dX4_sell_2 : decode cX4_sell 2 = .ok (.invokevirtual 137, 3) := by decide +kernel
theorem dX4_sell_5 : decode cX4_sell 5 = .ok (.istore_n 2, 1) := by decide +kernel
theorem dX4_sell_6 : decode cX4_sell 6 = .ok (.iload_n 2, 1) := by decide +kernel
theorem dX4_sell_7 : decode cX4_sell 7 = .ok (.ifCond .eq 5, 3) := by decide +kernel
theorem dX4_sell_10 : decode cX4_sell 10 = .ok (.iload_n 2, 1) := by decide +kernel
theorem dX4_sell_11 : decode cX4_sell 11 = .ok (.ireturn, 1) := by decide +kernel
theorem dX4_sell_12 : decode cX4_sell 12 = .ok (.aload_n 0, 1) := by decide +kernel
theorem dX4_sell_13 : decode cX4_sell 13 = .ok (.invokevirtual 62, 3) := by decide +kernel
theorem dX4_sell_16 : decode cX4_sell 16 = .ok (.aload_n 0, 1) := by decide +kernel
theorem dX4_sell_17 : decode cX4_sell 17 = .ok (.iload_n 1, 1) := by decide +kernel
theorem dX4_sell_18 : decode cX4_sell 18 = .ok (.invokevirtual 140, 3) := by decide +kernel
theorem dX4_sell_21 : decode cX4_sell 21 = .ok (.ireturn, 1) := by decide +kernel
theorem dX4_nextOf_0 : decode cX4_nextOf 0 = .ok (.iconst (-1), 1) := by decide +kernel
theorem dX4_nextOf_1 : decode cX4_nextOf 1 = .ok (.istore_n 2, 1) := by decide +kernel
theorem dX4_nextOf_2 : decode cX4_nextOf 2 = .ok (.iconst 0, 1) := by decide +kernel
theorem dX4_nextOf_3 : decode cX4_nextOf 3 = .ok (.istore_n 3, 1) := by decide +kernel
theorem dX4_nextOf_4 : decode cX4_nextOf 4 = .ok (.iload_n 3, 1) := by decide +kernel
theorem dX4_nextOf_5 : decode cX4_nextOf 5 = .ok (.aload_n 0, 1) := by decide +kernel
theorem dX4_nextOf_6 : decode cX4_nextOf 6 = .ok (.getfield 7, 3) := by decide +kernel
theorem dX4_nextOf_9 : decode cX4_nextOf 9 = .ok (.iconst 1, 1) := by decide +kernel
theorem dX4_nextOf_10 : decode cX4_nextOf 10 = .ok (.iaload, 1) := by decide +kernel
theorem dX4_nextOf_11 : decode cX4_nextOf 11 = .ok (.if_icmp .ge 86, 3) := by decide +kernel
theorem dX4_nextOf_14 : decode cX4_nextOf 14 = .ok (.aload_n 0, 1) := by decide +kernel
theorem dX4_nextOf_15 : decode cX4_nextOf 15 = .ok (.iload_n 1, 1) := by decide +kernel
theorem dX4_nextOf_16 : decode cX4_nextOf 16 = .ok (.iload_n 3, 1) := by decide +kernel
theorem dX4_nextOf_17 : decode cX4_nextOf 17 = .ok (.invokevirtual 93, 3) := by decide +kernel
theorem dX4_nextOf_20 : decode cX4_nextOf 20 = .ok (.ifCond .eq 71, 3) := by decide +kernel
theorem dX4_nextOf_23 : decode cX4_nextOf 23 = .ok (.iload_n 2, 1) := by decide +kernel
theorem dX4_nextOf_24 : decode cX4_nextOf 24 = .ok (.iconst (-1), 1) := by decide +kernel
theorem dX4_nextOf_25 : decode cX4_nextOf 25 = .ok (.if_icmp .eq 48, 3) := by decide +kernel
theorem dX4_nextOf_28 : decode cX4_nextOf 28 = .ok (.aload_n 0, 1) := by decide +kernel
theorem dX4_nextOf_29 : decode cX4_nextOf 29 = .ok (.iload_n 3, 1) := by decide +kernel
theorem dX4_nextOf_30 : decode cX4_nextOf 30 = .ok (.iconst 2, 1) := by decide +kernel
theorem dX4_nextOf_31 : decode cX4_nextOf 31 = .ok (.invokevirtual 34, 3) := by decide +kernel
theorem dX4_nextOf_34 : decode cX4_nextOf 34 = .ok (.aload_n 0, 1) := by decide +kernel
theorem dX4_nextOf_35 : decode cX4_nextOf 35 = .ok (.iload_n 2, 1) := by decide +kernel
theorem dX4_nextOf_36 : decode cX4_nextOf 36 = .ok (.iconst 2, 1) := by decide +kernel
theorem dX4_nextOf_37 : decode cX4_nextOf 37 = .ok (.invokevirtual 34, 3) := by decide +kernel
theorem dX4_nextOf_40 : decode cX4_nextOf 40 = .ok (.if_icmp .gt 33, 3) := by decide +kernel
theorem dX4_nextOf_43 : decode cX4_nextOf 43 = .ok (.aload_n 0, 1) := by decide +kernel
theorem dX4_nextOf_44 : decode cX4_nextOf 44 = .ok (.iload_n 3, 1) := by decide +kernel
theorem dX4_nextOf_45 : decode cX4_nextOf 45 = .ok (.iconst 2, 1) := by decide +kernel
theorem dX4_nextOf_46 : decode cX4_nextOf 46 = .ok (.invokevirtual 34, 3) := by decide +kernel
theorem dX4_nextOf_49 : decode cX4_nextOf 49 = .ok (.aload_n 0, 1) := by decide +kernel
theorem dX4_nextOf_50 : decode cX4_nextOf 50 = .ok (.iload_n 2, 1) := by decide +kernel
theorem dX4_nextOf_51 : decode cX4_nextOf 51 = .ok (.iconst 2, 1) := by decide +kernel
theorem dX4_nextOf_52 : decode cX4_nextOf 52 = .ok (.invokevirtual 34, 3) := by decide +kernel
theorem dX4_nextOf_55 : decode cX4_nextOf 55 = .ok (.if_icmp .ne 22, 3) := by decide +kernel
theorem dX4_nextOf_58 : decode cX4_nextOf 58 = .ok (.aload_n 0, 1) := by decide +kernel
theorem dX4_nextOf_59 : decode cX4_nextOf 59 = .ok (.iload_n 3, 1) := by decide +kernel
theorem dX4_nextOf_60 : decode cX4_nextOf 60 = .ok (.iconst 1, 1) := by decide +kernel
theorem dX4_nextOf_61 : decode cX4_nextOf 61 = .ok (.invokevirtual 34, 3) := by decide +kernel
theorem dX4_nextOf_64 : decode cX4_nextOf 64 = .ok (.aload_n 0, 1) := by decide +kernel
theorem dX4_nextOf_65 : decode cX4_nextOf 65 = .ok (.iload_n 2, 1) := by decide +kernel
theorem dX4_nextOf_66 : decode cX4_nextOf 66 = .ok (.iconst 1, 1) := by decide +kernel
theorem dX4_nextOf_67 : decode cX4_nextOf 67 = .ok (.invokevirtual 34, 3) := by decide +kernel
theorem dX4_nextOf_70 : decode cX4_nextOf 70 = .ok (.if_icmp .ge 7, 3) := by decide +kernel
theorem dX4_nextOf_73 : decode cX4_nextOf 73 = .ok (.iconst 1, 1) := by decide +kernel
theorem dX4_nextOf_74 : decode cX4_nextOf 74 = .ok (.goto 4, 3) := by decide +kernel
theorem dX4_nextOf_77 : decode cX4_nextOf 77 = .ok (.iconst 0, 1) := by decide +kernel
theorem dX4_nextOf_78 : decode cX4_nextOf 78 = .ok (.istore 4, 2) := by decide +kernel
theorem dX4_nextOf_80 : decode cX4_nextOf 80 = .ok (.iload 4, 2) := by decide +kernel
theorem dX4_nextOf_82 : decode cX4_nextOf 82 = .ok (.ifCond .eq 7, 3) := by decide +kernel
theorem dX4_nextOf_85 : decode cX4_nextOf 85 = .ok (.iload_n 3, 1) := by decide +kernel
theorem dX4_nextOf_86 : decode cX4_nextOf 86 = .ok (.goto 4, 3) := by decide +kernel
theorem dX4_nextOf_89 : decode cX4_nextOf 89 = .ok (.iload_n 2, 1) := by decide +kernel
theorem dX4_nextOf_90 : decode cX4_nextOf 90 = .ok (.istore_n 2, 1) := by decide +kernel
theorem dX4_nextOf_91 : decode cX4_nextOf 91 = .ok (.iinc 3 1, 3) := by decide +kernel
theorem dX4_nextOf_94 : decode cX4_nextOf 94 = .ok (.goto (-90), 3) := by decide +kernel
theorem dX4_nextOf_97 : decode cX4_nextOf 97 = .ok (.iload_n 2, 1) := by decide +kernel
theorem dX4_nextOf_98 : decode cX4_nextOf 98 = .ok (.ireturn, 1) := by decide +kernel
theorem dX4_canRent_0 : decode cX4_canRent 0 = .ok (.iconst 0, 1) := by decide +kernel
theorem dX4_canRent_1 : decode cX4_canRent 1 = .ok (.istore_n 3, 1) := by decide +kernel
theorem dX4_canRent_2 : decode cX4_canRent 2 = .ok (.iconst 0, 1) := by decide +kernel
theorem dX4_canRent_3 : decode cX4_canRent 3 = .ok (.istore 4, 2) := by decide +kernel
theorem dX4_canRent_5 : decode cX4_canRent 5 = .ok (.iconst 0, 1) := by decide +kernel
theorem dX4_canRent_6 : decode cX4_canRent 6 = .ok (.istore 5, 2) := by decide +kernel
theorem dX4_canRent_8 : decode cX4_canRent 8 = .ok (.iload 5, 2) := by decide +kernel
theorem dX4_canRent_10 : decode cX4_canRent 10 = .ok (.aload_n 0, 1) := by decide +kernel
theorem dX4_canRent_11 : decode cX4_canRent 11 = .ok (.getfield 7, 3) := by decide +kernel
theorem dX4_canRent_14 : decode cX4_canRent 14 = .ok (.iconst 1, 1) := by decide +kernel
theorem dX4_canRent_15 : decode cX4_canRent 15 = .ok (.iaload, 1) := by decide +kernel
theorem dX4_canRent_16 : decode cX4_canRent 16 = .ok (.if_icmp .ge 56, 3) := by decide +kernel
theorem dX4_canRent_19 : decode cX4_canRent 19 = .ok (.aload_n 0, 1) := by decide +kernel
theorem dX4_canRent_20 : decode cX4_canRent 20 = .ok (.iload 5, 2) := by decide +kernel
theorem dX4_canRent_22 : decode cX4_canRent 22 = .ok (.iconst 1, 1) := by decide +kernel
theorem dX4_canRent_23 : decode cX4_canRent 23 = .ok (.invokevirtual 55, 3) := by decide +kernel
theorem dX4_canRent_26 : decode cX4_canRent 26 = .ok (.ifCond .eq 40, 3) := by decide +kernel
theorem dX4_canRent_29 : decode cX4_canRent 29 = .ok (.aload_n 0, 1) := by decide +kernel
theorem dX4_canRent_30 : decode cX4_canRent 30 = .ok (.iload 5, 2) := by decide +kernel
theorem dX4_canRent_32 : decode cX4_canRent 32 = .ok (.iconst 4, 1) := by decide +kernel
theorem dX4_canRent_33 : decode cX4_canRent 33 = .ok (.invokevirtual 34, 3) := by decide +kernel
theorem dX4_canRent_36 : decode cX4_canRent 36 = .ok (.iload_n 1, 1) := by decide +kernel
theorem dX4_canRent_37 : decode cX4_canRent 37 = .ok (.if_icmp .ne 29, 3) := by decide +kernel
theorem dX4_canRent_40 : decode cX4_canRent 40 = .ok (.iinc 3 1, 3) := by decide +kernel
theorem dX4_canRent_43 : decode cX4_canRent 43 = .ok (.iload 4, 2) := by decide +kernel
theorem dX4_canRent_45 : decode cX4_canRent 45 = .ok (.ifCond .ne 14, 3) := by decide +kernel
theorem dX4_canRent_48 : decode cX4_canRent 48 = .ok (.aload_n 0, 1) := by decide +kernel
theorem dX4_canRent_49 : decode cX4_canRent 49 = .ok (.iload 5, 2) := by decide +kernel
theorem dX4_canRent_51 : decode cX4_canRent 51 = .ok (.iconst 0, 1) := by decide +kernel
theorem dX4_canRent_52 : decode cX4_canRent 52 = .ok (.invokevirtual 34, 3) := by decide +kernel
theorem dX4_canRent_55 : decode cX4_canRent 55 = .ok (.iload_n 2, 1) := by decide +kernel
theorem dX4_canRent_56 : decode cX4_canRent 56 = .ok (.if_icmp .ne 7, 3) := by decide +kernel
theorem dX4_canRent_59 : decode cX4_canRent 59 = .ok (.iconst 1, 1) := by decide +kernel
theorem dX4_canRent_60 : decode cX4_canRent 60 = .ok (.goto 4, 3) := by decide +kernel
theorem dX4_canRent_63 : decode cX4_canRent 63 = .ok (.iconst 0, 1) := by decide +kernel
theorem dX4_canRent_64 : decode cX4_canRent 64 = .ok (.istore 4, 2) := by decide +kernel
theorem dX4_canRent_66 : decode cX4_canRent 66 = .ok (.iinc 5 1, 3) := by decide +kernel
theorem dX4_canRent_69 : decode cX4_canRent 69 = .ok (.goto (-61), 3) := by decide +kernel
theorem dX4_canRent_72 : decode cX4_canRent 72 = .ok (.iload_n 3, 1) := by decide +kernel
theorem dX4_canRent_73 : decode cX4_canRent 73 = .ok (.iconst 4, 1) := by decide +kernel
theorem dX4_canRent_74 : decode cX4_canRent 74 = .ok (.if_icmp .ge 12, 3) := by decide +kernel
theorem dX4_canRent_77 : decode cX4_canRent 77 = .ok (.iload 4, 2) := by decide +kernel
theorem dX4_canRent_79 : decode cX4_canRent 79 = .ok (.ifCond .ne 7, 3) := by decide +kernel
theorem dX4_canRent_82 : decode cX4_canRent 82 = .ok (.iconst 1, 1) := by decide +kernel
theorem dX4_canRent_83 : decode cX4_canRent 83 = .ok (.goto 4, 3) := by decide +kernel
theorem dX4_canRent_86 : decode cX4_canRent 86 = .ok (.iconst 0, 1) := by decide +kernel
theorem dX4_canRent_87 : decode cX4_canRent 87 = .ok (.ireturn, 1) := by decide +kernel
theorem dX4_cannotRent_0 : decode cX4_cannotRent 0 = .ok (.iload_n 1, 1) := by decide +kernel
theorem dX4_cannotRent_1 : decode cX4_cannotRent 1 = .ok (.invokestatic 143, 3) := by decide +kernel
theorem dX4_cannotRent_4 : decode cX4_cannotRent 4 = .ok (.ifCond .eq 11, 3) := by decide +kernel
theorem dX4_cannotRent_7 : decode cX4_cannotRent 7 = .ok (.aload_n 0, 1) := by decide +kernel
theorem dX4_cannotRent_8 : decode cX4_cannotRent 8 = .ok (.iload_n 2, 1) := by decide +kernel
theorem dX4_cannotRent_9 : decode cX4_cannotRent 9 = .ok (.invokevirtual 72, 3) := by decide +kernel
theorem dX4_cannotRent_12 : decode cX4_cannotRent 12 = .ok (.ifCond .ne 6, 3) := by decide +kernel
theorem dX4_cannotRent_15 : decode cX4_cannotRent 15 = .ok (.bipush (-2), 2) := by decide +kernel
theorem dX4_cannotRent_17 : decode cX4_cannotRent 17 = .ok (.ireturn, 1) := by decide +kernel
theorem dX4_cannotRent_18 : decode cX4_cannotRent 18 = .ok (.aload_n 0, 1) := by decide +kernel
theorem dX4_cannotRent_19 : decode cX4_cannotRent 19 = .ok (.iload_n 1, 1) := by decide +kernel
theorem dX4_cannotRent_20 : decode cX4_cannotRent 20 = .ok (.aload_n 0, 1) := by decide +kernel
theorem dX4_cannotRent_21 : decode cX4_cannotRent 21 = .ok (.iload_n 2, 1) := by decide +kernel
theorem dX4_cannotRent_22 : decode cX4_cannotRent 22 = .ok (.iconst 0, 1) := by decide +kernel
theorem dX4_cannotRent_23 : decode cX4_cannotRent 23 = .ok (.invokevirtual 52, 3) := by decide +kernel
theorem dX4_cannotRent_26 : decode cX4_cannotRent 26 = .ok (.invokevirtual 146, 3) := by decide +kernel
theorem dX4_cannotRent_29 : decode cX4_cannotRent 29 = .ok (.ifCond .eq 16, 3) := by decide +kernel
theorem dX4_cannotRent_32 : decode cX4_cannotRent 32 = .ok (.aload_n 0, 1) := by decide +kernel
theorem dX4_cannotRent_33 : decode cX4_cannotRent 33 = .ok (.iload_n 2, 1) := by decide +kernel
theorem dX4_cannotRent_34 : decode cX4_cannotRent 34 = .ok (.invokevirtual 149, 3) := by decide +kernel
theorem dX4_cannotRent_37 : decode cX4_cannotRent 37 = .ok (.iconst (-1), 1) := by decide +kernel
theorem dX4_cannotRent_38 : decode cX4_cannotRent 38 = .ok (.if_icmp .eq 7, 3) := by decide +kernel
theorem dX4_cannotRent_41 : decode cX4_cannotRent 41 = .ok (.iconst 0, 1) := by decide +kernel
theorem dX4_cannotRent_42 : decode cX4_cannotRent 42 = .ok (.goto 5, 3) := by decide +kernel
theorem dX4_cannotRent_45 : decode cX4_cannotRent 45 = .ok (.bipush (-4), 2) := by decide +kernel
theorem dX4_cannotRent_47 : decode cX4_cannotRent 47 = .ok (.ireturn, 1) := by decide +kernel
theorem dX4_charges_0 : decode cX4_charges 0 = .ok (.aload_n 0, 1) := by decide +kernel
theorem dX4_charges_1 : decode cX4_charges 1 = .ok (.getfield 7, 3) := by decide +kernel
theorem dX4_charges_4 : decode cX4_charges 4 = .ok (.bipush 8, 2) := by decide +kernel
theorem dX4_charges_6 : decode cX4_charges 6 = .ok (.iload_n 2, 1) := by decide +kernel
theorem dX4_charges_7 : decode cX4_charges 7 = .ok (.iadd, 1) := by decide +kernel
theorem dX4_charges_8 : decode cX4_charges 8 = .ok (.dup2, 1) := by decide +kernel
theorem dX4_charges_9 : decode cX4_charges 9 = .ok (.iaload, 1) := by decide +kernel
theorem dX4_charges_10 : decode cX4_charges 10 = .ok (.iload_n 3, 1) := by decide +kernel
theorem dX4_charges_11 : decode cX4_charges 11 = .ok (.iadd, 1) := by decide +kernel
theorem dX4_charges_12 : decode cX4_charges 12 = .ok (.iastore, 1) := by decide +kernel
theorem dX4_charges_13 : decode cX4_charges 13 = .ok (.aload_n 0, 1) := by decide +kernel
theorem dX4_charges_14 : decode cX4_charges 14 = .ok (.getfield 7, 3) := by decide +kernel
theorem dX4_charges_17 : decode cX4_charges 17 = .ok (.bipush 15, 2) := by decide +kernel
theorem dX4_charges_19 : decode cX4_charges 19 = .ok (.iload_n 1, 1) := by decide +kernel
theorem dX4_charges_20 : decode cX4_charges 20 = .ok (.iadd, 1) := by decide +kernel
theorem dX4_charges_21 : decode cX4_charges 21 = .ok (.dup2, 1) := by decide +kernel
theorem dX4_charges_22 : decode cX4_charges 22 = .ok (.iaload, 1) := by decide +kernel
theorem dX4_charges_23 : decode cX4_charges 23 = .ok (.iload_n 3, 1) := by decide +kernel
theorem dX4_charges_24 : decode cX4_charges 24 = .ok (.iadd, 1) := by decide +kernel
theorem dX4_charges_25 : decode cX4_charges 25 = .ok (.iastore, 1) := by decide +kernel
theorem dX4_charges_26 : decode cX4_charges 26 = .ok (.return_, 1) := by decide +kernel
theorem dX4_rents_0 : decode cX4_rents 0 = .ok (.aload_n 0, 1) := by decide +kernel
theorem dX4_rents_1 : decode cX4_rents 1 = .ok (.iload_n 2, 1) := by decide +kernel
theorem dX4_rents_2 : decode cX4_rents 2 = .ok (.invokevirtual 149, 3) := by decide +kernel
theorem dX4_rents_5 : decode cX4_rents 5 = .ok (.istore_n 3, 1) := by decide +kernel
theorem dX4_rents_6 : decode cX4_rents 6 = .ok (.aload_n 0, 1) := by decide +kernel
theorem dX4_rents_7 : decode cX4_rents 7 = .ok (.iload_n 1, 1) := by decide +kernel
theorem dX4_rents_8 : decode cX4_rents 8 = .ok (.iconst 0, 1) := by decide +kernel
theorem dX4_rents_9 : decode cX4_rents 9 = .ok (.aload_n 0, 1) := by decide +kernel
theorem dX4_rents_10 : decode cX4_rents 10 = .ok (.iload_n 3, 1) := by decide +kernel
theorem dX4_rents_11 : decode cX4_rents 11 = .ok (.bipush 7, 2) := by decide +kernel
theorem dX4_rents_13 : decode cX4_rents 13 = .ok (.invokevirtual 108, 3) := by decide +kernel
theorem dX4_rents_16 : decode cX4_rents 16 = .ok (.invokevirtual 152, 3) := by decide +kernel
theorem dX4_rents_19 : decode cX4_rents 19 = .ok (.aload_n 0, 1) := by decide +kernel
theorem dX4_rents_20 : decode cX4_rents 20 = .ok (.iload_n 3, 1) := by decide +kernel
theorem dX4_rents_21 : decode cX4_rents 21 = .ok (.iconst 3, 1) := by decide +kernel
theorem dX4_rents_22 : decode cX4_rents 22 = .ok (.iconst 1, 1) := by decide +kernel
theorem dX4_rents_23 : decode cX4_rents 23 = .ok (.invokevirtual 115, 3) := by decide +kernel
theorem dX4_rents_26 : decode cX4_rents 26 = .ok (.aload_n 0, 1) := by decide +kernel
theorem dX4_rents_27 : decode cX4_rents 27 = .ok (.iload_n 3, 1) := by decide +kernel
theorem dX4_rents_28 : decode cX4_rents 28 = .ok (.iconst 4, 1) := by decide +kernel
theorem dX4_rents_29 : decode cX4_rents 29 = .ok (.iload_n 1, 1) := by decide +kernel
theorem dX4_rents_30 : decode cX4_rents 30 = .ok (.invokevirtual 115, 3) := by decide +kernel
theorem dX4_rents_33 : decode cX4_rents 33 = .ok (.aload_n 0, 1) := by decide +kernel
theorem dX4_rents_34 : decode cX4_rents 34 = .ok (.iload_n 3, 1) := by decide +kernel
theorem dX4_rents_35 : decode cX4_rents 35 = .ok (.iconst 5, 1) := by decide +kernel
theorem dX4_rents_36 : decode cX4_rents 36 = .ok (.aload_n 0, 1) := by decide +kernel
theorem dX4_rents_37 : decode cX4_rents 37 = .ok (.getfield 7, 3) := by decide +kernel
theorem dX4_rents_40 : decode cX4_rents 40 = .ok (.iconst 3, 1) := by decide +kernel
theorem dX4_rents_41 : decode cX4_rents 41 = .ok (.iaload, 1) := by decide +kernel
theorem dX4_rents_42 : decode cX4_rents 42 = .ok (.aload_n 0, 1) := by decide +kernel
theorem dX4_rents_43 : decode cX4_rents 43 = .ok (.getfield 7, 3) := by decide +kernel
theorem dX4_rents_46 : decode cX4_rents 46 = .ok (.iconst 4, 1) := by decide +kernel
theorem dX4_rents_47 : decode cX4_rents 47 = .ok (.iaload, 1) := by decide +kernel
theorem dX4_rents_48 : decode cX4_rents 48 = .ok (.iadd, 1) := by decide +kernel
theorem dX4_rents_49 : decode cX4_rents 49 = .ok (.invokevirtual 115, 3) := by decide +kernel
theorem dX4_rents_52 : decode cX4_rents 52 = .ok (.iload_n 3, 1) := by decide +kernel
theorem dX4_rents_53 : decode cX4_rents 53 = .ok (.ireturn, 1) := by decide +kernel
theorem dX4_rent_0 : decode cX4_rent 0 = .ok (.aload_n 0, 1) := by decide +kernel
theorem dX4_rent_1 : decode cX4_rent 1 = .ok (.iload_n 1, 1) := by decide +kernel
theorem dX4_rent_2 : decode cX4_rent 2 = .ok (.iload_n 2, 1) := by decide +kernel
theorem dX4_rent_3 : decode cX4_rent 3 = .ok (.invokevirtual 155, 3) := by decide +kernel
theorem dX4_rent_6 : decode cX4_rent 6 = .ok (.istore_n 3, 1) := by decide +kernel
theorem dX4_rent_7 : decode cX4_rent 7 = .ok (.iload_n 3, 1) := by decide +kernel
theorem dX4_rent_8 : decode cX4_rent 8 = .ok (.ifCond .eq 5, 3) := by decide +kernel
theorem dX4_rent_11 : decode cX4_rent 11 = .ok (.iload_n 3, 1) := by decide +kernel
theorem dX4_rent_12 : decode cX4_rent 12 = .ok (.ireturn, 1) := by decide +kernel
theorem dX4_rent_13 : decode cX4_rent 13 = .ok (.aload_n 0, 1) := by decide +kernel
theorem dX4_rent_14 : decode cX4_rent 14 = .ok (.invokevirtual 62, 3) := by decide +kernel
theorem dX4_rent_17 : decode cX4_rent 17 = .ok (.aload_n 0, 1) := by decide +kernel
theorem dX4_rent_18 : decode cX4_rent 18 = .ok (.iload_n 1, 1) := by decide +kernel
theorem dX4_rent_19 : decode cX4_rent 19 = .ok (.iload_n 2, 1) := by decide +kernel
theorem dX4_rent_20 : decode cX4_rent 20 = .ok (.invokevirtual 158, 3) := by decide +kernel
theorem dX4_rent_23 : decode cX4_rent 23 = .ok (.ireturn, 1) := by decide +kernel
theorem dX4_next_0 : decode cX4_next 0 = .ok (.aload_n 0, 1) := by decide +kernel
theorem dX4_next_1 : decode cX4_next 1 = .ok (.iload_n 1, 1) := by decide +kernel
theorem dX4_next_2 : decode cX4_next 2 = .ok (.invokevirtual 72, 3) := by decide +kernel
theorem dX4_next_5 : decode cX4_next 5 = .ok (.ifCond .eq 11, 3) := by decide +kernel
theorem dX4_next_8 : decode cX4_next 8 = .ok (.aload_n 0, 1) := by decide +kernel
theorem dX4_next_9 : decode cX4_next 9 = .ok (.iload_n 1, 1) := by decide +kernel
theorem dX4_next_10 : decode cX4_next 10 = .ok (.invokevirtual 149, 3) := by decide +kernel
theorem dX4_next_13 : decode cX4_next 13 = .ok (.goto 5, 3) := by decide +kernel
theorem dX4_next_16 : decode cX4_next 16 = .ok (.bipush (-2), 2) := by decide +kernel
theorem dX4_next_18 : decode cX4_next 18 = .ok (.ireturn, 1) := by decide +kernel
theorem dX4_lateCharge_0 : decode cX4_lateCharge 0 = .ok (.aload_n 0, 1) := by decide +kernel
theorem dX4_lateCharge_1 : decode cX4_lateCharge 1 = .ok (.iload_n 1, 1) := by decide +kernel
theorem dX4_lateCharge_2 : decode cX4_lateCharge 2 = .ok (.invokevirtual 102, 3) := by decide +kernel
theorem dX4_lateCharge_5 : decode cX4_lateCharge 5 = .ok (.aload_n 0, 1) := by decide +kernel
theorem dX4_lateCharge_6 : decode cX4_lateCharge 6 = .ok (.getfield 7, 3) := by decide +kernel
theorem dX4_lateCharge_9 : decode cX4_lateCharge 9 = .ok (.iconst 5, 1) := by decide +kernel
theorem dX4_lateCharge_10 : decode cX4_lateCharge 10 = .ok (.iaload, 1) := by decide +kernel
theorem dX4_lateCharge_11 : decode cX4_lateCharge 11 = .ok (.imul, 1) := by decide +kernel
theorem dX4_lateCharge_12 : decode cX4_lateCharge 12 = .ok (.aload_n 0, 1) := by decide +kernel
theorem dX4_lateCharge_13 : decode cX4_lateCharge 13 = .ok (.iload_n 1, 1) := by decide +kernel
theorem dX4_lateCharge_14 : decode cX4_lateCharge 14 = .ok (.invokevirtual 99, 3) := by decide +kernel
theorem dX4_lateCharge_17 : decode cX4_lateCharge 17 = .ok (.invokestatic 45, 3) := by decide +kernel
theorem dX4_lateCharge_20 : decode cX4_lateCharge 20 = .ok (.ireturn, 1) := by decide +kernel
theorem dX4_damageCharge_0 : decode cX4_damageCharge 0 = .ok (.aload_n 0, 1) := by decide +kernel
theorem dX4_damageCharge_1 : decode cX4_damageCharge 1 = .ok (.iload_n 1, 1) := by decide +kernel
theorem dX4_damageCharge_2 : decode cX4_damageCharge 2 = .ok (.iconst 2, 1) := by decide +kernel
theorem dX4_damageCharge_3 : decode cX4_damageCharge 3 = .ok (.invokevirtual 34, 3) := by decide +kernel
theorem dX4_damageCharge_6 : decode cX4_damageCharge 6 = .ok (.istore_n 3, 1) := by decide +kernel
theorem dX4_damageCharge_7 : decode cX4_damageCharge 7 = .ok (.iload_n 3, 1) := by decide +kernel
theorem dX4_damageCharge_8 : decode cX4_damageCharge 8 = .ok (.iload_n 2, 1) := by decide +kernel
theorem dX4_damageCharge_9 : decode cX4_damageCharge 9 = .ok (.iadd, 1) := by decide +kernel
theorem dX4_damageCharge_10 : decode cX4_damageCharge 10 = .ok (.iconst 4, 1) := by decide +kernel
theorem dX4_damageCharge_11 : decode cX4_damageCharge 11 = .ok (.if_icmp .le 9, 3) := by decide +kernel
theorem dX4_damageCharge_14 : decode cX4_damageCharge 14 = .ok (.aload_n 0, 1) := by decide +kernel
theorem dX4_damageCharge_15 : decode cX4_damageCharge 15 = .ok (.iload_n 1, 1) := by decide +kernel
theorem dX4_damageCharge_16 : decode cX4_damageCharge 16 = .ok (.invokevirtual 99, 3) := by decide +kernel
theorem dX4_damageCharge_19 : decode cX4_damageCharge 19 = .ok (.ireturn, 1) := by decide +kernel
theorem dX4_damageCharge_20 : decode cX4_damageCharge 20 = .ok (.iload_n 2, 1) := by decide +kernel
theorem dX4_damageCharge_21 : decode cX4_damageCharge 21 = .ok (.iconst 2, 1) := by decide +kernel
theorem dX4_damageCharge_22 : decode cX4_damageCharge 22 = .ok (.if_icmp .ge 7, 3) := by decide +kernel
theorem dX4_damageCharge_25 : decode cX4_damageCharge 25 = .ok (.iconst 0, 1) := by decide +kernel
theorem dX4_damageCharge_26 : decode cX4_damageCharge 26 = .ok (.goto 42, 3) := by decide +kernel
theorem dX4_damageCharge_29 : decode cX4_damageCharge 29 = .ok (.aload_n 0, 1) := by decide +kernel
theorem dX4_damageCharge_30 : decode cX4_damageCharge 30 = .ok (.aload_n 0, 1) := by decide +kernel
theorem dX4_damageCharge_31 : decode cX4_damageCharge 31 = .ok (.iload_n 1, 1) := by decide +kernel
theorem dX4_damageCharge_32 : decode cX4_damageCharge 32 = .ok (.iconst 0, 1) := by decide +kernel
theorem dX4_damageCharge_33 : decode cX4_damageCharge 33 = .ok (.invokevirtual 34, 3) := by decide +kernel
theorem dX4_damageCharge_36 : decode cX4_damageCharge 36 = .ok (.aload_n 0, 1) := by decide +kernel
theorem dX4_damageCharge_37 : decode cX4_damageCharge 37 = .ok (.iload_n 1, 1) := by decide +kernel
theorem dX4_damageCharge_38 : decode cX4_damageCharge 38 = .ok (.iconst 1, 1) := by decide +kernel
theorem dX4_damageCharge_39 : decode cX4_damageCharge 39 = .ok (.invokevirtual 34, 3) := by decide +kernel
theorem dX4_damageCharge_42 : decode cX4_damageCharge 42 = .ok (.iload_n 3, 1) := by decide +kernel
theorem dX4_damageCharge_43 : decode cX4_damageCharge 43 = .ok (.iconst 1, 1) := by decide +kernel
theorem dX4_damageCharge_44 : decode cX4_damageCharge 44 = .ok (.iadd, 1) := by decide +kernel
theorem dX4_damageCharge_45 : decode cX4_damageCharge 45 = .ok (.invokevirtual 48, 3) := by decide +kernel
theorem dX4_damageCharge_48 : decode cX4_damageCharge 48 = .ok (.aload_n 0, 1) := by decide +kernel
theorem dX4_damageCharge_49 : decode cX4_damageCharge 49 = .ok (.aload_n 0, 1) := by decide +kernel
theorem dX4_damageCharge_50 : decode cX4_damageCharge 50 = .ok (.iload_n 1, 1) := by decide +kernel
theorem dX4_damageCharge_51 : decode cX4_damageCharge 51 = .ok (.iconst 0, 1) := by decide +kernel
theorem dX4_damageCharge_52 : decode cX4_damageCharge 52 = .ok (.invokevirtual 34, 3) := by decide +kernel
theorem dX4_damageCharge_55 : decode cX4_damageCharge 55 = .ok (.aload_n 0, 1) := by decide +kernel
theorem dX4_damageCharge_56 : decode cX4_damageCharge 56 = .ok (.iload_n 1, 1) := by decide +kernel
theorem dX4_damageCharge_57 : decode cX4_damageCharge 57 = .ok (.iconst 1, 1) := by decide +kernel
theorem dX4_damageCharge_58 : decode cX4_damageCharge 58 = .ok (.invokevirtual 34, 3) := by decide +kernel
theorem dX4_damageCharge_61 : decode cX4_damageCharge 61 = .ok (.iload_n 3, 1) := by decide +kernel
theorem dX4_damageCharge_62 : decode cX4_damageCharge 62 = .ok (.iload_n 2, 1) := by decide +kernel
theorem dX4_damageCharge_63 : decode cX4_damageCharge 63 = .ok (.iadd, 1) := by decide +kernel
theorem dX4_damageCharge_64 : decode cX4_damageCharge 64 = .ok (.invokevirtual 48, 3) := by decide +kernel
theorem dX4_damageCharge_67 : decode cX4_damageCharge 67 = .ok (.isub, 1) := by decide +kernel
theorem dX4_damageCharge_68 : decode cX4_damageCharge 68 = .ok (.ireturn, 1) := by decide +kernel
theorem dX4_cannotGive_0 : decode cX4_cannotGive 0 = .ok (.aload_n 0, 1) := by decide +kernel
theorem dX4_cannotGive_1 : decode cX4_cannotGive 1 = .ok (.iload_n 1, 1) := by decide +kernel
theorem dX4_cannotGive_2 : decode cX4_cannotGive 2 = .ok (.invokevirtual 105, 3) := by decide +kernel
theorem dX4_cannotGive_5 : decode cX4_cannotGive 5 = .ok (.ifCond .ne 6, 3) := by decide +kernel
theorem dX4_cannotGive_8 : decode cX4_cannotGive 8 = .ok (.bipush (-2), 2) := by decide +kernel
theorem dX4_cannotGive_10 : decode cX4_cannotGive 10 = .ok (.ireturn, 1) := by decide +kernel
theorem dX4_cannotGive_11 : decode cX4_cannotGive 11 = .ok (.iload_n 2, 1) := by decide +kernel
theorem dX4_cannotGive_12 : decode cX4_cannotGive 12 = .ok (.iconst 0, 1) := by decide +kernel
theorem dX4_cannotGive_13 : decode cX4_cannotGive 13 = .ok (.iconst 4, 1) := by decide +kernel
theorem dX4_cannotGive_14 : decode cX4_cannotGive 14 = .ok (.invokestatic 30, 3) := by decide +kernel
theorem dX4_cannotGive_17 : decode cX4_cannotGive 17 = .ok (.ifCond .ne 8, 3) := by decide +kernel
theorem dX4_cannotGive_20 : decode cX4_cannotGive 20 = .ok (.bipush (-3), 2) := by decide +kernel
theorem dX4_cannotGive_22 : decode cX4_cannotGive 22 = .ok (.goto 18, 3) := by decide +kernel
theorem dX4_cannotGive_25 : decode cX4_cannotGive 25 = .ok (.aload_n 0, 1) := by decide +kernel
theorem dX4_cannotGive_26 : decode cX4_cannotGive 26 = .ok (.iload_n 1, 1) := by decide +kernel
theorem dX4_cannotGive_27 : decode cX4_cannotGive 27 = .ok (.iconst 1, 1) := by decide +kernel
theorem dX4_cannotGive_28 : decode cX4_cannotGive 28 = .ok (.invokevirtual 55, 3) := by decide +kernel
theorem dX4_cannotGive_31 : decode cX4_cannotGive 31 = .ok (.ifCond .eq 7, 3) := by decide +kernel
theorem dX4_cannotGive_34 : decode cX4_cannotGive 34 = .ok (.iconst 0, 1) := by decide +kernel
theorem dX4_cannotGive_35 : decode cX4_cannotGive 35 = .ok (.goto 5, 3) := by decide +kernel
theorem dX4_cannotGive_38 : decode cX4_cannotGive 38 = .ok (.bipush (-4), 2) := by decide +kernel
theorem dX4_cannotGive_40 : decode cX4_cannotGive 40 = .ok (.ireturn, 1) := by decide +kernel
theorem dX4_gives_0 : decode cX4_gives 0 = .ok (.aload_n 0, 1) := by decide +kernel
theorem dX4_gives_1 : decode cX4_gives 1 = .ok (.iload_n 1, 1) := by decide +kernel
theorem dX4_gives_2 : decode cX4_gives 2 = .ok (.invokevirtual 161, 3) := by decide +kernel
theorem dX4_gives_5 : decode cX4_gives 5 = .ok (.istore_n 3, 1) := by decide +kernel
theorem dX4_gives_6 : decode cX4_gives 6 = .ok (.aload_n 0, 1) := by decide +kernel
theorem dX4_gives_7 : decode cX4_gives 7 = .ok (.iload_n 1, 1) := by decide +kernel
theorem dX4_gives_8 : decode cX4_gives 8 = .ok (.iload_n 2, 1) := by decide +kernel
theorem dX4_gives_9 : decode cX4_gives 9 = .ok (.invokevirtual 164, 3) := by decide +kernel
theorem dX4_gives_12 : decode cX4_gives 12 = .ok (.istore 4, 2) := by decide +kernel
theorem dX4_gives_14 : decode cX4_gives 14 = .ok (.aload_n 0, 1) := by decide +kernel
theorem dX4_gives_15 : decode cX4_gives 15 = .ok (.iload_n 1, 1) := by decide +kernel
theorem dX4_gives_16 : decode cX4_gives 16 = .ok (.iconst 2, 1) := by decide +kernel
theorem dX4_gives_17 : decode cX4_gives 17 = .ok (.invokevirtual 34, 3) := by decide +kernel
theorem dX4_gives_20 : decode cX4_gives 20 = .ok (.iload_n 2, 1) := by decide +kernel
theorem dX4_gives_21 : decode cX4_gives 21 = .ok (.iadd, 1) := by decide +kernel
theorem dX4_gives_22 : decode cX4_gives 22 = .ok (.iconst 4, 1) := by decide +kernel
theorem dX4_gives_23 : decode cX4_gives 23 = .ok (.if_icmp .le 7, 3) := by decide +kernel
theorem dX4_gives_26 : decode cX4_gives 26 = .ok (.iconst 1, 1) := by decide +kernel
theorem dX4_gives_27 : decode cX4_gives 27 = .ok (.goto 4, 3) := by decide +kernel
theorem dX4_gives_30 : decode cX4_gives 30 = .ok (.iconst 0, 1) := by decide +kernel
theorem dX4_gives_31 : decode cX4_gives 31 = .ok (.istore 5, 2) := by decide +kernel
theorem dX4_gives_33 : decode cX4_gives 33 = .ok (.aload_n 0, 1) := by decide +kernel
theorem dX4_gives_34 : decode cX4_gives 34 = .ok (.aload_n 0, 1) := by decide +kernel
theorem dX4_gives_35 : decode cX4_gives 35 = .ok (.iload_n 1, 1) := by decide +kernel
theorem dX4_gives_36 : decode cX4_gives 36 = .ok (.iconst 4, 1) := by decide +kernel
theorem dX4_gives_37 : decode cX4_gives 37 = .ok (.invokevirtual 34, 3) := by decide +kernel
theorem dX4_gives_40 : decode cX4_gives 40 = .ok (.iconst 1, 1) := by decide +kernel
theorem dX4_gives_41 : decode cX4_gives 41 = .ok (.iload_n 3, 1) := by decide +kernel
theorem dX4_gives_42 : decode cX4_gives 42 = .ok (.invokevirtual 152, 3) := by decide +kernel
theorem dX4_gives_45 : decode cX4_gives 45 = .ok (.aload_n 0, 1) := by decide +kernel
theorem dX4_gives_46 : decode cX4_gives 46 = .ok (.aload_n 0, 1) := by decide +kernel
theorem dX4_gives_47 : decode cX4_gives 47 = .ok (.iload_n 1, 1) := by decide +kernel
theorem dX4_gives_48 : decode cX4_gives 48 = .ok (.iconst 4, 1) := by decide +kernel
theorem dX4_gives_49 : decode cX4_gives 49 = .ok (.invokevirtual 34, 3) := by decide +kernel
theorem dX4_gives_52 : decode cX4_gives 52 = .ok (.iload 5, 2) := by decide +kernel
theorem dX4_gives_54 : decode cX4_gives 54 = .ok (.ifCond .eq 7, 3) := by decide +kernel
theorem dX4_gives_57 : decode cX4_gives 57 = .ok (.iconst 3, 1) := by decide +kernel
theorem dX4_gives_58 : decode cX4_gives 58 = .ok (.goto 4, 3) := by decide +kernel
theorem dX4_gives_61 : decode cX4_gives 61 = .ok (.iconst 2, 1) := by decide +kernel
theorem dX4_gives_62 : decode cX4_gives 62 = .ok (.iload 4, 2) := by decide +kernel
theorem dX4_gives_64 : decode cX4_gives 64 = .ok (.invokevirtual 152, 3) := by decide +kernel
theorem dX4_gives_67 : decode cX4_gives 67 = .ok (.aload_n 0, 1) := by decide +kernel
theorem dX4_gives_68 : decode cX4_gives 68 = .ok (.iload_n 1, 1) := by decide +kernel
theorem dX4_gives_69 : decode cX4_gives 69 = .ok (.iconst 2, 1) := by decide +kernel
theorem dX4_gives_70 : decode cX4_gives 70 = .ok (.iload 5, 2) := by decide +kernel
theorem dX4_gives_72 : decode cX4_gives 72 = .ok (.ifCond .eq 12, 3) := by decide +kernel
theorem dX4_gives_75 : decode cX4_gives 75 = .ok (.aload_n 0, 1) := by decide +kernel
theorem dX4_gives_76 : decode cX4_gives 76 = .ok (.iload_n 1, 1) := by decide +kernel
theorem dX4_gives_77 : decode cX4_gives 77 = .ok (.iconst 2, 1) := by decide +kernel
theorem dX4_gives_78 : decode cX4_gives 78 = .ok (.invokevirtual 34, 3) := by decide +kernel
theorem dX4_gives_81 : decode cX4_gives 81 = .ok (.goto 11, 3) := by decide +kernel
theorem dX4_gives_84 : decode cX4_gives 84 = .ok (.aload_n 0, 1) := by decide +kernel
theorem dX4_gives_85 : decode cX4_gives 85 = .ok (.iload_n 1, 1) := by decide +kernel
theorem dX4_gives_86 : decode cX4_gives 86 = .ok (.iconst 2, 1) := by decide +kernel
theorem dX4_gives_87 : decode cX4_gives 87 = .ok (.invokevirtual 34, 3) := by decide +kernel
theorem dX4_gives_90 : decode cX4_gives 90 = .ok (.iload_n 2, 1) := by decide +kernel
theorem dX4_gives_91 : decode cX4_gives 91 = .ok (.iadd, 1) := by decide +kernel
theorem dX4_gives_92 : decode cX4_gives 92 = .ok (.invokevirtual 115, 3) := by decide +kernel
theorem dX4_gives_95 : decode cX4_gives 95 = .ok (.aload_n 0, 1) := by decide +kernel
theorem dX4_gives_96 : decode cX4_gives 96 = .ok (.iload_n 1, 1) := by decide +kernel
theorem dX4_gives_97 : decode cX4_gives 97 = .ok (.iload 5, 2) := by decide +kernel
theorem dX4_gives_99 : decode cX4_gives 99 = .ok (.ifCond .eq 7, 3) := by decide +kernel
theorem dX4_gives_102 : decode cX4_gives 102 = .ok (.iconst 3, 1) := by decide +kernel
theorem dX4_gives_103 : decode cX4_gives 103 = .ok (.goto 4, 3) := by decide +kernel
theorem dX4_gives_106 : decode cX4_gives 106 = .ok (.iconst 0, 1) := by decide +kernel
theorem dX4_gives_107 : decode cX4_gives 107 = .ok (.invokevirtual 134, 3) := by decide +kernel
theorem dX4_gives_110 : decode cX4_gives 110 = .ok (.iload_n 3, 1) := by decide +kernel
theorem dX4_gives_111 : decode cX4_gives 111 = .ok (.iload 4, 2) := by decide +kernel
theorem dX4_gives_113 : decode cX4_gives 113 = .ok (.iadd, 1) := by decide +kernel
theorem dX4_gives_114 : decode cX4_gives 114 = .ok (.ireturn, 1) := by decide +kernel
theorem dX4_giveBack_0 : decode cX4_giveBack 0 = .ok (.aload_n 0, 1) := by decide +kernel
theorem dX4_giveBack_1 : decode cX4_giveBack 1 = .ok (.iload_n 1, 1) := by decide +kernel
theorem dX4_giveBack_2 : decode cX4_giveBack 2 = .ok (.iload_n 2, 1) := by decide +kernel
theorem dX4_giveBack_3 : decode cX4_giveBack 3 = .ok (.invokevirtual 167, 3) := by decide +kernel
theorem dX4_giveBack_6 : decode cX4_giveBack 6 = .ok (.istore_n 3, 1) := by decide +kernel
theorem dX4_giveBack_7 : decode cX4_giveBack 7 = .ok (.iload_n 3, 1) := by decide +kernel
theorem dX4_giveBack_8 : decode cX4_giveBack 8 = .ok (.ifCond .eq 5, 3) := by decide +kernel
theorem dX4_giveBack_11 : decode cX4_giveBack 11 = .ok (.iload_n 3, 1) := by decide +kernel
theorem dX4_giveBack_12 : decode cX4_giveBack 12 = .ok (.ireturn, 1) := by decide +kernel
theorem dX4_giveBack_13 : decode cX4_giveBack 13 = .ok (.aload_n 0, 1) := by decide +kernel
theorem dX4_giveBack_14 : decode cX4_giveBack 14 = .ok (.invokevirtual 62, 3) := by decide +kernel
theorem dX4_giveBack_17 : decode cX4_giveBack 17 = .ok (.aload_n 0, 1) := by decide +kernel
theorem dX4_giveBack_18 : decode cX4_giveBack 18 = .ok (.iload_n 1, 1) := by decide +kernel
theorem dX4_giveBack_19 : decode cX4_giveBack 19 = .ok (.iload_n 2, 1) := by decide +kernel
theorem dX4_giveBack_20 : decode cX4_giveBack 20 = .ok (.invokevirtual 170, 3) := by decide +kernel
theorem dX4_giveBack_23 : decode cX4_giveBack 23 = .ok (.ireturn, 1) := by decide +kernel
theorem dX4_charge_0 : decode cX4_charge 0 = .ok (.aload_n 0, 1) := by decide +kernel
theorem dX4_charge_1 : decode cX4_charge 1 = .ok (.iload_n 1, 1) := by decide +kernel
theorem dX4_charge_2 : decode cX4_charge 2 = .ok (.invokevirtual 105, 3) := by decide +kernel
theorem dX4_charge_5 : decode cX4_charge 5 = .ok (.ifCond .ne 6, 3) := by decide +kernel
theorem dX4_charge_8 : decode cX4_charge 8 = .ok (.bipush (-2), 2) := by decide +kernel
theorem dX4_charge_10 : decode cX4_charge 10 = .ok (.ireturn, 1) := by decide +kernel
theorem dX4_charge_11 : decode cX4_charge 11 = .ok (.iload_n 2, 1) := by decide +kernel
theorem dX4_charge_12 : decode cX4_charge 12 = .ok (.iconst 0, 1) := by decide +kernel
theorem dX4_charge_13 : decode cX4_charge 13 = .ok (.iconst 4, 1) := by decide +kernel
theorem dX4_charge_14 : decode cX4_charge 14 = .ok (.invokestatic 30, 3) := by decide +kernel
theorem dX4_charge_17 : decode cX4_charge 17 = .ok (.ifCond .eq 12, 3) := by decide +kernel
theorem dX4_charge_20 : decode cX4_charge 20 = .ok (.iload_n 3, 1) := by decide +kernel
theorem dX4_charge_21 : decode cX4_charge 21 = .ok (.iconst 0, 1) := by decide +kernel
theorem dX4_charge_22 : decode cX4_charge 22 = .ok (.iconst 2, 1) := by decide +kernel
theorem dX4_charge_23 : decode cX4_charge 23 = .ok (.invokestatic 30, 3) := by decide +kernel
theorem dX4_charge_26 : decode cX4_charge 26 = .ok (.ifCond .ne 6, 3) := by decide +kernel
theorem dX4_charge_29 : decode cX4_charge 29 = .ok (.bipush (-3), 2) := by decide +kernel
theorem dX4_charge_31 : decode cX4_charge 31 = .ok (.ireturn, 1) := by decide +kernel
theorem dX4_charge_32 : decode cX4_charge 32 = .ok (.aload_n 0, 1) := by decide +kernel
theorem dX4_charge_33 : decode cX4_charge 33 = .ok (.iload_n 1, 1) := by decide +kernel
theorem dX4_charge_34 : decode cX4_charge 34 = .ok (.iconst 1, 1) := by decide +kernel
theorem dX4_charge_35 : decode cX4_charge 35 = .ok (.invokevirtual 55, 3) := by decide +kernel
theorem dX4_charge_38 : decode cX4_charge 38 = .ok (.ifCond .ne 6, 3) := by decide +kernel
theorem dX4_charge_41 : decode cX4_charge 41 = .ok (.bipush (-4), 2) := by decide +kernel
theorem dX4_charge_43 : decode cX4_charge 43 = .ok (.ireturn, 1) := by decide +kernel
theorem dX4_charge_44 : decode cX4_charge 44 = .ok (.iload_n 3, 1) := by decide +kernel
theorem dX4_charge_45 : decode cX4_charge 45 = .ok (.iconst 1, 1) := by decide +kernel
theorem dX4_charge_46 : decode cX4_charge 46 = .ok (.if_icmp .eq 11, 3) := by decide +kernel
theorem dX4_charge_49 : decode cX4_charge 49 = .ok (.aload_n 0, 1) := by decide +kernel
theorem dX4_charge_50 : decode cX4_charge 50 = .ok (.iload_n 1, 1) := by decide +kernel
theorem dX4_charge_51 : decode cX4_charge 51 = .ok (.invokevirtual 161, 3) := by decide +kernel
theorem dX4_charge_54 : decode cX4_charge 54 = .ok (.goto 4, 3) := by decide +kernel
theorem dX4_charge_57 : decode cX4_charge 57 = .ok (.iconst 0, 1) := by decide +kernel
theorem dX4_charge_58 : decode cX4_charge 58 = .ok (.iload_n 3, 1) := by decide +kernel
theorem dX4_charge_59 : decode cX4_charge 59 = .ok (.ifCond .eq 12, 3) := by decide +kernel
theorem dX4_charge_62 : decode cX4_charge 62 = .ok (.aload_n 0, 1) := by decide +kernel
theorem dX4_charge_63 : decode cX4_charge 63 = .ok (.iload_n 1, 1) := by decide +kernel
theorem dX4_charge_64 : decode cX4_charge 64 = .ok (.iload_n 2, 1) := by decide +kernel
theorem dX4_charge_65 : decode cX4_charge 65 = .ok (.invokevirtual 164, 3) := by decide +kernel
theorem dX4_charge_68 : decode cX4_charge 68 = .ok (.goto 4, 3) := by decide +kernel
theorem dX4_charge_71 : decode cX4_charge 71 = .ok (.iconst 0, 1) := by decide +kernel
theorem dX4_charge_72 : decode cX4_charge 72 = .ok (.iadd, 1) := by decide +kernel
theorem dX4_charge_73 : decode cX4_charge 73 = .ok (.ireturn, 1) := by decide +kernel
theorem dX4_cannotPass_0 : decode cX4_cannotPass 0 = .ok (.iload_n 1, 1) := by decide +kernel
theorem dX4_cannotPass_1 : decode cX4_cannotPass 1 = .ok (.iconst 1, 1) := by decide +kernel
theorem dX4_cannotPass_2 : decode cX4_cannotPass 2 = .ok (.sipush 400, 3) := by decide +kernel
theorem dX4_cannotPass_5 : decode cX4_cannotPass 5 = .ok (.invokestatic 30, 3) := by decide +kernel
theorem dX4_cannotPass_8 : decode cX4_cannotPass 8 = .ok (.ifCond .ne 8, 3) := by decide +kernel
theorem dX4_cannotPass_11 : decode cX4_cannotPass 11 = .ok (.bipush (-3), 2) := by decide +kernel
theorem dX4_cannotPass_13 : decode cX4_cannotPass 13 = .ok (.goto 22, 3) := by decide +kernel
theorem dX4_cannotPass_16 : decode cX4_cannotPass 16 = .ok (.aload_n 0, 1) := by decide +kernel
theorem dX4_cannotPass_17 : decode cX4_cannotPass 17 = .ok (.getfield 7, 3) := by decide +kernel
theorem dX4_cannotPass_20 : decode cX4_cannotPass 20 = .ok (.iconst 3, 1) := by decide +kernel
theorem dX4_cannotPass_21 : decode cX4_cannotPass 21 = .ok (.iaload, 1) := by decide +kernel
theorem dX4_cannotPass_22 : decode cX4_cannotPass 22 = .ok (.iload_n 1, 1) := by decide +kernel
theorem dX4_cannotPass_23 : decode cX4_cannotPass 23 = .ok (.iadd, 1) := by decide +kernel
theorem dX4_cannotPass_24 : decode cX4_cannotPass 24 = .ok (.ldc 173, 2) := by decide +kernel
theorem dX4_cannotPass_26 : decode cX4_cannotPass 26 = .ok (.if_icmp .le 8, 3) := by decide +kernel
theorem dX4_cannotPass_29 : decode cX4_cannotPass 29 = .ok (.bipush (-5), 2) := by decide +kernel
theorem dX4_cannotPass_31 : decode cX4_cannotPass 31 = .ok (.goto 4, 3) := by decide +kernel
theorem dX4_cannotPass_34 : decode cX4_cannotPass 34 = .ok (.iconst 0, 1) := by decide +kernel
theorem dX4_cannotPass_35 : decode cX4_cannotPass 35 = .ok (.ireturn, 1) := by decide +kernel
theorem dX4_passes_0 : decode cX4_passes 0 = .ok (.aload_n 0, 1) := by decide +kernel
theorem dX4_passes_1 : decode cX4_passes 1 = .ok (.getfield 7, 3) := by decide +kernel
theorem dX4_passes_4 : decode cX4_passes 4 = .ok (.iconst 3, 1) := by decide +kernel
theorem dX4_passes_5 : decode cX4_passes 5 = .ok (.dup2, 1) := by decide +kernel
theorem dX4_passes_6 : decode cX4_passes 6 = .ok (.iaload, 1) := by decide +kernel
theorem dX4_passes_7 : decode cX4_passes 7 = .ok (.iload_n 1, 1) := by decide +kernel
theorem dX4_passes_8 : decode cX4_passes 8 = .ok (.iadd, 1) := by decide +kernel
theorem dX4_passes_9 : decode cX4_passes 9 = .ok (.iastore, 1) := by decide +kernel
theorem dX4_passes_10 : decode cX4_passes 10 = .ok (.iconst 0, 1) := by decide +kernel
theorem dX4_passes_11 : decode cX4_passes 11 = .ok (.istore_n 2, 1) := by decide +kernel
theorem dX4_passes_12 : decode cX4_passes 12 = .ok (.iconst 0, 1) := by decide +kernel
theorem dX4_passes_13 : decode cX4_passes 13 = .ok (.istore_n 3, 1) := by decide +kernel
theorem dX4_passes_14 : decode cX4_passes 14 = .ok (.iload_n 3, 1) := by decide +kernel
theorem dX4_passes_15 : decode cX4_passes 15 = .ok (.aload_n 0, 1) := by decide +kernel
theorem dX4_passes_16 : decode cX4_passes 16 = .ok (.getfield 7, 3) := by decide +kernel
theorem dX4_passes_19 : decode cX4_passes 19 = .ok (.iconst 1, 1) := by decide +kernel
theorem dX4_passes_20 : decode cX4_passes 20 = .ok (.iaload, 1) := by decide +kernel
theorem dX4_passes_21 : decode cX4_passes 21 = .ok (.if_icmp .ge 49, 3) := by decide +kernel
theorem dX4_passes_24 : decode cX4_passes 24 = .ok (.aload_n 0, 1) := by decide +kernel
theorem dX4_passes_25 : decode cX4_passes 25 = .ok (.iload_n 3, 1) := by decide +kernel
theorem dX4_passes_26 : decode cX4_passes 26 = .ok (.invokevirtual 102, 3) := by decide +kernel
theorem dX4_passes_29 : decode cX4_passes 29 = .ok (.aload_n 0, 1) := by decide +kernel
theorem dX4_passes_30 : decode cX4_passes 30 = .ok (.getfield 7, 3) := by decide +kernel
theorem dX4_passes_33 : decode cX4_passes 33 = .ok (.bipush 6, 2) := by decide +kernel
theorem dX4_passes_35 : decode cX4_passes 35 = .ok (.iaload, 1) := by decide +kernel
theorem dX4_passes_36 : decode cX4_passes 36 = .ok (.if_icmp .le 28, 3) := by decide +kernel
theorem dX4_passes_39 : decode cX4_passes 39 = .ok (.aload_n 0, 1) := by decide +kernel
theorem dX4_passes_40 : decode cX4_passes 40 = .ok (.aload_n 0, 1) := by decide +kernel
theorem dX4_passes_41 : decode cX4_passes 41 = .ok (.iload_n 3, 1) := by decide +kernel
theorem dX4_passes_42 : decode cX4_passes 42 = .ok (.iconst 4, 1) := by decide +kernel
theorem dX4_passes_43 : decode cX4_passes 43 = .ok (.invokevirtual 34, 3) := by decide +kernel
theorem dX4_passes_46 : decode cX4_passes 46 = .ok (.iconst 3, 1) := by decide +kernel
theorem dX4_passes_47 : decode cX4_passes 47 = .ok (.aload_n 0, 1) := by decide +kernel
theorem dX4_passes_48 : decode cX4_passes 48 = .ok (.iload_n 3, 1) := by decide +kernel
theorem dX4_passes_49 : decode cX4_passes 49 = .ok (.invokevirtual 99, 3) := by decide +kernel
theorem dX4_passes_52 : decode cX4_passes 52 = .ok (.invokevirtual 152, 3) := by decide +kernel
theorem dX4_passes_55 : decode cX4_passes 55 = .ok (.aload_n 0, 1) := by decide +kernel
theorem dX4_passes_56 : decode cX4_passes 56 = .ok (.iload_n 3, 1) := by decide +kernel
theorem dX4_passes_57 : decode cX4_passes 57 = .ok (.iconst 3, 1) := by decide +kernel
theorem dX4_passes_58 : decode cX4_passes 58 = .ok (.invokevirtual 134, 3) := by decide +kernel
theorem dX4_passes_61 : decode cX4_passes 61 = .ok (.iinc 2 1, 3) := by decide +kernel
theorem dX4_passes_64 : decode cX4_passes 64 = .ok (.iinc 3 1, 3) := by decide +kernel
theorem dX4_passes_67 : decode cX4_passes 67 = .ok (.goto (-53), 3) := by decide +kernel
theorem dX4_passes_70 : decode cX4_passes 70 = .ok (.iload_n 2, 1) := by decide +kernel
theorem dX4_passes_71 : decode cX4_passes 71 = .ok (.ireturn, 1) := by decide +kernel
theorem dX4_pass_0 : decode cX4_pass 0 = .ok (.aload_n 0, 1) := by decide +kernel
theorem dX4_pass_1 : decode cX4_pass 1 = .ok (.iload_n 1, 1) := by decide +kernel
theorem dX4_pass_2 : decode cX4_pass 2 = .ok (.invokevirtual 174, 3) := by decide +kernel
theorem dX4_pass_5 : decode cX4_pass 5 = .ok (.istore_n 2, 1) := by decide +kernel
theorem dX4_pass_6 : decode cX4_pass 6 = .ok (.iload_n 2, 1) := by decide +kernel
theorem dX4_pass_7 : decode cX4_pass 7 = .ok (.ifCond .eq 5, 3) := by decide +kernel
theorem dX4_pass_10 : decode cX4_pass 10 = .ok (.iload_n 2, 1) := by decide +kernel
theorem dX4_pass_11 : decode cX4_pass 11 = .ok (.ireturn, 1) := by decide +kernel
theorem dX4_pass_12 : decode cX4_pass 12 = .ok (.aload_n 0, 1) := by decide +kernel
theorem dX4_pass_13 : decode cX4_pass 13 = .ok (.invokevirtual 62, 3) := by decide +kernel
theorem dX4_pass_16 : decode cX4_pass 16 = .ok (.aload_n 0, 1) := by decide +kernel
theorem dX4_pass_17 : decode cX4_pass 17 = .ok (.iload_n 1, 1) := by decide +kernel
theorem dX4_pass_18 : decode cX4_pass 18 = .ok (.invokevirtual 177, 3) := by decide +kernel
theorem dX4_pass_21 : decode cX4_pass 21 = .ok (.ireturn, 1) := by decide +kernel
theorem dX4_shelf_0 : decode cX4_shelf 0 = .ok (.aload_n 0, 1) := by decide +kernel
theorem dX4_shelf_1 : decode cX4_shelf 1 = .ok (.iload_n 1, 1) := by decide +kernel
theorem dX4_shelf_2 : decode cX4_shelf 2 = .ok (.invokevirtual 65, 3) := by decide +kernel
theorem dX4_shelf_5 : decode cX4_shelf 5 = .ok (.ifCond .ne 6, 3) := by decide +kernel
theorem dX4_shelf_8 : decode cX4_shelf 8 = .ok (.bipush (-2), 2) := by decide +kernel
theorem dX4_shelf_10 : decode cX4_shelf 10 = .ok (.ireturn, 1) := by decide +kernel
theorem dX4_shelf_11 : decode cX4_shelf 11 = .ok (.iload_n 2, 1) := by decide +kernel
theorem dX4_shelf_12 : decode cX4_shelf 12 = .ok (.iconst 0, 1) := by decide +kernel
theorem dX4_shelf_13 : decode cX4_shelf 13 = .ok (.bipush 60, 2) := by decide +kernel
theorem dX4_shelf_15 : decode cX4_shelf 15 = .ok (.invokestatic 30, 3) := by decide +kernel
theorem dX4_shelf_18 : decode cX4_shelf 18 = .ok (.ifCond .ne 6, 3) := by decide +kernel
theorem dX4_shelf_21 : decode cX4_shelf 21 = .ok (.bipush (-3), 2) := by decide +kernel
theorem dX4_shelf_23 : decode cX4_shelf 23 = .ok (.ireturn, 1) := by decide +kernel
theorem dX4_shelf_24 : decode cX4_shelf 24 = .ok (.aload_n 0, 1) := by decide +kernel
theorem dX4_shelf_25 : decode cX4_shelf 25 = .ok (.iload_n 1, 1) := by decide +kernel
theorem dX4_shelf_26 : decode cX4_shelf 26 = .ok (.iconst 0, 1) := by decide +kernel
theorem dX4_shelf_27 : decode cX4_shelf 27 = .ok (.invokevirtual 87, 3) := by decide +kernel
theorem dX4_shelf_30 : decode cX4_shelf 30 = .ok (.iload_n 2, 1) := by decide +kernel
theorem dX4_shelf_31 : decode cX4_shelf 31 = .ok (.isub, 1) := by decide +kernel
theorem dX4_shelf_32 : decode cX4_shelf 32 = .ok (.istore_n 3, 1) := by decide +kernel
theorem dX4_shelf_33 : decode cX4_shelf 33 = .ok (.iload_n 3, 1) := by decide +kernel
theorem dX4_shelf_34 : decode cX4_shelf 34 = .ok (.ineg, 1) := by decide +kernel
theorem dX4_shelf_35 : decode cX4_shelf 35 = .ok (.aload_n 0, 1) := by decide +kernel
theorem dX4_shelf_36 : decode cX4_shelf 36 = .ok (.iload_n 1, 1) := by decide +kernel
theorem dX4_shelf_37 : decode cX4_shelf 37 = .ok (.iconst 4, 1) := by decide +kernel
theorem dX4_shelf_38 : decode cX4_shelf 38 = .ok (.invokevirtual 87, 3) := by decide +kernel
theorem dX4_shelf_41 : decode cX4_shelf 41 = .ok (.if_icmp .le 6, 3) := by decide +kernel
theorem dX4_shelf_44 : decode cX4_shelf 44 = .ok (.bipush (-4), 2) := by decide +kernel
theorem dX4_shelf_46 : decode cX4_shelf 46 = .ok (.ireturn, 1) := by decide +kernel
theorem dX4_shelf_47 : decode cX4_shelf 47 = .ok (.aload_n 0, 1) := by decide +kernel
theorem dX4_shelf_48 : decode cX4_shelf 48 = .ok (.invokevirtual 62, 3) := by decide +kernel
theorem dX4_shelf_51 : decode cX4_shelf 51 = .ok (.aload_n 0, 1) := by decide +kernel
theorem dX4_shelf_52 : decode cX4_shelf 52 = .ok (.getfield 7, 3) := by decide +kernel
theorem dX4_shelf_55 : decode cX4_shelf 55 = .ok (.iconst 1, 1) := by decide +kernel
theorem dX4_shelf_56 : decode cX4_shelf 56 = .ok (.iaload, 1) := by decide +kernel
theorem dX4_shelf_57 : decode cX4_shelf 57 = .ok (.iconst 1, 1) := by decide +kernel
theorem dX4_shelf_58 : decode cX4_shelf 58 = .ok (.isub, 1) := by decide +kernel
theorem dX4_shelf_59 : decode cX4_shelf 59 = .ok (.istore 4, 2) := by decide +kernel
theorem dX4_shelf_61 : decode cX4_shelf 61 = .ok (.iload 4, 2) := by decide +kernel
theorem dX4_shelf_63 : decode cX4_shelf 63 = .ok (.ifCond .lt 45, 3) := by decide +kernel
theorem dX4_shelf_66 : decode cX4_shelf 66 = .ok (.iload_n 3, 1) := by decide +kernel
theorem dX4_shelf_67 : decode cX4_shelf 67 = .ok (.ifCond .le 35, 3) := by decide +kernel
theorem dX4_shelf_70 : decode cX4_shelf 70 = .ok (.aload_n 0, 1) := by decide +kernel
theorem dX4_shelf_71 : decode cX4_shelf 71 = .ok (.iload 4, 2) := by decide +kernel
theorem dX4_shelf_73 : decode cX4_shelf 73 = .ok (.iconst 0, 1) := by decide +kernel
theorem dX4_shelf_74 : decode cX4_shelf 74 = .ok (.invokevirtual 34, 3) := by decide +kernel
theorem dX4_shelf_77 : decode cX4_shelf 77 = .ok (.iload_n 1, 1) := by decide +kernel
theorem dX4_shelf_78 : decode cX4_shelf 78 = .ok (.if_icmp .ne 24, 3) := by decide +kernel
theorem dX4_shelf_81 : decode cX4_shelf 81 = .ok (.aload_n 0, 1) := by decide +kernel
theorem dX4_shelf_82 : decode cX4_shelf 82 = .ok (.iload 4, 2) := by decide +kernel
theorem dX4_shelf_84 : decode cX4_shelf 84 = .ok (.iconst 0, 1) := by decide +kernel
theorem dX4_shelf_85 : decode cX4_shelf 85 = .ok (.invokevirtual 55, 3) := by decide +kernel
theorem dX4_shelf_88 : decode cX4_shelf 88 = .ok (.ifCond .eq 14, 3) := by decide +kernel
theorem dX4_shelf_91 : decode cX4_shelf 91 = .ok (.aload_n 0, 1) := by decide +kernel
theorem dX4_shelf_92 : decode cX4_shelf 92 = .ok (.iload 4, 2) := by decide +kernel
theorem dX4_shelf_94 : decode cX4_shelf 94 = .ok (.iconst 3, 1) := by decide +kernel
theorem dX4_shelf_95 : decode cX4_shelf 95 = .ok (.iconst 4, 1) := by decide +kernel
theorem dX4_shelf_96 : decode cX4_shelf 96 = .ok (.invokevirtual 115, 3) := by decide +kernel
theorem dX4_shelf_99 : decode cX4_shelf 99 = .ok (.iinc 3 (-1), 3) := by decide +kernel
theorem dX4_shelf_102 : decode cX4_shelf 102 = .ok (.iinc 4 (-1), 3) := by decide +kernel
theorem dX4_shelf_105 : decode cX4_shelf 105 = .ok (.goto (-44), 3) := by decide +kernel
theorem dX4_shelf_108 : decode cX4_shelf 108 = .ok (.iconst 0, 1) := by decide +kernel
theorem dX4_shelf_109 : decode cX4_shelf 109 = .ok (.istore 4, 2) := by decide +kernel
theorem dX4_shelf_111 : decode cX4_shelf 111 = .ok (.iload 4, 2) := by decide +kernel
theorem dX4_shelf_113 : decode cX4_shelf 113 = .ok (.aload_n 0, 1) := by decide +kernel
theorem dX4_shelf_114 : decode cX4_shelf 114 = .ok (.getfield 7, 3) := by decide +kernel
theorem dX4_shelf_117 : decode cX4_shelf 117 = .ok (.iconst 1, 1) := by decide +kernel
theorem dX4_shelf_118 : decode cX4_shelf 118 = .ok (.iaload, 1) := by decide +kernel
theorem dX4_shelf_119 : decode cX4_shelf 119 = .ok (.if_icmp .ge 45, 3) := by decide +kernel
theorem dX4_shelf_122 : decode cX4_shelf 122 = .ok (.iload_n 3, 1) := by decide +kernel
theorem dX4_shelf_123 : decode cX4_shelf 123 = .ok (.ifCond .ge 35, 3) := by decide +kernel
theorem dX4_shelf_126 : decode cX4_shelf 126 = .ok (.aload_n 0, 1) := by decide +kernel
theorem dX4_shelf_127 : decode cX4_shelf 127 = .ok (.iload 4, 2) := by decide +kernel
theorem dX4_shelf_129 : decode cX4_shelf 129 = .ok (.iconst 0, 1) := by decide +kernel
theorem dX4_shelf_130 : decode cX4_shelf 130 = .ok (.invokevirtual 34, 3) := by decide +kernel
theorem dX4_shelf_133 : decode cX4_shelf 133 = .ok (.iload_n 1, 1) := by decide +kernel
theorem dX4_shelf_134 : decode cX4_shelf 134 = .ok (.if_icmp .ne 24, 3) := by decide +kernel
theorem dX4_shelf_137 : decode cX4_shelf 137 = .ok (.aload_n 0, 1) := by decide +kernel
theorem dX4_shelf_138 : decode cX4_shelf 138 = .ok (.iload 4, 2) := by decide +kernel
theorem dX4_shelf_140 : decode cX4_shelf 140 = .ok (.iconst 4, 1) := by decide +kernel
theorem dX4_shelf_141 : decode cX4_shelf 141 = .ok (.invokevirtual 55, 3) := by decide +kernel
theorem dX4_shelf_144 : decode cX4_shelf 144 = .ok (.ifCond .eq 14, 3) := by decide +kernel
theorem dX4_shelf_147 : decode cX4_shelf 147 = .ok (.aload_n 0, 1) := by decide +kernel
theorem dX4_shelf_148 : decode cX4_shelf 148 = .ok (.iload 4, 2) := by decide +kernel
theorem dX4_shelf_150 : decode cX4_shelf 150 = .ok (.iconst 3, 1) := by decide +kernel
theorem dX4_shelf_151 : decode cX4_shelf 151 = .ok (.iconst 0, 1) := by decide +kernel
theorem dX4_shelf_152 : decode cX4_shelf 152 = .ok (.invokevirtual 115, 3) := by decide +kernel
theorem dX4_shelf_155 : decode cX4_shelf 155 = .ok (.iinc 3 1, 3) := by decide +kernel
theorem dX4_shelf_158 : decode cX4_shelf 158 = .ok (.iinc 4 1, 3) := by decide +kernel
theorem dX4_shelf_161 : decode cX4_shelf 161 = .ok (.goto (-50), 3) := by decide +kernel
theorem dX4_shelf_164 : decode cX4_shelf 164 = .ok (.aload_n 0, 1) := by decide +kernel
theorem dX4_shelf_165 : decode cX4_shelf 165 = .ok (.iload_n 1, 1) := by decide +kernel
theorem dX4_shelf_166 : decode cX4_shelf 166 = .ok (.iconst 4, 1) := by decide +kernel
theorem dX4_shelf_167 : decode cX4_shelf 167 = .ok (.invokevirtual 87, 3) := by decide +kernel
theorem dX4_shelf_170 : decode cX4_shelf 170 = .ok (.ireturn, 1) := by decide +kernel
theorem dX4_customerNow_0 : decode cX4_customerNow 0 = .ok (.iconst 0, 1) := by decide +kernel
theorem dX4_customerNow_1 : decode cX4_customerNow 1 = .ok (.istore_n 3, 1) := by decide +kernel
theorem dX4_customerNow_2 : decode cX4_customerNow 2 = .ok (.iconst 0, 1) := by decide +kernel
theorem dX4_customerNow_3 : decode cX4_customerNow 3 = .ok (.istore 4, 2) := by decide +kernel
theorem dX4_customerNow_5 : decode cX4_customerNow 5 = .ok (.iload 4, 2) := by decide +kernel
theorem dX4_customerNow_7 : decode cX4_customerNow 7 = .ok (.aload_n 0, 1) := by decide +kernel
theorem dX4_customerNow_8 : decode cX4_customerNow 8 = .ok (.getfield 7, 3) := by decide +kernel
theorem dX4_customerNow_11 : decode cX4_customerNow 11 = .ok (.iconst 1, 1) := by decide +kernel
theorem dX4_customerNow_12 : decode cX4_customerNow 12 = .ok (.iaload, 1) := by decide +kernel
theorem dX4_customerNow_13 : decode cX4_customerNow 13 = .ok (.if_icmp .ge 51, 3) := by decide +kernel
theorem dX4_customerNow_16 : decode cX4_customerNow 16 = .ok (.iload_n 3, 1) := by decide +kernel
theorem dX4_customerNow_17 : decode cX4_customerNow 17 = .ok (.aload_n 0, 1) := by decide +kernel
theorem dX4_customerNow_18 : decode cX4_customerNow 18 = .ok (.iload 4, 2) := by decide +kernel
theorem dX4_customerNow_20 : decode cX4_customerNow 20 = .ok (.iconst 1, 1) := by decide +kernel
theorem dX4_customerNow_21 : decode cX4_customerNow 21 = .ok (.invokevirtual 55, 3) := by decide +kernel
theorem dX4_customerNow_24 : decode cX4_customerNow 24 = .ok (.ifCond .eq 31, 3) := by decide +kernel
theorem dX4_customerNow_27 : decode cX4_customerNow 27 = .ok (.aload_n 0, 1) := by decide +kernel
theorem dX4_customerNow_28 : decode cX4_customerNow 28 = .ok (.iload 4, 2) := by decide +kernel
theorem dX4_customerNow_30 : decode cX4_customerNow 30 = .ok (.iconst 4, 1) := by decide +kernel
theorem dX4_customerNow_31 : decode cX4_customerNow 31 = .ok (.invokevirtual 34, 3) := by decide +kernel
theorem dX4_customerNow_34 : decode cX4_customerNow 34 = .ok (.iload_n 1, 1) := by decide +kernel
theorem dX4_customerNow_35 : decode cX4_customerNow 35 = .ok (.if_icmp .ne 20, 3) := by decide +kernel
theorem dX4_customerNow_38 : decode cX4_customerNow 38 = .ok (.iload_n 2, 1) := by decide +kernel
theorem dX4_customerNow_39 : decode cX4_customerNow 39 = .ok (.ifCond .eq 12, 3) := by decide +kernel
theorem dX4_customerNow_42 : decode cX4_customerNow 42 = .ok (.aload_n 0, 1) := by decide +kernel
theorem dX4_customerNow_43 : decode cX4_customerNow 43 = .ok (.iload 4, 2) := by decide +kernel
theorem dX4_customerNow_45 : decode cX4_customerNow 45 = .ok (.invokevirtual 102, 3) := by decide +kernel
theorem dX4_customerNow_48 : decode cX4_customerNow 48 = .ok (.ifCond .le 7, 3) := by decide +kernel
theorem dX4_customerNow_51 : decode cX4_customerNow 51 = .ok (.iconst 1, 1) := by decide +kernel
theorem dX4_customerNow_52 : decode cX4_customerNow 52 = .ok (.goto 4, 3) := by decide +kernel
theorem dX4_customerNow_55 : decode cX4_customerNow 55 = .ok (.iconst 0, 1) := by decide +kernel
theorem dX4_customerNow_56 : decode cX4_customerNow 56 = .ok (.iadd, 1) := by decide +kernel
theorem dX4_customerNow_57 : decode cX4_customerNow 57 = .ok (.istore_n 3, 1) := by decide +kernel
theorem dX4_customerNow_58 : decode cX4_customerNow 58 = .ok (.iinc 4 1, 3) := by decide +kernel
theorem dX4_customerNow_61 : decode cX4_customerNow 61 = .ok (.goto (-56), 3) := by decide +kernel
theorem dX4_customerNow_64 : decode cX4_customerNow 64 = .ok (.iload_n 2, 1) := by decide +kernel
theorem dX4_customerNow_65 : decode cX4_customerNow 65 = .ok (.iconst 2, 1) := by decide +kernel
theorem dX4_customerNow_66 : decode cX4_customerNow 66 = .ok (.if_icmp .ne 15, 3) := by decide +kernel
theorem dX4_customerNow_69 : decode cX4_customerNow 69 = .ok (.aload_n 0, 1) := by decide +kernel
theorem dX4_customerNow_70 : decode cX4_customerNow 70 = .ok (.getfield 7, 3) := by decide +kernel
theorem dX4_customerNow_73 : decode cX4_customerNow 73 = .ok (.bipush 15, 2) := by decide +kernel
theorem dX4_customerNow_75 : decode cX4_customerNow 75 = .ok (.iload_n 1, 1) := by decide +kernel
theorem dX4_customerNow_76 : decode cX4_customerNow 76 = .ok (.iadd, 1) := by decide +kernel
theorem dX4_customerNow_77 : decode cX4_customerNow 77 = .ok (.iaload, 1) := by decide +kernel
theorem dX4_customerNow_78 : decode cX4_customerNow 78 = .ok (.goto 4, 3) := by decide +kernel
theorem dX4_customerNow_81 : decode cX4_customerNow 81 = .ok (.iload_n 3, 1) := by decide +kernel
theorem dX4_customerNow_82 : decode cX4_customerNow 82 = .ok (.ireturn, 1) := by decide +kernel
theorem dX4_customer_0 : decode cX4_customer 0 = .ok (.iload_n 1, 1) := by decide +kernel
theorem dX4_customer_1 : decode cX4_customer 1 = .ok (.invokestatic 143, 3) := by decide +kernel
theorem dX4_customer_4 : decode cX4_customer 4 = .ok (.ifCond .ne 6, 3) := by decide +kernel
theorem dX4_customer_7 : decode cX4_customer 7 = .ok (.bipush (-2), 2) := by decide +kernel
theorem dX4_customer_9 : decode cX4_customer 9 = .ok (.ireturn, 1) := by decide +kernel
theorem dX4_customer_10 : decode cX4_customer 10 = .ok (.iload_n 2, 1) := by decide +kernel
theorem dX4_customer_11 : decode cX4_customer 11 = .ok (.iconst 0, 1) := by decide +kernel
theorem dX4_customer_12 : decode cX4_customer 12 = .ok (.iconst 2, 1) := by decide +kernel
theorem dX4_customer_13 : decode cX4_customer 13 = .ok (.invokestatic 30, 3) := by decide +kernel
theorem dX4_customer_16 : decode cX4_customer 16 = .ok (.ifCond .eq 12, 3) := by decide +kernel
theorem dX4_customer_19 : decode cX4_customer 19 = .ok (.aload_n 0, 1) := by decide +kernel
theorem dX4_customer_20 : decode cX4_customer 20 = .ok (.iload_n 1, 1) := by decide +kernel
theorem dX4_customer_21 : decode cX4_customer 21 = .ok (.iload_n 2, 1) := by decide +kernel
theorem dX4_customer_22 : decode cX4_customer 22 = .ok (.invokevirtual 180, 3) := by decide +kernel
theorem dX4_customer_25 : decode cX4_customer 25 = .ok (.goto 5, 3) := by decide +kernel
theorem dX4_customer_28 : decode cX4_customer 28 = .ok (.bipush (-3), 2) := by decide +kernel
theorem dX4_customer_30 : decode cX4_customer 30 = .ok (.ireturn, 1) := by decide +kernel
theorem dX4_lostIn_0 : decode cX4_lostIn 0 = .ok (.iload_n 1, 1) := by decide +kernel
theorem dX4_lostIn_1 : decode cX4_lostIn 1 = .ok (.iconst 1, 1) := by decide +kernel
theorem dX4_lostIn_2 : decode cX4_lostIn 2 = .ok (.sipush 400, 3) := by decide +kernel
theorem dX4_lostIn_5 : decode cX4_lostIn 5 = .ok (.invokestatic 30, 3) := by decide +kernel
theorem dX4_lostIn_8 : decode cX4_lostIn 8 = .ok (.ifCond .ne 6, 3) := by decide +kernel
theorem dX4_lostIn_11 : decode cX4_lostIn 11 = .ok (.bipush (-3), 2) := by decide +kernel
theorem dX4_lostIn_13 : decode cX4_lostIn 13 = .ok (.ireturn, 1) := by decide +kernel
theorem dX4_lostIn_14 : decode cX4_lostIn 14 = .ok (.iconst 0, 1) := by decide +kernel
theorem dX4_lostIn_15 : decode cX4_lostIn 15 = .ok (.istore_n 2, 1) := by decide +kernel
theorem dX4_lostIn_16 : decode cX4_lostIn 16 = .ok (.iconst 0, 1) := by decide +kernel
theorem dX4_lostIn_17 : decode cX4_lostIn 17 = .ok (.istore_n 3, 1) := by decide +kernel
theorem dX4_lostIn_18 : decode cX4_lostIn 18 = .ok (.iload_n 3, 1) := by decide +kernel
theorem dX4_lostIn_19 : decode cX4_lostIn 19 = .ok (.aload_n 0, 1) := by decide +kernel
theorem dX4_lostIn_20 : decode cX4_lostIn 20 = .ok (.getfield 7, 3) := by decide +kernel
theorem dX4_lostIn_23 : decode cX4_lostIn 23 = .ok (.iconst 1, 1) := by decide +kernel
theorem dX4_lostIn_24 : decode cX4_lostIn 24 = .ok (.iaload, 1) := by decide +kernel
theorem dX4_lostIn_25 : decode cX4_lostIn 25 = .ok (.if_icmp .ge 51, 3) := by decide +kernel
theorem dX4_lostIn_28 : decode cX4_lostIn 28 = .ok (.iload_n 2, 1) := by decide +kernel
theorem dX4_lostIn_29 : decode cX4_lostIn 29 = .ok (.aload_n 0, 1) := by decide +kernel
theorem dX4_lostIn_30 : decode cX4_lostIn 30 = .ok (.iload_n 3, 1) := by decide +kernel
theorem dX4_lostIn_31 : decode cX4_lostIn 31 = .ok (.iconst 1, 1) := by decide +kernel
theorem dX4_lostIn_32 : decode cX4_lostIn 32 = .ok (.invokevirtual 55, 3) := by decide +kernel
theorem dX4_lostIn_35 : decode cX4_lostIn 35 = .ok (.ifCond .eq 32, 3) := by decide +kernel
theorem dX4_lostIn_38 : decode cX4_lostIn 38 = .ok (.aload_n 0, 1) := by decide +kernel
theorem dX4_lostIn_39 : decode cX4_lostIn 39 = .ok (.getfield 7, 3) := by decide +kernel
theorem dX4_lostIn_42 : decode cX4_lostIn 42 = .ok (.iconst 3, 1) := by decide +kernel
theorem dX4_lostIn_43 : decode cX4_lostIn 43 = .ok (.iaload, 1) := by decide +kernel
theorem dX4_lostIn_44 : decode cX4_lostIn 44 = .ok (.iload_n 1, 1) := by decide +kernel
theorem dX4_lostIn_45 : decode cX4_lostIn 45 = .ok (.iadd, 1) := by decide +kernel
theorem dX4_lostIn_46 : decode cX4_lostIn 46 = .ok (.aload_n 0, 1) := by decide +kernel
theorem dX4_lostIn_47 : decode cX4_lostIn 47 = .ok (.iload_n 3, 1) := by decide +kernel
theorem dX4_lostIn_48 : decode cX4_lostIn 48 = .ok (.iconst 5, 1) := by decide +kernel
theorem dX4_lostIn_49 : decode cX4_lostIn 49 = .ok (.invokevirtual 34, 3) := by decide +kernel
theorem dX4_lostIn_52 : decode cX4_lostIn 52 = .ok (.isub, 1) := by decide +kernel
theorem dX4_lostIn_53 : decode cX4_lostIn 53 = .ok (.aload_n 0, 1) := by decide +kernel
theorem dX4_lostIn_54 : decode cX4_lostIn 54 = .ok (.getfield 7, 3) := by decide +kernel
theorem dX4_lostIn_57 : decode cX4_lostIn 57 = .ok (.bipush 6, 2) := by decide +kernel
theorem dX4_lostIn_59 : decode cX4_lostIn 59 = .ok (.iaload, 1) := by decide +kernel
theorem dX4_lostIn_60 : decode cX4_lostIn 60 = .ok (.if_icmp .le 7, 3) := by decide +kernel
theorem dX4_lostIn_63 : decode cX4_lostIn 63 = .ok (.iconst 1, 1) := by decide +kernel
theorem dX4_lostIn_64 : decode cX4_lostIn 64 = .ok (.goto 4, 3) := by decide +kernel
theorem dX4_lostIn_67 : decode cX4_lostIn 67 = .ok (.iconst 0, 1) := by decide +kernel
theorem dX4_lostIn_68 : decode cX4_lostIn 68 = .ok (.iadd, 1) := by decide +kernel
theorem dX4_lostIn_69 : decode cX4_lostIn 69 = .ok (.istore_n 2, 1) := by decide +kernel
theorem dX4_lostIn_70 : decode cX4_lostIn 70 = .ok (.iinc 3 1, 3) := by decide +kernel
theorem dX4_lostIn_73 : decode cX4_lostIn 73 = .ok (.goto (-55), 3) := by decide +kernel
theorem dX4_lostIn_76 : decode cX4_lostIn 76 = .ok (.iload_n 2, 1) := by decide +kernel
theorem dX4_lostIn_77 : decode cX4_lostIn 77 = .ok (.ireturn, 1) := by decide +kernel
theorem dX4_owned_0 : decode cX4_owned 0 = .ok (.iconst 0, 1) := by decide +kernel
theorem dX4_owned_1 : decode cX4_owned 1 = .ok (.istore_n 2, 1) := by decide +kernel
theorem dX4_owned_2 : decode cX4_owned 2 = .ok (.iconst 0, 1) := by decide +kernel
theorem dX4_owned_3 : decode cX4_owned 3 = .ok (.istore_n 3, 1) := by decide +kernel
theorem dX4_owned_4 : decode cX4_owned 4 = .ok (.iload_n 3, 1) := by decide +kernel
theorem dX4_owned_5 : decode cX4_owned 5 = .ok (.aload_n 0, 1) := by decide +kernel
theorem dX4_owned_6 : decode cX4_owned 6 = .ok (.getfield 7, 3) := by decide +kernel
theorem dX4_owned_9 : decode cX4_owned 9 = .ok (.iconst 1, 1) := by decide +kernel
theorem dX4_owned_10 : decode cX4_owned 10 = .ok (.iaload, 1) := by decide +kernel
theorem dX4_owned_11 : decode cX4_owned 11 = .ok (.if_icmp .ge 49, 3) := by decide +kernel
theorem dX4_owned_14 : decode cX4_owned 14 = .ok (.iload_n 2, 1) := by decide +kernel
theorem dX4_owned_15 : decode cX4_owned 15 = .ok (.aload_n 0, 1) := by decide +kernel
theorem dX4_owned_16 : decode cX4_owned 16 = .ok (.iload_n 3, 1) := by decide +kernel
theorem dX4_owned_17 : decode cX4_owned 17 = .ok (.iconst 0, 1) := by decide +kernel
theorem dX4_owned_18 : decode cX4_owned 18 = .ok (.invokevirtual 34, 3) := by decide +kernel
theorem dX4_owned_21 : decode cX4_owned 21 = .ok (.iload_n 1, 1) := by decide +kernel
theorem dX4_owned_22 : decode cX4_owned 22 = .ok (.if_icmp .ne 29, 3) := by decide +kernel
theorem dX4_owned_25 : decode cX4_owned 25 = .ok (.aload_n 0, 1) := by decide +kernel
theorem dX4_owned_26 : decode cX4_owned 26 = .ok (.iload_n 3, 1) := by decide +kernel
theorem dX4_owned_27 : decode cX4_owned 27 = .ok (.iconst 2, 1) := by decide +kernel
theorem dX4_owned_28 : decode cX4_owned 28 = .ok (.invokevirtual 55, 3) := by decide +kernel
theorem dX4_owned_31 : decode cX4_owned 31 = .ok (.ifCond .ne 20, 3) := by decide +kernel
theorem dX4_owned_34 : decode cX4_owned 34 = .ok (.aload_n 0, 1) := by decide +kernel
theorem dX4_owned_35 : decode cX4_owned 35 = .ok (.iload_n 3, 1) := by decide +kernel
theorem dX4_owned_36 : decode cX4_owned 36 = .ok (.iconst 3, 1) := by decide +kernel
theorem dX4_owned_37 : decode cX4_owned 37 = .ok (.invokevirtual 55, 3) := by decide +kernel
theorem dX4_owned_40 : decode cX4_owned 40 = .ok (.ifCond .ne 11, 3) := by decide +kernel
theorem dX4_owned_43 : decode cX4_owned 43 = .ok (.aload_n 0, 1) := by decide +kernel
theorem dX4_owned_44 : decode cX4_owned 44 = .ok (.iload_n 3, 1) := by decide +kernel
theorem dX4_owned_45 : decode cX4_owned 45 = .ok (.invokevirtual 99, 3) := by decide +kernel
theorem dX4_owned_48 : decode cX4_owned 48 = .ok (.goto 4, 3) := by decide +kernel
theorem dX4_owned_51 : decode cX4_owned 51 = .ok (.iconst 0, 1) := by decide +kernel
theorem dX4_owned_52 : decode cX4_owned 52 = .ok (.iadd, 1) := by decide +kernel
theorem dX4_owned_53 : decode cX4_owned 53 = .ok (.istore_n 2, 1) := by decide +kernel
theorem dX4_owned_54 : decode cX4_owned 54 = .ok (.iinc 3 1, 3) := by decide +kernel
theorem dX4_owned_57 : decode cX4_owned 57 = .ok (.goto (-53), 3) := by decide +kernel
theorem dX4_owned_60 : decode cX4_owned 60 = .ok (.iload_n 2, 1) := by decide +kernel
theorem dX4_owned_61 : decode cX4_owned 61 = .ok (.ireturn, 1) := by decide +kernel
theorem dX4_agingOf_0 : decode cX4_agingOf 0 = .ok (.aload_n 0, 1) := by decide +kernel
theorem dX4_agingOf_1 : decode cX4_agingOf 1 = .ok (.iload_n 1, 1) := by decide +kernel
theorem dX4_agingOf_2 : decode cX4_agingOf 2 = .ok (.invokevirtual 65, 3) := by decide +kernel
theorem dX4_agingOf_5 : decode cX4_agingOf 5 = .ok (.ifCond .ne 6, 3) := by decide +kernel
theorem dX4_agingOf_8 : decode cX4_agingOf 8 = .ok (.bipush (-2), 2) := by decide +kernel
theorem dX4_agingOf_10 : decode cX4_agingOf 10 = .ok (.ireturn, 1) := by decide +kernel
theorem dX4_agingOf_11 : decode cX4_agingOf 11 = .ok (.aload_n 0, 1) := by decide +kernel
theorem dX4_agingOf_12 : decode cX4_agingOf 12 = .ok (.iload_n 1, 1) := by decide +kernel
theorem dX4_agingOf_13 : decode cX4_agingOf 13 = .ok (.invokevirtual 42, 3) := by decide +kernel
theorem dX4_agingOf_16 : decode cX4_agingOf 16 = .ok (.bipush 30, 2) := by decide +kernel
theorem dX4_agingOf_18 : decode cX4_agingOf 18 = .ok (.if_icmp .ne 6, 3) := by decide +kernel
theorem dX4_agingOf_21 : decode cX4_agingOf 21 = .ok (.bipush (-5), 2) := by decide +kernel
theorem dX4_agingOf_23 : decode cX4_agingOf 23 = .ok (.ireturn, 1) := by decide +kernel
theorem dX4_agingOf_24 : decode cX4_agingOf 24 = .ok (.aload_n 0, 1) := by decide +kernel
theorem dX4_agingOf_25 : decode cX4_agingOf 25 = .ok (.iload_n 1, 1) := by decide +kernel
theorem dX4_agingOf_26 : decode cX4_agingOf 26 = .ok (.invokevirtual 183, 3) := by decide +kernel
theorem dX4_agingOf_29 : decode cX4_agingOf 29 = .ok (.istore_n 2, 1) := by decide +kernel
theorem dX4_agingOf_30 : decode cX4_agingOf 30 = .ok (.aload_n 0, 1) := by decide +kernel
theorem dX4_agingOf_31 : decode cX4_agingOf 31 = .ok (.getfield 7, 3) := by decide +kernel
theorem dX4_agingOf_34 : decode cX4_agingOf 34 = .ok (.bipush 23, 2) := by decide +kernel
theorem dX4_agingOf_36 : decode cX4_agingOf 36 = .ok (.iconst 2, 1) := by decide +kernel
theorem dX4_agingOf_37 : decode cX4_agingOf 37 = .ok (.iload_n 1, 1) := by decide +kernel
theorem dX4_agingOf_38 : decode cX4_agingOf 38 = .ok (.imul, 1) := by decide +kernel
theorem dX4_agingOf_39 : decode cX4_agingOf 39 = .ok (.iadd, 1) := by decide +kernel
theorem dX4_agingOf_40 : decode cX4_agingOf 40 = .ok (.iconst 1, 1) := by decide +kernel
theorem dX4_agingOf_41 : decode cX4_agingOf 41 = .ok (.iadd, 1) := by decide +kernel
theorem dX4_agingOf_42 : decode cX4_agingOf 42 = .ok (.dup2, 1) := by decide +kernel
theorem dX4_agingOf_43 : decode cX4_agingOf 43 = .ok (.iaload, 1) := by decide +kernel
theorem dX4_agingOf_44 : decode cX4_agingOf 44 = .ok (.iconst 1, 1) := by decide +kernel
theorem dX4_agingOf_45 : decode cX4_agingOf 45 = .ok (.iadd, 1) := by decide +kernel
theorem dX4_agingOf_46 : decode cX4_agingOf 46 = .ok (.iastore, 1) := by decide +kernel
theorem dX4_agingOf_47 : decode cX4_agingOf 47 = .ok (.aload_n 0, 1) := by decide +kernel
theorem dX4_agingOf_48 : decode cX4_agingOf 48 = .ok (.iload_n 1, 1) := by decide +kernel
theorem dX4_agingOf_49 : decode cX4_agingOf 49 = .ok (.invokevirtual 183, 3) := by decide +kernel
theorem dX4_agingOf_52 : decode cX4_agingOf 52 = .ok (.istore_n 3, 1) := by decide +kernel
theorem dX4_agingOf_53 : decode cX4_agingOf 53 = .ok (.aload_n 0, 1) := by decide +kernel
theorem dX4_agingOf_54 : decode cX4_agingOf 54 = .ok (.getfield 7, 3) := by decide +kernel
theorem dX4_agingOf_57 : decode cX4_agingOf 57 = .ok (.bipush 23, 2) := by decide +kernel
theorem dX4_agingOf_59 : decode cX4_agingOf 59 = .ok (.iconst 2, 1) := by decide +kernel
theorem dX4_agingOf_60 : decode cX4_agingOf 60 = .ok (.iload_n 1, 1) := by decide +kernel
theorem dX4_agingOf_61 : decode cX4_agingOf 61 = .ok (.imul, 1) := by decide +kernel
theorem dX4_agingOf_62 : decode cX4_agingOf 62 = .ok (.iadd, 1) := by decide +kernel
theorem dX4_agingOf_63 : decode cX4_agingOf 63 = .ok (.iconst 1, 1) := by decide +kernel
theorem dX4_agingOf_64 : decode cX4_agingOf 64 = .ok (.iadd, 1) := by decide +kernel
theorem dX4_agingOf_65 : decode cX4_agingOf 65 = .ok (.dup2, 1) := by decide +kernel
theorem dX4_agingOf_66 : decode cX4_agingOf 66 = .ok (.iaload, 1) := by decide +kernel
theorem dX4_agingOf_67 : decode cX4_agingOf 67 = .ok (.iconst 1, 1) := by decide +kernel
theorem dX4_agingOf_68 : decode cX4_agingOf 68 = .ok (.isub, 1) := by decide +kernel
theorem dX4_agingOf_69 : decode cX4_agingOf 69 = .ok (.iastore, 1) := by decide +kernel
theorem dX4_agingOf_70 : decode cX4_agingOf 70 = .ok (.iload_n 2, 1) := by decide +kernel
theorem dX4_agingOf_71 : decode cX4_agingOf 71 = .ok (.iload_n 3, 1) := by decide +kernel
theorem dX4_agingOf_72 : decode cX4_agingOf 72 = .ok (.isub, 1) := by decide +kernel
theorem dX4_agingOf_73 : decode cX4_agingOf 73 = .ok (.ireturn, 1) := by decide +kernel
theorem dX4_stockFrom_0 : decode cX4_stockFrom 0 = .ok (.iconst 0, 1) := by decide +kernel
theorem dX4_stockFrom_1 : decode cX4_stockFrom 1 = .ok (.istore_n 3, 1) := by decide +kernel
theorem dX4_stockFrom_2 : decode cX4_stockFrom 2 = .ok (.iconst 0, 1) := by decide +kernel
theorem dX4_stockFrom_3 : decode cX4_stockFrom 3 = .ok (.istore 4, 2) := by decide +kernel
theorem dX4_stockFrom_5 : decode cX4_stockFrom 5 = .ok (.iload 4, 2) := by decide +kernel
theorem dX4_stockFrom_7 : decode cX4_stockFrom 7 = .ok (.aload_n 0, 1) := by decide +kernel
theorem dX4_stockFrom_8 : decode cX4_stockFrom 8 = .ok (.getfield 7, 3) := by decide +kernel
theorem dX4_stockFrom_11 : decode cX4_stockFrom 11 = .ok (.iconst 1, 1) := by decide +kernel
theorem dX4_stockFrom_12 : decode cX4_stockFrom 12 = .ok (.iaload, 1) := by decide +kernel
theorem dX4_stockFrom_13 : decode cX4_stockFrom 13 = .ok (.if_icmp .ge 49, 3) := by decide +kernel
theorem dX4_stockFrom_16 : decode cX4_stockFrom 16 = .ok (.iload_n 3, 1) := by decide +kernel
theorem dX4_stockFrom_17 : decode cX4_stockFrom 17 = .ok (.aload_n 0, 1) := by decide +kernel
theorem dX4_stockFrom_18 : decode cX4_stockFrom 18 = .ok (.iload 4, 2) := by decide +kernel
theorem dX4_stockFrom_20 : decode cX4_stockFrom 20 = .ok (.iconst 0, 1) := by decide +kernel
theorem dX4_stockFrom_21 : decode cX4_stockFrom 21 = .ok (.invokevirtual 34, 3) := by decide +kernel
theorem dX4_stockFrom_24 : decode cX4_stockFrom 24 = .ok (.iload_n 1, 1) := by decide +kernel
theorem dX4_stockFrom_25 : decode cX4_stockFrom 25 = .ok (.if_icmp .ne 28, 3) := by decide +kernel
theorem dX4_stockFrom_28 : decode cX4_stockFrom 28 = .ok (.aload_n 0, 1) := by decide +kernel
theorem dX4_stockFrom_29 : decode cX4_stockFrom 29 = .ok (.iload 4, 2) := by decide +kernel
theorem dX4_stockFrom_31 : decode cX4_stockFrom 31 = .ok (.iconst 0, 1) := by decide +kernel
theorem dX4_stockFrom_32 : decode cX4_stockFrom 32 = .ok (.invokevirtual 55, 3) := by decide +kernel
theorem dX4_stockFrom_35 : decode cX4_stockFrom 35 = .ok (.ifCond .eq 18, 3) := by decide +kernel
theorem dX4_stockFrom_38 : decode cX4_stockFrom 38 = .ok (.aload_n 0, 1) := by decide +kernel
theorem dX4_stockFrom_39 : decode cX4_stockFrom 39 = .ok (.iload 4, 2) := by decide +kernel
theorem dX4_stockFrom_41 : decode cX4_stockFrom 41 = .ok (.iconst 1, 1) := by decide +kernel
theorem dX4_stockFrom_42 : decode cX4_stockFrom 42 = .ok (.invokevirtual 34, 3) := by decide +kernel
theorem dX4_stockFrom_45 : decode cX4_stockFrom 45 = .ok (.iload_n 2, 1) := by decide +kernel
theorem dX4_stockFrom_46 : decode cX4_stockFrom 46 = .ok (.if_icmp .lt 7, 3) := by decide +kernel
theorem dX4_stockFrom_49 : decode cX4_stockFrom 49 = .ok (.iconst 1, 1) := by decide +kernel
theorem dX4_stockFrom_50 : decode cX4_stockFrom 50 = .ok (.goto 4, 3) := by decide +kernel
theorem dX4_stockFrom_53 : decode cX4_stockFrom 53 = .ok (.iconst 0, 1) := by decide +kernel
theorem dX4_stockFrom_54 : decode cX4_stockFrom 54 = .ok (.iadd, 1) := by decide +kernel
theorem dX4_stockFrom_55 : decode cX4_stockFrom 55 = .ok (.istore_n 3, 1) := by decide +kernel
theorem dX4_stockFrom_56 : decode cX4_stockFrom 56 = .ok (.iinc 4 1, 3) := by decide +kernel
theorem dX4_stockFrom_59 : decode cX4_stockFrom 59 = .ok (.goto (-54), 3) := by decide +kernel
theorem dX4_stockFrom_62 : decode cX4_stockFrom 62 = .ok (.iload_n 3, 1) := by decide +kernel
theorem dX4_stockFrom_63 : decode cX4_stockFrom 63 = .ok (.ireturn, 1) := by decide +kernel
theorem dX4_servedOf_0 : decode cX4_servedOf 0 = .ok (.iconst 0, 1) := by decide +kernel
theorem dX4_servedOf_1 : decode cX4_servedOf 1 = .ok (.istore_n 2, 1) := by decide +kernel
theorem dX4_servedOf_2 : decode cX4_servedOf 2 = .ok (.bipush 30, 2) := by decide +kernel
theorem dX4_servedOf_4 : decode cX4_servedOf 4 = .ok (.istore_n 3, 1) := by decide +kernel
theorem dX4_servedOf_5 : decode cX4_servedOf 5 = .ok (.iload_n 3, 1) := by decide +kernel
theorem dX4_servedOf_6 : decode cX4_servedOf 6 = .ok (.ifCond .le 86, 3) := by decide +kernel
theorem dX4_servedOf_9 : decode cX4_servedOf 9 = .ok (.iconst 0, 1) := by decide +kernel
theorem dX4_servedOf_10 : decode cX4_servedOf 10 = .ok (.istore 4, 2) := by decide +kernel
theorem dX4_servedOf_12 : decode cX4_servedOf 12 = .ok (.iconst 0, 1) := by decide +kernel
theorem dX4_servedOf_13 : decode cX4_servedOf 13 = .ok (.istore 5, 2) := by decide +kernel
theorem dX4_servedOf_15 : decode cX4_servedOf 15 = .ok (.iload 5, 2) := by decide +kernel
theorem dX4_servedOf_17 : decode cX4_servedOf 17 = .ok (.aload_n 0, 1) := by decide +kernel
theorem dX4_servedOf_18 : decode cX4_servedOf 18 = .ok (.getfield 7, 3) := by decide +kernel
theorem dX4_servedOf_21 : decode cX4_servedOf 21 = .ok (.iconst 2, 1) := by decide +kernel
theorem dX4_servedOf_22 : decode cX4_servedOf 22 = .ok (.iaload, 1) := by decide +kernel
theorem dX4_servedOf_23 : decode cX4_servedOf 23 = .ok (.if_icmp .ge 47, 3) := by decide +kernel
theorem dX4_servedOf_26 : decode cX4_servedOf 26 = .ok (.iload 4, 2) := by decide +kernel
theorem dX4_servedOf_28 : decode cX4_servedOf 28 = .ok (.aload_n 0, 1) := by decide +kernel
theorem dX4_servedOf_29 : decode cX4_servedOf 29 = .ok (.iload 5, 2) := by decide +kernel
theorem dX4_servedOf_31 : decode cX4_servedOf 31 = .ok (.iconst 0, 1) := by decide +kernel
theorem dX4_servedOf_32 : decode cX4_servedOf 32 = .ok (.invokevirtual 52, 3) := by decide +kernel
theorem dX4_servedOf_35 : decode cX4_servedOf 35 = .ok (.iload_n 1, 1) := by decide +kernel
theorem dX4_servedOf_36 : decode cX4_servedOf 36 = .ok (.if_icmp .ne 24, 3) := by decide +kernel
theorem dX4_servedOf_39 : decode cX4_servedOf 39 = .ok (.aload_n 0, 1) := by decide +kernel
theorem dX4_servedOf_40 : decode cX4_servedOf 40 = .ok (.iload 5, 2) := by decide +kernel
theorem dX4_servedOf_42 : decode cX4_servedOf 42 = .ok (.iconst 1, 1) := by decide +kernel
theorem dX4_servedOf_43 : decode cX4_servedOf 43 = .ok (.invokevirtual 52, 3) := by decide +kernel
theorem dX4_servedOf_46 : decode cX4_servedOf 46 = .ok (.iload_n 3, 1) := by decide +kernel
theorem dX4_servedOf_47 : decode cX4_servedOf 47 = .ok (.if_icmp .ne 13, 3) := by decide +kernel
theorem dX4_servedOf_50 : decode cX4_servedOf 50 = .ok (.aload_n 0, 1) := by decide +kernel
theorem dX4_servedOf_51 : decode cX4_servedOf 51 = .ok (.iload 5, 2) := by decide +kernel
theorem dX4_servedOf_53 : decode cX4_servedOf 53 = .ok (.iconst 2, 1) := by decide +kernel
theorem dX4_servedOf_54 : decode cX4_servedOf 54 = .ok (.invokevirtual 52, 3) := by decide +kernel
theorem dX4_servedOf_57 : decode cX4_servedOf 57 = .ok (.goto 4, 3) := by decide +kernel
theorem dX4_servedOf_60 : decode cX4_servedOf 60 = .ok (.iconst 0, 1) := by decide +kernel
theorem dX4_servedOf_61 : decode cX4_servedOf 61 = .ok (.iadd, 1) := by decide +kernel
theorem dX4_servedOf_62 : decode cX4_servedOf 62 = .ok (.istore 4, 2) := by decide +kernel
theorem dX4_servedOf_64 : decode cX4_servedOf 64 = .ok (.iinc 5 1, 3) := by decide +kernel
theorem dX4_servedOf_67 : decode cX4_servedOf 67 = .ok (.goto (-52), 3) := by decide +kernel
theorem dX4_servedOf_70 : decode cX4_servedOf 70 = .ok (.iload_n 2, 1) := by decide +kernel
theorem dX4_servedOf_71 : decode cX4_servedOf 71 = .ok (.iload 4, 2) := by decide +kernel
theorem dX4_servedOf_73 : decode cX4_servedOf 73 = .ok (.aload_n 0, 1) := by decide +kernel
theorem dX4_servedOf_74 : decode cX4_servedOf 74 = .ok (.iload_n 1, 1) := by decide +kernel
theorem dX4_servedOf_75 : decode cX4_servedOf 75 = .ok (.iload_n 3, 1) := by decide +kernel
theorem dX4_servedOf_76 : decode cX4_servedOf 76 = .ok (.invokevirtual 186, 3) := by decide +kernel
theorem dX4_servedOf_79 : decode cX4_servedOf 79 = .ok (.iload_n 2, 1) := by decide +kernel
theorem dX4_servedOf_80 : decode cX4_servedOf 80 = .ok (.isub, 1) := by decide +kernel
theorem dX4_servedOf_81 : decode cX4_servedOf 81 = .ok (.invokestatic 45, 3) := by decide +kernel
theorem dX4_servedOf_84 : decode cX4_servedOf 84 = .ok (.iadd, 1) := by decide +kernel
theorem dX4_servedOf_85 : decode cX4_servedOf 85 = .ok (.istore_n 2, 1) := by decide +kernel
theorem dX4_servedOf_86 : decode cX4_servedOf 86 = .ok (.iinc 3 (-1), 3) := by decide +kernel
theorem dX4_servedOf_89 : decode cX4_servedOf 89 = .ok (.goto (-84), 3) := by decide +kernel
theorem dX4_servedOf_92 : decode cX4_servedOf 92 = .ok (.iload_n 2, 1) := by decide +kernel
theorem dX4_servedOf_93 : decode cX4_servedOf 93 = .ok (.ireturn, 1) := by decide +kernel
theorem dX4_served_0 : decode cX4_served 0 = .ok (.iconst 0, 1) := by decide +kernel
theorem dX4_served_1 : decode cX4_served 1 = .ok (.istore_n 1, 1) := by decide +kernel
theorem dX4_served_2 : decode cX4_served 2 = .ok (.iconst 0, 1) := by decide +kernel
theorem dX4_served_3 : decode cX4_served 3 = .ok (.istore_n 2, 1) := by decide +kernel
theorem dX4_served_4 : decode cX4_served 4 = .ok (.iload_n 2, 1) := by decide +kernel
theorem dX4_served_5 : decode cX4_served 5 = .ok (.aload_n 0, 1) := by decide +kernel
theorem dX4_served_6 : decode cX4_served 6 = .ok (.getfield 7, 3) := by decide +kernel
theorem dX4_served_9 : decode cX4_served 9 = .ok (.iconst 0, 1) := by decide +kernel
theorem dX4_served_10 : decode cX4_served 10 = .ok (.iaload, 1) := by decide +kernel
theorem dX4_served_11 : decode cX4_served 11 = .ok (.if_icmp .ge 17, 3) := by decide +kernel
theorem dX4_served_14 : decode cX4_served 14 = .ok (.iload_n 1, 1) := by decide +kernel
theorem dX4_served_15 : decode cX4_served 15 = .ok (.aload_n 0, 1) := by decide +kernel
theorem dX4_served_16 : decode cX4_served 16 = .ok (.iload_n 2, 1) := by decide +kernel
theorem dX4_served_17 : decode cX4_served 17 = .ok (.invokevirtual 189, 3) := by decide +kernel
theorem dX4_served_20 : decode cX4_served 20 = .ok (.iadd, 1) := by decide +kernel
theorem dX4_served_21 : decode cX4_served 21 = .ok (.istore_n 1, 1) := by decide +kernel
theorem dX4_served_22 : decode cX4_served 22 = .ok (.iinc 2 1, 3) := by decide +kernel
theorem dX4_served_25 : decode cX4_served 25 = .ok (.goto (-21), 3) := by decide +kernel
theorem dX4_served_28 : decode cX4_served 28 = .ok (.iload_n 1, 1) := by decide +kernel
theorem dX4_served_29 : decode cX4_served 29 = .ok (.ireturn, 1) := by decide +kernel
theorem dX4_undo_0 : decode cX4_undo 0 = .ok (.aload_n 0, 1) := by decide +kernel
theorem dX4_undo_1 : decode cX4_undo 1 = .ok (.getfield 22, 3) := by decide +kernel
theorem dX4_undo_4 : decode cX4_undo 4 = .ok (.ifCond .ne 6, 3) := by decide +kernel
theorem dX4_undo_7 : decode cX4_undo 7 = .ok (.bipush (-4), 2) := by decide +kernel
theorem dX4_undo_9 : decode cX4_undo 9 = .ok (.ireturn, 1) := by decide +kernel
theorem dX4_undo_10 : decode cX4_undo 10 = .ok (.aload_n 0, 1) := by decide +kernel
theorem dX4_undo_11 : decode cX4_undo 11 = .ok (.aload_n 0, 1) := by decide +kernel
theorem dX4_undo_12 : decode cX4_undo 12 = .ok (.getfield 22, 3) := by decide +kernel
theorem dX4_undo_15 : decode cX4_undo 15 = .ok (.iconst 0, 1) := by decide +kernel
theorem dX4_undo_16 : decode cX4_undo 16 = .ok (.invokevirtual 26, 3) := by decide +kernel
theorem dX4_undo_19 : decode cX4_undo 19 = .ok (.aload_n 0, 1) := by decide +kernel
theorem dX4_undo_20 : decode cX4_undo 20 = .ok (.dup, 1) := by decide +kernel
theorem dX4_undo_21 : decode cX4_undo 21 = .ok (.getfield 22, 3) := by decide +kernel
theorem dX4_undo_24 : decode cX4_undo 24 = .ok (.iconst 1, 1) := by decide +kernel
theorem dX4_undo_25 : decode cX4_undo 25 = .ok (.isub, 1) := by decide +kernel
theorem dX4_undo_26 : decode cX4_undo 26 = .ok (.putfield 22, 3) := by decide +kernel
theorem dX4_undo_29 : decode cX4_undo 29 = .ok (.aload_n 0, 1) := by decide +kernel
theorem dX4_undo_30 : decode cX4_undo 30 = .ok (.getfield 22, 3) := by decide +kernel
theorem dX4_undo_33 : decode cX4_undo 33 = .ok (.ireturn, 1) := by decide +kernel
theorem dX4_type_0 : decode cX4_type 0 = .ok (.iload_n 1, 1) := by decide +kernel
theorem dX4_type_1 : decode cX4_type 1 = .ok (.iconst 0, 1) := by decide +kernel
theorem dX4_type_2 : decode cX4_type 2 = .ok (.sipush 255, 3) := by decide +kernel
theorem dX4_type_5 : decode cX4_type 5 = .ok (.invokestatic 30, 3) := by decide +kernel
theorem dX4_type_8 : decode cX4_type 8 = .ok (.ifCond .ne 6, 3) := by decide +kernel
theorem dX4_type_11 : decode cX4_type 11 = .ok (.bipush (-3), 2) := by decide +kernel
theorem dX4_type_13 : decode cX4_type 13 = .ok (.ireturn, 1) := by decide +kernel
theorem dX4_type_14 : decode cX4_type 14 = .ok (.aload_n 0, 1) := by decide +kernel
theorem dX4_type_15 : decode cX4_type 15 = .ok (.getfield 192, 3) := by decide +kernel
theorem dX4_type_18 : decode cX4_type 18 = .ok (.bipush 100, 2) := by decide +kernel
theorem dX4_type_20 : decode cX4_type 20 = .ok (.if_icmp .ne 6, 3) := by decide +kernel
theorem dX4_type_23 : decode cX4_type 23 = .ok (.bipush (-5), 2) := by decide +kernel
theorem dX4_type_25 : decode cX4_type 25 = .ok (.ireturn, 1) := by decide +kernel
theorem dX4_type_26 : decode cX4_type 26 = .ok (.aload_n 0, 1) := by decide +kernel
theorem dX4_type_27 : decode cX4_type 27 = .ok (.getfield 19, 3) := by decide +kernel
theorem dX4_type_30 : decode cX4_type 30 = .ok (.aload_n 0, 1) := by decide +kernel
theorem dX4_type_31 : decode cX4_type 31 = .ok (.getfield 192, 3) := by decide +kernel
theorem dX4_type_34 : decode cX4_type 34 = .ok (.iload_n 1, 1) := by decide +kernel
theorem dX4_type_35 : decode cX4_type 35 = .ok (.iastore, 1) := by decide +kernel
theorem dX4_type_36 : decode cX4_type 36 = .ok (.aload_n 0, 1) := by decide +kernel
theorem dX4_type_37 : decode cX4_type 37 = .ok (.dup, 1) := by decide +kernel
theorem dX4_type_38 : decode cX4_type 38 = .ok (.getfield 192, 3) := by decide +kernel
theorem dX4_type_41 : decode cX4_type 41 = .ok (.iconst 1, 1) := by decide +kernel
theorem dX4_type_42 : decode cX4_type 42 = .ok (.iadd, 1) := by decide +kernel
theorem dX4_type_43 : decode cX4_type 43 = .ok (.putfield 192, 3) := by decide +kernel
theorem dX4_type_46 : decode cX4_type 46 = .ok (.aload_n 0, 1) := by decide +kernel
theorem dX4_type_47 : decode cX4_type 47 = .ok (.getfield 192, 3) := by decide +kernel
theorem dX4_type_50 : decode cX4_type 50 = .ok (.ireturn, 1) := by decide +kernel
theorem dX4_clearText_0 : decode cX4_clearText 0 = .ok (.aload_n 0, 1) := by decide +kernel
theorem dX4_clearText_1 : decode cX4_clearText 1 = .ok (.getfield 192, 3) := by decide +kernel
theorem dX4_clearText_4 : decode cX4_clearText 4 = .ok (.istore_n 1, 1) := by decide +kernel
theorem dX4_clearText_5 : decode cX4_clearText 5 = .ok (.aload_n 0, 1) := by decide +kernel
theorem dX4_clearText_6 : decode cX4_clearText 6 = .ok (.iconst 0, 1) := by decide +kernel
theorem dX4_clearText_7 : decode cX4_clearText 7 = .ok (.putfield 192, 3) := by decide +kernel
theorem dX4_clearText_10 : decode cX4_clearText 10 = .ok (.iload_n 1, 1) := by decide +kernel
theorem dX4_clearText_11 : decode cX4_clearText 11 = .ok (.ireturn, 1) := by decide +kernel
theorem dX4_here_0 : decode cX4_here 0 = .ok (.aload_n 0, 1) := by decide +kernel
theorem dX4_here_1 : decode cX4_here 1 = .ok (.getfield 195, 3) := by decide +kernel
theorem dX4_here_4 : decode cX4_here 4 = .ok (.aload_n 0, 1) := by decide +kernel
theorem dX4_here_5 : decode cX4_here 5 = .ok (.getfield 192, 3) := by decide +kernel
theorem dX4_here_8 : decode cX4_here 8 = .ok (.if_icmp .ge 30, 3) := by decide +kernel
theorem dX4_here_11 : decode cX4_here 11 = .ok (.aload_n 0, 1) := by decide +kernel
theorem dX4_here_12 : decode cX4_here 12 = .ok (.getfield 19, 3) := by decide +kernel
theorem dX4_here_15 : decode cX4_here 15 = .ok (.aload_n 0, 1) := by decide +kernel
theorem dX4_here_16 : decode cX4_here 16 = .ok (.getfield 195, 3) := by decide +kernel
theorem dX4_here_19 : decode cX4_here 19 = .ok (.iaload, 1) := by decide +kernel
theorem dX4_here_20 : decode cX4_here 20 = .ok (.bipush 32, 2) := by decide +kernel
theorem dX4_here_22 : decode cX4_here 22 = .ok (.if_icmp .ne 16, 3) := by decide +kernel
theorem dX4_here_25 : decode cX4_here 25 = .ok (.aload_n 0, 1) := by decide +kernel
theorem dX4_here_26 : decode cX4_here 26 = .ok (.dup, 1) := by decide +kernel
theorem dX4_here_27 : decode cX4_here 27 = .ok (.getfield 195, 3) := by decide +kernel
theorem dX4_here_30 : decode cX4_here 30 = .ok (.iconst 1, 1) := by decide +kernel
theorem dX4_here_31 : decode cX4_here 31 = .ok (.iadd, 1) := by decide +kernel
theorem dX4_here_32 : decode cX4_here 32 = .ok (.putfield 195, 3) := by decide +kernel
theorem dX4_here_35 : decode cX4_here 35 = .ok (.goto (-35), 3) := by decide +kernel
theorem dX4_here_38 : decode cX4_here 38 = .ok (.aload_n 0, 1) := by decide +kernel
theorem dX4_here_39 : decode cX4_here 39 = .ok (.getfield 195, 3) := by decide +kernel
theorem dX4_here_42 : decode cX4_here 42 = .ok (.aload_n 0, 1) := by decide +kernel
theorem dX4_here_43 : decode cX4_here 43 = .ok (.getfield 192, 3) := by decide +kernel
theorem dX4_here_46 : decode cX4_here 46 = .ok (.if_icmp .ge 15, 3) := by decide +kernel
theorem dX4_here_49 : decode cX4_here 49 = .ok (.aload_n 0, 1) := by decide +kernel
theorem dX4_here_50 : decode cX4_here 50 = .ok (.getfield 19, 3) := by decide +kernel
theorem dX4_here_53 : decode cX4_here 53 = .ok (.aload_n 0, 1) := by decide +kernel
theorem dX4_here_54 : decode cX4_here 54 = .ok (.getfield 195, 3) := by decide +kernel
theorem dX4_here_57 : decode cX4_here 57 = .ok (.iaload, 1) := by decide +kernel
theorem dX4_here_58 : decode cX4_here 58 = .ok (.goto 4, 3) := by decide +kernel
theorem dX4_here_61 : decode cX4_here 61 = .ok (.iconst (-1), 1) := by decide +kernel
theorem dX4_here_62 : decode cX4_here 62 = .ok (.ireturn, 1) := by decide +kernel
theorem dX4_reads_0 : decode cX4_reads 0 = .ok (.aload_n 0, 1) := by decide +kernel
theorem dX4_reads_1 : decode cX4_reads 1 = .ok (.invokevirtual 198, 3) := by decide +kernel
theorem dX4_reads_4 : decode cX4_reads 4 = .ok (.istore_n 1, 1) := by decide +kernel
theorem dX4_reads_5 : decode cX4_reads 5 = .ok (.aload_n 0, 1) := by decide +kernel
theorem dX4_reads_6 : decode cX4_reads 6 = .ok (.getfield 195, 3) := by decide +kernel
theorem dX4_reads_9 : decode cX4_reads 9 = .ok (.istore_n 2, 1) := by decide +kernel
theorem dX4_reads_10 : decode cX4_reads 10 = .ok (.iconst 0, 1) := by decide +kernel
theorem dX4_reads_11 : decode cX4_reads 11 = .ok (.istore_n 3, 1) := by decide +kernel
theorem dX4_reads_12 : decode cX4_reads 12 = .ok (.iload_n 1, 1) := by decide +kernel
theorem dX4_reads_13 : decode cX4_reads 13 = .ok (.ifCond .lt 58, 3) := by decide +kernel
theorem dX4_reads_16 : decode cX4_reads 16 = .ok (.iload_n 2, 1) := by decide +kernel
theorem dX4_reads_17 : decode cX4_reads 17 = .ok (.aload_n 0, 1) := by decide +kernel
theorem dX4_reads_18 : decode cX4_reads 18 = .ok (.getfield 192, 3) := by decide +kernel
theorem dX4_reads_21 : decode cX4_reads 21 = .ok (.if_icmp .ge 50, 3) := by decide +kernel
theorem dX4_reads_24 : decode cX4_reads 24 = .ok (.iload_n 2, 1) := by decide +kernel
theorem dX4_reads_25 : decode cX4_reads 25 = .ok (.aload_n 0, 1) := by decide +kernel
theorem dX4_reads_26 : decode cX4_reads 26 = .ok (.getfield 195, 3) := by decide +kernel
theorem dX4_reads_29 : decode cX4_reads 29 = .ok (.iconst 5, 1) := by decide +kernel
theorem dX4_reads_30 : decode cX4_reads 30 = .ok (.iadd, 1) := by decide +kernel
theorem dX4_reads_31 : decode cX4_reads 31 = .ok (.if_icmp .ge 40, 3) := by decide +kernel
theorem dX4_reads_34 : decode cX4_reads 34 = .ok (.aload_n 0, 1) := by decide +kernel
theorem dX4_reads_35 : decode cX4_reads 35 = .ok (.getfield 19, 3) := by decide +kernel
theorem dX4_reads_38 : decode cX4_reads 38 = .ok (.iload_n 2, 1) := by decide +kernel
theorem dX4_reads_39 : decode cX4_reads 39 = .ok (.iaload, 1) := by decide +kernel
theorem dX4_reads_40 : decode cX4_reads 40 = .ok (.bipush 48, 2) := by decide +kernel
theorem dX4_reads_42 : decode cX4_reads 42 = .ok (.bipush 57, 2) := by decide +kernel
theorem dX4_reads_44 : decode cX4_reads 44 = .ok (.invokestatic 30, 3) := by decide +kernel
theorem dX4_reads_47 : decode cX4_reads 47 = .ok (.ifCond .eq 24, 3) := by decide +kernel
theorem dX4_reads_50 : decode cX4_reads 50 = .ok (.bipush 10, 2) := by decide +kernel
theorem dX4_reads_52 : decode cX4_reads 52 = .ok (.iload_n 3, 1) := by decide +kernel
theorem dX4_reads_53 : decode cX4_reads 53 = .ok (.imul, 1) := by decide +kernel
theorem dX4_reads_54 : decode cX4_reads 54 = .ok (.aload_n 0, 1) := by decide +kernel
theorem dX4_reads_55 : decode cX4_reads 55 = .ok (.getfield 19, 3) := by decide +kernel
theorem dX4_reads_58 : decode cX4_reads 58 = .ok (.iload_n 2, 1) := by decide +kernel
theorem dX4_reads_59 : decode cX4_reads 59 = .ok (.iaload, 1) := by decide +kernel
theorem dX4_reads_60 : decode cX4_reads 60 = .ok (.iadd, 1) := by decide +kernel
theorem dX4_reads_61 : decode cX4_reads 61 = .ok (.bipush 48, 2) := by decide +kernel
theorem dX4_reads_63 : decode cX4_reads 63 = .ok (.isub, 1) := by decide +kernel
theorem dX4_reads_64 : decode cX4_reads 64 = .ok (.istore_n 3, 1) := by decide +kernel
theorem dX4_reads_65 : decode cX4_reads 65 = .ok (.iinc 2 1, 3) := by decide +kernel
theorem dX4_reads_68 : decode cX4_reads 68 = .ok (.goto (-56), 3) := by decide +kernel
theorem dX4_reads_71 : decode cX4_reads 71 = .ok (.iload_n 2, 1) := by decide +kernel
theorem dX4_reads_72 : decode cX4_reads 72 = .ok (.aload_n 0, 1) := by decide +kernel
theorem dX4_reads_73 : decode cX4_reads 73 = .ok (.getfield 195, 3) := by decide +kernel
theorem dX4_reads_76 : decode cX4_reads 76 = .ok (.if_icmp .le 41, 3) := by decide +kernel
theorem dX4_reads_79 : decode cX4_reads 79 = .ok (.iload_n 2, 1) := by decide +kernel
theorem dX4_reads_80 : decode cX4_reads 80 = .ok (.aload_n 0, 1) := by decide +kernel
theorem dX4_reads_81 : decode cX4_reads 81 = .ok (.getfield 195, 3) := by decide +kernel
theorem dX4_reads_84 : decode cX4_reads 84 = .ok (.iconst 5, 1) := by decide +kernel
theorem dX4_reads_85 : decode cX4_reads 85 = .ok (.iadd, 1) := by decide +kernel
theorem dX4_reads_86 : decode cX4_reads 86 = .ok (.if_icmp .ne 27, 3) := by decide +kernel
theorem dX4_reads_89 : decode cX4_reads 89 = .ok (.iload_n 2, 1) := by decide +kernel
theorem dX4_reads_90 : decode cX4_reads 90 = .ok (.aload_n 0, 1) := by decide +kernel
theorem dX4_reads_91 : decode cX4_reads 91 = .ok (.getfield 192, 3) := by decide +kernel
theorem dX4_reads_94 : decode cX4_reads 94 = .ok (.if_icmp .ge 19, 3) := by decide +kernel
theorem dX4_reads_97 : decode cX4_reads 97 = .ok (.aload_n 0, 1) := by decide +kernel
theorem dX4_reads_98 : decode cX4_reads 98 = .ok (.getfield 19, 3) := by decide +kernel
theorem dX4_reads_101 : decode cX4_reads 101 = .ok (.iload_n 2, 1) := by decide +kernel
theorem dX4_reads_102 : decode cX4_reads 102 = .ok (.iaload, 1) := by decide +kernel
theorem dX4_reads_103 : decode cX4_reads 103 = .ok (.bipush 48, 2) := by decide +kernel
theorem dX4_reads_105 : decode cX4_reads 105 = .ok (.bipush 57, 2) := by decide +kernel
theorem dX4_reads_107 : decode cX4_reads 107 = .ok (.invokestatic 30, 3) := by decide +kernel
theorem dX4_reads_110 : decode cX4_reads 110 = .ok (.ifCond .ne 7, 3) := by decide +kernel
theorem dX4_reads_113 : decode cX4_reads 113 = .ok (.iconst 1, 1) := by decide +kernel
theorem dX4_reads_114 : decode cX4_reads 114 = .ok (.goto 4, 3) := by decide +kernel
theorem dX4_reads_117 : decode cX4_reads 117 = .ok (.iconst 0, 1) := by decide +kernel
theorem dX4_reads_118 : decode cX4_reads 118 = .ok (.istore 4, 2) := by decide +kernel
theorem dX4_reads_120 : decode cX4_reads 120 = .ok (.aload_n 0, 1) := by decide +kernel
theorem dX4_reads_121 : decode cX4_reads 121 = .ok (.iload_n 2, 1) := by decide +kernel
theorem dX4_reads_122 : decode cX4_reads 122 = .ok (.putfield 195, 3) := by decide +kernel
theorem dX4_reads_125 : decode cX4_reads 125 = .ok (.aload_n 0, 1) := by decide +kernel
theorem dX4_reads_126 : decode cX4_reads 126 = .ok (.iload_n 3, 1) := by decide +kernel
theorem dX4_reads_127 : decode cX4_reads 127 = .ok (.putfield 202, 3) := by decide +kernel
theorem dX4_reads_130 : decode cX4_reads 130 = .ok (.iload 4, 2) := by decide +kernel
theorem dX4_reads_132 : decode cX4_reads 132 = .ok (.ireturn, 1) := by decide +kernel
theorem dX4_word_0 : decode cX4_word 0 = .ok (.aload_n 0, 1) := by decide +kernel
theorem dX4_word_1 : decode cX4_word 1 = .ok (.invokevirtual 198, 3) := by decide +kernel
theorem dX4_word_4 : decode cX4_word 4 = .ok (.istore_n 1, 1) := by decide +kernel
theorem dX4_word_5 : decode cX4_word 5 = .ok (.iconst 0, 1) := by decide +kernel
theorem dX4_word_6 : decode cX4_word 6 = .ok (.istore_n 2, 1) := by decide +kernel
theorem dX4_word_7 : decode cX4_word 7 = .ok (.aload_n 0, 1) := by decide +kernel
theorem dX4_word_8 : decode cX4_word 8 = .ok (.getfield 195, 3) := by decide +kernel
theorem dX4_word_11 : decode cX4_word 11 = .ok (.istore_n 3, 1) := by decide +kernel
theorem dX4_word_12 : decode cX4_word 12 = .ok (.iload_n 1, 1) := by decide +kernel
theorem dX4_word_13 : decode cX4_word 13 = .ok (.ifCond .lt 60, 3) := by decide +kernel
theorem dX4_word_16 : decode cX4_word 16 = .ok (.iload_n 3, 1) := by decide +kernel
theorem dX4_word_17 : decode cX4_word 17 = .ok (.aload_n 0, 1) := by decide +kernel
theorem dX4_word_18 : decode cX4_word 18 = .ok (.getfield 192, 3) := by decide +kernel
theorem dX4_word_21 : decode cX4_word 21 = .ok (.if_icmp .ge 52, 3) := by decide +kernel
theorem dX4_word_24 : decode cX4_word 24 = .ok (.iload_n 3, 1) := by decide +kernel
theorem dX4_word_25 : decode cX4_word 25 = .ok (.aload_n 0, 1) := by decide +kernel
theorem dX4_word_26 : decode cX4_word 26 = .ok (.getfield 195, 3) := by decide +kernel
theorem dX4_word_29 : decode cX4_word 29 = .ok (.iconst 5, 1) := by decide +kernel
theorem dX4_word_30 : decode cX4_word 30 = .ok (.iadd, 1) := by decide +kernel
theorem dX4_word_31 : decode cX4_word 31 = .ok (.if_icmp .ge 42, 3) := by decide +kernel
theorem dX4_word_34 : decode cX4_word 34 = .ok (.aload_n 0, 1) := by decide +kernel
theorem dX4_word_35 : decode cX4_word 35 = .ok (.getfield 19, 3) := by decide +kernel
theorem dX4_word_38 : decode cX4_word 38 = .ok (.iload_n 3, 1) := by decide +kernel
theorem dX4_word_39 : decode cX4_word 39 = .ok (.iaload, 1) := by decide +kernel
theorem dX4_word_40 : decode cX4_word 40 = .ok (.bipush 97, 2) := by decide +kernel
theorem dX4_word_42 : decode cX4_word 42 = .ok (.bipush 122, 2) := by decide +kernel
theorem dX4_word_44 : decode cX4_word 44 = .ok (.invokestatic 30, 3) := by decide +kernel
theorem dX4_word_47 : decode cX4_word 47 = .ok (.ifCond .eq 26, 3) := by decide +kernel
theorem dX4_word_50 : decode cX4_word 50 = .ok (.bipush 27, 2) := by decide +kernel
theorem dX4_word_52 : decode cX4_word 52 = .ok (.iload_n 2, 1) := by decide +kernel
theorem dX4_word_53 : decode cX4_word 53 = .ok (.imul, 1) := by decide +kernel
theorem dX4_word_54 : decode cX4_word 54 = .ok (.aload_n 0, 1) := by decide +kernel
theorem dX4_word_55 : decode cX4_word 55 = .ok (.getfield 19, 3) := by decide +kernel
theorem dX4_word_58 : decode cX4_word 58 = .ok (.iload_n 3, 1) := by decide +kernel
theorem dX4_word_59 : decode cX4_word 59 = .ok (.iaload, 1) := by decide +kernel
theorem dX4_word_60 : decode cX4_word 60 = .ok (.iadd, 1) := by decide +kernel
theorem dX4_word_61 : decode cX4_word 61 = .ok (.bipush 97, 2) := by decide +kernel
theorem dX4_word_63 : decode cX4_word 63 = .ok (.isub, 1) := by decide +kernel
theorem dX4_word_64 : decode cX4_word 64 = .ok (.iconst 1, 1) := by decide +kernel
theorem dX4_word_65 : decode cX4_word 65 = .ok (.iadd, 1) := by decide +kernel
theorem dX4_word_66 : decode cX4_word 66 = .ok (.istore_n 2, 1) := by decide +kernel
theorem dX4_word_67 : decode cX4_word 67 = .ok (.iinc 3 1, 3) := by decide +kernel
theorem dX4_word_70 : decode cX4_word 70 = .ok (.goto (-58), 3) := by decide +kernel
theorem dX4_word_73 : decode cX4_word 73 = .ok (.iload_n 2, 1) := by decide +kernel
theorem dX4_word_74 : decode cX4_word 74 = .ok (.ireturn, 1) := by decide +kernel
theorem dX4_spelt_0 : decode cX4_spelt 0 = .ok (.bipush 27, 2) := by decide +kernel
theorem dX4_spelt_2 : decode cX4_spelt 2 = .ok (.bipush 27, 2) := by decide +kernel
theorem dX4_spelt_4 : decode cX4_spelt 4 = .ok (.iload_n 0, 1) := by decide +kernel
theorem dX4_spelt_5 : decode cX4_spelt 5 = .ok (.bipush 96, 2) := by decide +kernel
theorem dX4_spelt_7 : decode cX4_spelt 7 = .ok (.isub, 1) := by decide +kernel
theorem dX4_spelt_8 : decode cX4_spelt 8 = .ok (.imul, 1) := by decide +kernel
theorem dX4_spelt_9 : decode cX4_spelt 9 = .ok (.iload_n 1, 1) := by decide +kernel
theorem dX4_spelt_10 : decode cX4_spelt 10 = .ok (.iadd, 1) := by decide +kernel
theorem dX4_spelt_11 : decode cX4_spelt 11 = .ok (.bipush 96, 2) := by decide +kernel
theorem dX4_spelt_13 : decode cX4_spelt 13 = .ok (.isub, 1) := by decide +kernel
theorem dX4_spelt_14 : decode cX4_spelt 14 = .ok (.imul, 1) := by decide +kernel
theorem dX4_spelt_15 : decode cX4_spelt 15 = .ok (.iload_n 2, 1) := by decide +kernel
theorem dX4_spelt_16 : decode cX4_spelt 16 = .ok (.iadd, 1) := by decide +kernel
theorem dX4_spelt_17 : decode cX4_spelt 17 = .ok (.bipush 96, 2) := by decide +kernel
theorem dX4_spelt_19 : decode cX4_spelt 19 = .ok (.isub, 1) := by decide +kernel
theorem dX4_spelt_20 : decode cX4_spelt 20 = .ok (.istore 4, 2) := by decide +kernel
theorem dX4_spelt_22 : decode cX4_spelt 22 = .ok (.iload_n 3, 1) := by decide +kernel
theorem dX4_spelt_23 : decode cX4_spelt 23 = .ok (.ifCond .ne 8, 3) := by decide +kernel
theorem dX4_spelt_26 : decode cX4_spelt 26 = .ok (.iload 4, 2) := by decide +kernel
theorem dX4_spelt_28 : decode cX4_spelt 28 = .ok (.goto 13, 3) := by decide +kernel
theorem dX4_spelt_31 : decode cX4_spelt 31 = .ok (.bipush 27, 2) := by decide +kernel
theorem dX4_spelt_33 : decode cX4_spelt 33 = .ok (.iload 4, 2) := by decide +kernel
theorem dX4_spelt_35 : decode cX4_spelt 35 = .ok (.imul, 1) := by decide +kernel
theorem dX4_spelt_36 : decode cX4_spelt 36 = .ok (.iload_n 3, 1) := by decide +kernel
theorem dX4_spelt_37 : decode cX4_spelt 37 = .ok (.iadd, 1) := by decide +kernel
theorem dX4_spelt_38 : decode cX4_spelt 38 = .ok (.bipush 96, 2) := by decide +kernel
theorem dX4_spelt_40 : decode cX4_spelt 40 = .ok (.isub, 1) := by decide +kernel
theorem dX4_spelt_41 : decode cX4_spelt 41 = .ok (.ireturn, 1) := by decide +kernel
theorem dX4_order_0 : decode cX4_order 0 = .ok (.aload_n 0, 1) := by decide +kernel
theorem dX4_order_1 : decode cX4_order 1 = .ok (.invokevirtual 205, 3) := by decide +kernel
theorem dX4_order_4 : decode cX4_order 4 = .ok (.istore_n 1, 1) := by decide +kernel
theorem dX4_order_5 : decode cX4_order 5 = .ok (.iload_n 1, 1) := by decide +kernel
theorem dX4_order_6 : decode cX4_order 6 = .ok (.bipush 114, 2) := by decide +kernel
theorem dX4_order_8 : decode cX4_order 8 = .ok (.bipush 101, 2) := by decide +kernel
theorem dX4_order_10 : decode cX4_order 10 = .ok (.bipush 110, 2) := by decide +kernel
theorem dX4_order_12 : decode cX4_order 12 = .ok (.bipush 116, 2) := by decide +kernel
theorem dX4_order_14 : decode cX4_order 14 = .ok (.invokestatic 208, 3) := by decide +kernel
theorem dX4_order_17 : decode cX4_order 17 = .ok (.if_icmp .ne 7, 3) := by decide +kernel
theorem dX4_order_20 : decode cX4_order 20 = .ok (.iconst 0, 1) := by decide +kernel
theorem dX4_order_21 : decode cX4_order 21 = .ok (.goto 79, 3) := by decide +kernel
theorem dX4_order_24 : decode cX4_order 24 = .ok (.iload_n 1, 1) := by decide +kernel
theorem dX4_order_25 : decode cX4_order 25 = .ok (.bipush 98, 2) := by decide +kernel
theorem dX4_order_27 : decode cX4_order 27 = .ok (.bipush 97, 2) := by decide +kernel
theorem dX4_order_29 : decode cX4_order 29 = .ok (.bipush 99, 2) := by decide +kernel
theorem dX4_order_31 : decode cX4_order 31 = .ok (.bipush 107, 2) := by decide +kernel
theorem dX4_order_33 : decode cX4_order 33 = .ok (.invokestatic 208, 3) := by decide +kernel
theorem dX4_order_36 : decode cX4_order 36 = .ok (.if_icmp .ne 7, 3) := by decide +kernel
theorem dX4_order_39 : decode cX4_order 39 = .ok (.iconst 1, 1) := by decide +kernel
theorem dX4_order_40 : decode cX4_order 40 = .ok (.goto 60, 3) := by decide +kernel
theorem dX4_order_43 : decode cX4_order 43 = .ok (.iload_n 1, 1) := by decide +kernel
theorem dX4_order_44 : decode cX4_order 44 = .ok (.bipush 98, 2) := by decide +kernel
theorem dX4_order_46 : decode cX4_order 46 = .ok (.bipush 117, 2) := by decide +kernel
theorem dX4_order_48 : decode cX4_order 48 = .ok (.bipush 121, 2) := by decide +kernel
theorem dX4_order_50 : decode cX4_order 50 = .ok (.iconst 0, 1) := by decide +kernel
theorem dX4_order_51 : decode cX4_order 51 = .ok (.invokestatic 208, 3) := by decide +kernel
theorem dX4_order_54 : decode cX4_order 54 = .ok (.if_icmp .ne 7, 3) := by decide +kernel
theorem dX4_order_57 : decode cX4_order 57 = .ok (.iconst 2, 1) := by decide +kernel
theorem dX4_order_58 : decode cX4_order 58 = .ok (.goto 42, 3) := by decide +kernel
theorem dX4_order_61 : decode cX4_order 61 = .ok (.iload_n 1, 1) := by decide +kernel
theorem dX4_order_62 : decode cX4_order 62 = .ok (.bipush 115, 2) := by decide +kernel
theorem dX4_order_64 : decode cX4_order 64 = .ok (.bipush 101, 2) := by decide +kernel
theorem dX4_order_66 : decode cX4_order 66 = .ok (.bipush 108, 2) := by decide +kernel
theorem dX4_order_68 : decode cX4_order 68 = .ok (.bipush 108, 2) := by decide +kernel
theorem dX4_order_70 : decode cX4_order 70 = .ok (.invokestatic 208, 3) := by decide +kernel
theorem dX4_order_73 : decode cX4_order 73 = .ok (.if_icmp .ne 7, 3) := by decide +kernel
theorem dX4_order_76 : decode cX4_order 76 = .ok (.iconst 3, 1) := by decide +kernel
theorem dX4_order_77 : decode cX4_order 77 = .ok (.goto 23, 3) := by decide +kernel
theorem dX4_order_80 : decode cX4_order 80 = .ok (.iload_n 1, 1) := by decide +kernel
theorem dX4_order_81 : decode cX4_order 81 = .ok (.bipush 119, 2) := by decide +kernel
theorem dX4_order_83 : decode cX4_order 83 = .ok (.bipush 97, 2) := by decide +kernel
theorem dX4_order_85 : decode cX4_order 85 = .ok (.bipush 105, 2) := by decide +kernel
theorem dX4_order_87 : decode cX4_order 87 = .ok (.bipush 116, 2) := by decide +kernel
theorem dX4_order_89 : decode cX4_order 89 = .ok (.invokestatic 208, 3) := by decide +kernel
theorem dX4_order_92 : decode cX4_order 92 = .ok (.if_icmp .ne 7, 3) := by decide +kernel
theorem dX4_order_95 : decode cX4_order 95 = .ok (.iconst 4, 1) := by decide +kernel
theorem dX4_order_96 : decode cX4_order 96 = .ok (.goto 4, 3) := by decide +kernel
theorem dX4_order_99 : decode cX4_order 99 = .ok (.iconst (-1), 1) := by decide +kernel
theorem dX4_order_100 : decode cX4_order 100 = .ok (.ireturn, 1) := by decide +kernel
theorem dX4_carries_0 : decode cX4_carries 0 = .ok (.iload_n 1, 1) := by decide +kernel
theorem dX4_carries_1 : decode cX4_carries 1 = .ok (.ifCond .ne 12, 3) := by decide +kernel
theorem dX4_carries_4 : decode cX4_carries 4 = .ok (.aload_n 0, 1) := by decide +kernel
theorem dX4_carries_5 : decode cX4_carries 5 = .ok (.iload_n 2, 1) := by decide +kernel
theorem dX4_carries_6 : decode cX4_carries 6 = .ok (.iload_n 3, 1) := by decide +kernel
theorem dX4_carries_7 : decode cX4_carries 7 = .ok (.invokevirtual 155, 3) := by decide +kernel
theorem dX4_carries_10 : decode cX4_carries 10 = .ok (.goto 49, 3) := by decide +kernel
theorem dX4_carries_13 : decode cX4_carries 13 = .ok (.iload_n 1, 1) := by decide +kernel
theorem dX4_carries_14 : decode cX4_carries 14 = .ok (.iconst 1, 1) := by decide +kernel
theorem dX4_carries_15 : decode cX4_carries 15 = .ok (.if_icmp .ne 12, 3) := by decide +kernel
theorem dX4_carries_18 : decode cX4_carries 18 = .ok (.aload_n 0, 1) := by decide +kernel
theorem dX4_carries_19 : decode cX4_carries 19 = .ok (.iload_n 2, 1) := by decide +kernel
theorem dX4_carries_20 : decode cX4_carries 20 = .ok (.iload_n 3, 1) := by decide +kernel
theorem dX4_carries_21 : decode cX4_carries 21 = .ok (.invokevirtual 167, 3) := by decide +kernel
theorem dX4_carries_24 : decode cX4_carries 24 = .ok (.goto 35, 3) := by decide +kernel
theorem dX4_carries_27 : decode cX4_carries 27 = .ok (.iload_n 1, 1) := by decide +kernel
theorem dX4_carries_28 : decode cX4_carries 28 = .ok (.iconst 2, 1) := by decide +kernel
theorem dX4_carries_29 : decode cX4_carries 29 = .ok (.if_icmp .ne 12, 3) := by decide +kernel
theorem dX4_carries_32 : decode cX4_carries 32 = .ok (.aload_n 0, 1) := by decide +kernel
theorem dX4_carries_33 : decode cX4_carries 33 = .ok (.iload_n 2, 1) := by decide +kernel
theorem dX4_carries_34 : decode cX4_carries 34 = .ok (.iload_n 3, 1) := by decide +kernel
theorem dX4_carries_35 : decode cX4_carries 35 = .ok (.invokevirtual 122, 3) := by decide +kernel
theorem dX4_carries_38 : decode cX4_carries 38 = .ok (.goto 21, 3) := by decide +kernel
theorem dX4_carries_41 : decode cX4_carries 41 = .ok (.iload_n 1, 1) := by decide +kernel
theorem dX4_carries_42 : decode cX4_carries 42 = .ok (.iconst 3, 1) := by decide +kernel
theorem dX4_carries_43 : decode cX4_carries 43 = .ok (.if_icmp .ne 11, 3) := by decide +kernel
theorem dX4_carries_46 : decode cX4_carries 46 = .ok (.aload_n 0, 1) := by decide +kernel
theorem dX4_carries_47 : decode cX4_carries 47 = .ok (.iload_n 2, 1) := by decide +kernel
theorem dX4_carries_48 : decode cX4_carries 48 = .ok (.invokevirtual 137, 3) := by decide +kernel
theorem dX4_carries_51 : decode cX4_carries 51 = .ok (.goto 8, 3) := by decide +kernel
theorem dX4_carries_54 : decode cX4_carries 54 = .ok (.aload_n 0, 1) := by decide +kernel
theorem dX4_carries_55 : decode cX4_carries 55 = .ok (.iload_n 2, 1) := by decide +kernel
theorem dX4_carries_56 : decode cX4_carries 56 = .ok (.invokevirtual 174, 3) := by decide +kernel
theorem dX4_carries_59 : decode cX4_carries 59 = .ok (.istore 4, 2) := by decide +kernel
theorem dX4_carries_61 : decode cX4_carries 61 = .ok (.iload 4, 2) := by decide +kernel
theorem dX4_carries_63 : decode cX4_carries 63 = .ok (.ifCond .eq 6, 3) := by decide +kernel
theorem dX4_carries_66 : decode cX4_carries 66 = .ok (.iload 4, 2) := by decide +kernel
theorem dX4_carries_68 : decode cX4_carries 68 = .ok (.ireturn, 1) := by decide +kernel
theorem dX4_carries_69 : decode cX4_carries 69 = .ok (.iload_n 1, 1) := by decide +kernel
theorem dX4_carries_70 : decode cX4_carries 70 = .ok (.ifCond .ne 12, 3) := by decide +kernel
theorem dX4_carries_73 : decode cX4_carries 73 = .ok (.aload_n 0, 1) := by decide +kernel
theorem dX4_carries_74 : decode cX4_carries 74 = .ok (.iload_n 2, 1) := by decide +kernel
theorem dX4_carries_75 : decode cX4_carries 75 = .ok (.iload_n 3, 1) := by decide +kernel
theorem dX4_carries_76 : decode cX4_carries 76 = .ok (.invokevirtual 158, 3) := by decide +kernel
theorem dX4_carries_79 : decode cX4_carries 79 = .ok (.goto 49, 3) := by decide +kernel
theorem dX4_carries_82 : decode cX4_carries 82 = .ok (.iload_n 1, 1) := by decide +kernel
theorem dX4_carries_83 : decode cX4_carries 83 = .ok (.iconst 1, 1) := by decide +kernel
theorem dX4_carries_84 : decode cX4_carries 84 = .ok (.if_icmp .ne 12, 3) := by decide +kernel
theorem dX4_carries_87 : decode cX4_carries 87 = .ok (.aload_n 0, 1) := by decide +kernel
theorem dX4_carries_88 : decode cX4_carries 88 = .ok (.iload_n 2, 1) := by decide +kernel
theorem dX4_carries_89 : decode cX4_carries 89 = .ok (.iload_n 3, 1) := by decide +kernel
theorem dX4_carries_90 : decode cX4_carries 90 = .ok (.invokevirtual 170, 3) := by decide +kernel
theorem dX4_carries_93 : decode cX4_carries 93 = .ok (.goto 35, 3) := by decide +kernel
theorem dX4_carries_96 : decode cX4_carries 96 = .ok (.iload_n 1, 1) := by decide +kernel
theorem dX4_carries_97 : decode cX4_carries 97 = .ok (.iconst 2, 1) := by decide +kernel
theorem dX4_carries_98 : decode cX4_carries 98 = .ok (.if_icmp .ne 12, 3) := by decide +kernel
theorem dX4_carries_101 : decode cX4_carries 101 = .ok (.aload_n 0, 1) := by decide +kernel
theorem dX4_carries_102 : decode cX4_carries 102 = .ok (.iload_n 2, 1) := by decide +kernel
theorem dX4_carries_103 : decode cX4_carries 103 = .ok (.iload_n 3, 1) := by decide +kernel
theorem dX4_carries_104 : decode cX4_carries 104 = .ok (.invokevirtual 125, 3) := by decide +kernel
theorem dX4_carries_107 : decode cX4_carries 107 = .ok (.goto 21, 3) := by decide +kernel
theorem dX4_carries_110 : decode cX4_carries 110 = .ok (.iload_n 1, 1) := by decide +kernel
theorem dX4_carries_111 : decode cX4_carries 111 = .ok (.iconst 3, 1) := by decide +kernel
theorem dX4_carries_112 : decode cX4_carries 112 = .ok (.if_icmp .ne 11, 3) := by decide +kernel
theorem dX4_carries_115 : decode cX4_carries 115 = .ok (.aload_n 0, 1) := by decide +kernel
theorem dX4_carries_116 : decode cX4_carries 116 = .ok (.iload_n 2, 1) := by decide +kernel
theorem dX4_carries_117 : decode cX4_carries 117 = .ok (.invokevirtual 140, 3) := by decide +kernel
theorem dX4_carries_120 : decode cX4_carries 120 = .ok (.goto 8, 3) := by decide +kernel
theorem dX4_carries_123 : decode cX4_carries 123 = .ok (.aload_n 0, 1) := by decide +kernel
theorem dX4_carries_124 : decode cX4_carries 124 = .ok (.iload_n 2, 1) := by decide +kernel
theorem dX4_carries_125 : decode cX4_carries 125 = .ok (.invokevirtual 177, 3) := by decide +kernel
theorem dX4_carries_128 : decode cX4_carries 128 = .ok (.ireturn, 1) := by decide +kernel
theorem dX4_readsOrder_0 : decode cX4_readsOrder 0 = .ok (.aload_n 0, 1) := by decide +kernel
theorem dX4_readsOrder_1 : decode cX4_readsOrder 1 = .ok (.invokevirtual 212, 3) := by decide +kernel
theorem dX4_readsOrder_4 : decode cX4_readsOrder 4 = .ok (.istore_n 2, 1) := by decide +kernel
theorem dX4_readsOrder_5 : decode cX4_readsOrder 5 = .ok (.iload_n 2, 1) := by decide +kernel
theorem dX4_readsOrder_6 : decode cX4_readsOrder 6 = .ok (.iconst (-1), 1) := by decide +kernel
theorem dX4_readsOrder_7 : decode cX4_readsOrder 7 = .ok (.if_icmp .ne 5, 3) := by decide +kernel
theorem dX4_readsOrder_10 : decode cX4_readsOrder 10 = .ok (.iconst 0, 1) := by decide +kernel
theorem dX4_readsOrder_11 : decode cX4_readsOrder 11 = .ok (.ireturn, 1) := by decide +kernel
theorem dX4_readsOrder_12 : decode cX4_readsOrder 12 = .ok (.aload_n 0, 1) := by decide +kernel
theorem dX4_readsOrder_13 : decode cX4_readsOrder 13 = .ok (.dup, 1) := by decide +kernel
theorem dX4_readsOrder_14 : decode cX4_readsOrder 14 = .ok (.getfield 195, 3) := by decide +kernel
theorem dX4_readsOrder_17 : decode cX4_readsOrder 17 = .ok (.iload_n 2, 1) := by decide +kernel
theorem dX4_readsOrder_18 : decode cX4_readsOrder 18 = .ok (.iconst 2, 1) := by decide +kernel
theorem dX4_readsOrder_19 : decode cX4_readsOrder 19 = .ok (.if_icmp .ne 7, 3) := by decide +kernel
theorem dX4_readsOrder_22 : decode cX4_readsOrder 22 = .ok (.iconst 3, 1) := by decide +kernel
theorem dX4_readsOrder_23 : decode cX4_readsOrder 23 = .ok (.goto 4, 3) := by decide +kernel
theorem dX4_readsOrder_26 : decode cX4_readsOrder 26 = .ok (.iconst 4, 1) := by decide +kernel
theorem dX4_readsOrder_27 : decode cX4_readsOrder 27 = .ok (.iadd, 1) := by decide +kernel
theorem dX4_readsOrder_28 : decode cX4_readsOrder 28 = .ok (.putfield 195, 3) := by decide +kernel
theorem dX4_readsOrder_31 : decode cX4_readsOrder 31 = .ok (.aload_n 0, 1) := by decide +kernel
theorem dX4_readsOrder_32 : decode cX4_readsOrder 32 = .ok (.invokevirtual 215, 3) := by decide +kernel
theorem dX4_readsOrder_35 : decode cX4_readsOrder 35 = .ok (.ifCond .ne 5, 3) := by decide +kernel
theorem dX4_readsOrder_38 : decode cX4_readsOrder 38 = .ok (.iconst 0, 1) := by decide +kernel
theorem dX4_readsOrder_39 : decode cX4_readsOrder 39 = .ok (.ireturn, 1) := by decide +kernel
theorem dX4_readsOrder_40 : decode cX4_readsOrder 40 = .ok (.aload_n 0, 1) := by decide +kernel
theorem dX4_readsOrder_41 : decode cX4_readsOrder 41 = .ok (.getfield 202, 3) := by decide +kernel
theorem dX4_readsOrder_44 : decode cX4_readsOrder 44 = .ok (.istore_n 3, 1) := by decide +kernel
theorem dX4_readsOrder_45 : decode cX4_readsOrder 45 = .ok (.iload_n 2, 1) := by decide +kernel
theorem dX4_readsOrder_46 : decode cX4_readsOrder 46 = .ok (.iconst 3, 1) := by decide +kernel
theorem dX4_readsOrder_47 : decode cX4_readsOrder 47 = .ok (.if_icmp .ge 12, 3) := by decide +kernel
theorem dX4_readsOrder_50 : decode cX4_readsOrder 50 = .ok (.aload_n 0, 1) := by decide +kernel
theorem dX4_readsOrder_51 : decode cX4_readsOrder 51 = .ok (.invokevirtual 215, 3) := by decide +kernel
theorem dX4_readsOrder_54 : decode cX4_readsOrder 54 = .ok (.ifCond .ne 5, 3) := by decide +kernel
theorem dX4_readsOrder_57 : decode cX4_readsOrder 57 = .ok (.iconst 0, 1) := by decide +kernel
theorem dX4_readsOrder_58 : decode cX4_readsOrder 58 = .ok (.ireturn, 1) := by decide +kernel
theorem dX4_readsOrder_59 : decode cX4_readsOrder 59 = .ok (.iload_n 1, 1) := by decide +kernel
theorem dX4_readsOrder_60 : decode cX4_readsOrder 60 = .ok (.ifCond .eq 53, 3) := by decide +kernel
theorem dX4_readsOrder_63 : decode cX4_readsOrder 63 = .ok (.aload_n 0, 1) := by decide +kernel
theorem dX4_readsOrder_64 : decode cX4_readsOrder 64 = .ok (.getfield 219, 3) := by decide +kernel
theorem dX4_readsOrder_67 : decode cX4_readsOrder 67 = .ok (.ifCond .eq 46, 3) := by decide +kernel
theorem dX4_readsOrder_70 : decode cX4_readsOrder 70 = .ok (.aload_n 0, 1) := by decide +kernel
theorem dX4_readsOrder_71 : decode cX4_readsOrder 71 = .ok (.aload_n 0, 1) := by decide +kernel
theorem dX4_readsOrder_72 : decode cX4_readsOrder 72 = .ok (.iload_n 2, 1) := by decide +kernel
theorem dX4_readsOrder_73 : decode cX4_readsOrder 73 = .ok (.iload_n 3, 1) := by decide +kernel
theorem dX4_readsOrder_74 : decode cX4_readsOrder 74 = .ok (.aload_n 0, 1) := by decide +kernel
theorem dX4_readsOrder_75 : decode cX4_readsOrder 75 = .ok (.getfield 202, 3) := by decide +kernel
theorem dX4_readsOrder_78 : decode cX4_readsOrder 78 = .ok (.invokevirtual 223, 3) := by decide +kernel
theorem dX4_readsOrder_81 : decode cX4_readsOrder 81 = .ok (.ifCond .lt 7, 3) := by decide +kernel
theorem dX4_readsOrder_84 : decode cX4_readsOrder 84 = .ok (.iconst 1, 1) := by decide +kernel
theorem dX4_readsOrder_85 : decode cX4_readsOrder 85 = .ok (.goto 4, 3) := by decide +kernel
theorem dX4_readsOrder_88 : decode cX4_readsOrder 88 = .ok (.iconst 0, 1) := by decide +kernel
theorem dX4_readsOrder_89 : decode cX4_readsOrder 89 = .ok (.putfield 219, 3) := by decide +kernel
theorem dX4_readsOrder_92 : decode cX4_readsOrder 92 = .ok (.aload_n 0, 1) := by decide +kernel
theorem dX4_readsOrder_93 : decode cX4_readsOrder 93 = .ok (.dup, 1) := by decide +kernel
theorem dX4_readsOrder_94 : decode cX4_readsOrder 94 = .ok (.getfield 226, 3) := by decide +kernel
theorem dX4_readsOrder_97 : decode cX4_readsOrder 97 = .ok (.aload_n 0, 1) := by decide +kernel
theorem dX4_readsOrder_98 : decode cX4_readsOrder 98 = .ok (.getfield 219, 3) := by decide +kernel
theorem dX4_readsOrder_101 : decode cX4_readsOrder 101 = .ok (.ifCond .eq 7, 3) := by decide +kernel
theorem dX4_readsOrder_104 : decode cX4_readsOrder 104 = .ok (.iconst 1, 1) := by decide +kernel
theorem dX4_readsOrder_105 : decode cX4_readsOrder 105 = .ok (.goto 4, 3) := by decide +kernel
theorem dX4_readsOrder_108 : decode cX4_readsOrder 108 = .ok (.iconst 0, 1) := by decide +kernel
theorem dX4_readsOrder_109 : decode cX4_readsOrder 109 = .ok (.iadd, 1) := by decide +kernel
theorem dX4_readsOrder_110 : decode cX4_readsOrder 110 = .ok (.putfield 226, 3) := by decide +kernel
theorem dX4_readsOrder_113 : decode cX4_readsOrder 113 = .ok (.iconst 1, 1) := by decide +kernel
theorem dX4_readsOrder_114 : decode cX4_readsOrder 114 = .ok (.ireturn, 1) := by decide +kernel
theorem dX4_readsText_0 : decode cX4_readsText 0 = .ok (.aload_n 0, 1) := by decide +kernel
theorem dX4_readsText_1 : decode cX4_readsText 1 = .ok (.iconst 0, 1) := by decide +kernel
theorem dX4_readsText_2 : decode cX4_readsText 2 = .ok (.putfield 195, 3) := by decide +kernel
theorem dX4_readsText_5 : decode cX4_readsText 5 = .ok (.aload_n 0, 1) := by decide +kernel
theorem dX4_readsText_6 : decode cX4_readsText 6 = .ok (.iconst 0, 1) := by decide +kernel
theorem dX4_readsText_7 : decode cX4_readsText 7 = .ok (.putfield 226, 3) := by decide +kernel
theorem dX4_readsText_10 : decode cX4_readsText 10 = .ok (.aload_n 0, 1) := by decide +kernel
theorem dX4_readsText_11 : decode cX4_readsText 11 = .ok (.iconst 1, 1) := by decide +kernel
theorem dX4_readsText_12 : decode cX4_readsText 12 = .ok (.putfield 219, 3) := by decide +kernel
theorem dX4_readsText_15 : decode cX4_readsText 15 = .ok (.aload_n 0, 1) := by decide +kernel
theorem dX4_readsText_16 : decode cX4_readsText 16 = .ok (.iload_n 1, 1) := by decide +kernel
theorem dX4_readsText_17 : decode cX4_readsText 17 = .ok (.invokevirtual 229, 3) := by decide +kernel
theorem dX4_readsText_20 : decode cX4_readsText 20 = .ok (.istore_n 2, 1) := by decide +kernel
theorem dX4_readsText_21 : decode cX4_readsText 21 = .ok (.aload_n 0, 1) := by decide +kernel
theorem dX4_readsText_22 : decode cX4_readsText 22 = .ok (.invokevirtual 198, 3) := by decide +kernel
theorem dX4_readsText_25 : decode cX4_readsText 25 = .ok (.istore_n 3, 1) := by decide +kernel
theorem dX4_readsText_26 : decode cX4_readsText 26 = .ok (.iload_n 2, 1) := by decide +kernel
theorem dX4_readsText_27 : decode cX4_readsText 27 = .ok (.ifCond .eq 48, 3) := by decide +kernel
theorem dX4_readsText_30 : decode cX4_readsText 30 = .ok (.iload_n 3, 1) := by decide +kernel
theorem dX4_readsText_31 : decode cX4_readsText 31 = .ok (.iconst (-1), 1) := by decide +kernel
theorem dX4_readsText_32 : decode cX4_readsText 32 = .ok (.if_icmp .eq 43, 3) := by decide +kernel
theorem dX4_readsText_35 : decode cX4_readsText 35 = .ok (.iload_n 3, 1) := by decide +kernel
theorem dX4_readsText_36 : decode cX4_readsText 36 = .ok (.bipush 59, 2) := by decide +kernel
theorem dX4_readsText_38 : decode cX4_readsText 38 = .ok (.if_icmp .ne 7, 3) := by decide +kernel
theorem dX4_readsText_41 : decode cX4_readsText 41 = .ok (.iconst 1, 1) := by decide +kernel
theorem dX4_readsText_42 : decode cX4_readsText 42 = .ok (.goto 4, 3) := by decide +kernel
theorem dX4_readsText_45 : decode cX4_readsText 45 = .ok (.iconst 0, 1) := by decide +kernel
theorem dX4_readsText_46 : decode cX4_readsText 46 = .ok (.istore_n 2, 1) := by decide +kernel
theorem dX4_readsText_47 : decode cX4_readsText 47 = .ok (.iload_n 2, 1) := by decide +kernel
theorem dX4_readsText_48 : decode cX4_readsText 48 = .ok (.ifCond .eq (-22), 3) := by decide +kernel
theorem dX4_readsText_51 : decode cX4_readsText 51 = .ok (.aload_n 0, 1) := by decide +kernel
theorem dX4_readsText_52 : decode cX4_readsText 52 = .ok (.dup, 1) := by decide +kernel
theorem dX4_readsText_53 : decode cX4_readsText 53 = .ok (.getfield 195, 3) := by decide +kernel
theorem dX4_readsText_56 : decode cX4_readsText 56 = .ok (.iconst 1, 1) := by decide +kernel
theorem dX4_readsText_57 : decode cX4_readsText 57 = .ok (.iadd, 1) := by decide +kernel
theorem dX4_readsText_58 : decode cX4_readsText 58 = .ok (.putfield 195, 3) := by decide +kernel
theorem dX4_readsText_61 : decode cX4_readsText 61 = .ok (.aload_n 0, 1) := by decide +kernel
theorem dX4_readsText_62 : decode cX4_readsText 62 = .ok (.iload_n 1, 1) := by decide +kernel
theorem dX4_readsText_63 : decode cX4_readsText 63 = .ok (.invokevirtual 229, 3) := by decide +kernel
theorem dX4_readsText_66 : decode cX4_readsText 66 = .ok (.istore_n 2, 1) := by decide +kernel
theorem dX4_readsText_67 : decode cX4_readsText 67 = .ok (.aload_n 0, 1) := by decide +kernel
theorem dX4_readsText_68 : decode cX4_readsText 68 = .ok (.invokevirtual 198, 3) := by decide +kernel
theorem dX4_readsText_71 : decode cX4_readsText 71 = .ok (.istore_n 3, 1) := by decide +kernel
theorem dX4_readsText_72 : decode cX4_readsText 72 = .ok (.goto (-46), 3) := by decide +kernel
theorem dX4_readsText_75 : decode cX4_readsText 75 = .ok (.iload_n 2, 1) := by decide +kernel
theorem dX4_readsText_76 : decode cX4_readsText 76 = .ok (.ireturn, 1) := by decide +kernel
theorem dX4_textFault_0 : decode cX4_textFault 0 = .ok (.aload_n 0, 1) := by decide +kernel
theorem dX4_textFault_1 : decode cX4_textFault 1 = .ok (.iconst 0, 1) := by decide +kernel
theorem dX4_textFault_2 : decode cX4_textFault 2 = .ok (.invokevirtual 233, 3) := by decide +kernel
theorem dX4_textFault_5 : decode cX4_textFault 5 = .ok (.ifCond .eq 7, 3) := by decide +kernel
theorem dX4_textFault_8 : decode cX4_textFault 8 = .ok (.iconst (-1), 1) := by decide +kernel
theorem dX4_textFault_9 : decode cX4_textFault 9 = .ok (.goto 7, 3) := by decide +kernel
theorem dX4_textFault_12 : decode cX4_textFault 12 = .ok (.aload_n 0, 1) := by decide +kernel
theorem dX4_textFault_13 : decode cX4_textFault 13 = .ok (.getfield 195, 3) := by decide +kernel
theorem dX4_textFault_16 : decode cX4_textFault 16 = .ok (.ireturn, 1) := by decide +kernel
theorem dX4_orders_0 : decode cX4_orders 0 = .ok (.aload_n 0, 1) := by decide +kernel
theorem dX4_orders_1 : decode cX4_orders 1 = .ok (.iconst 0, 1) := by decide +kernel
theorem dX4_orders_2 : decode cX4_orders 2 = .ok (.invokevirtual 233, 3) := by decide +kernel
theorem dX4_orders_5 : decode cX4_orders 5 = .ok (.ifCond .ne 6, 3) := by decide +kernel
theorem dX4_orders_8 : decode cX4_orders 8 = .ok (.bipush (-4), 2) := by decide +kernel
theorem dX4_orders_10 : decode cX4_orders 10 = .ok (.ireturn, 1) := by decide +kernel
theorem dX4_orders_11 : decode cX4_orders 11 = .ok (.aload_n 0, 1) := by decide +kernel
theorem dX4_orders_12 : decode cX4_orders 12 = .ok (.invokevirtual 62, 3) := by decide +kernel
theorem dX4_orders_15 : decode cX4_orders 15 = .ok (.aload_n 0, 1) := by decide +kernel
theorem dX4_orders_16 : decode cX4_orders 16 = .ok (.iconst 1, 1) := by decide +kernel
theorem dX4_orders_17 : decode cX4_orders 17 = .ok (.invokevirtual 233, 3) := by decide +kernel
theorem dX4_orders_20 : decode cX4_orders 20 = .ok (.istore_n 1, 1) := by decide +kernel
theorem dX4_orders_21 : decode cX4_orders 21 = .ok (.aload_n 0, 1) := by decide +kernel
theorem dX4_orders_22 : decode cX4_orders 22 = .ok (.getfield 226, 3) := by decide +kernel
theorem dX4_orders_25 : decode cX4_orders 25 = .ok (.ireturn, 1) := by decide +kernel
theorem dX4_note_0 : decode cX4_note 0 = .ok (.aload_n 0, 1) := by decide +kernel
theorem dX4_note_1 : decode cX4_note 1 = .ok (.ldc2_w 236, 3) := by decide +kernel
theorem dX4_note_4 : decode cX4_note 4 = .ok (.aload_n 0, 1) := by decide +kernel
theorem dX4_note_5 : decode cX4_note 5 = .ok (.getfield 238, 3) := by decide +kernel
theorem dX4_note_8 : decode cX4_note 8 = .ok (.lmul, 1) := by decide +kernel
theorem dX4_note_9 : decode cX4_note 9 = .ok (.iload_n 1, 1) := by decide +kernel
theorem dX4_note_10 : decode cX4_note 10 = .ok (.i2l, 1) := by decide +kernel
theorem dX4_note_11 : decode cX4_note 11 = .ok (.ladd, 1) := by decide +kernel
theorem dX4_note_12 : decode cX4_note 12 = .ok (.putfield 238, 3) := by decide +kernel
theorem dX4_note_15 : decode cX4_note 15 = .ok (.return_, 1) := by decide +kernel
theorem dX4_digest_0 : decode cX4_digest 0 = .ok (.aload_n 0, 1) := by decide +kernel
theorem dX4_digest_1 : decode cX4_digest 1 = .ok (.ldc2_w 242, 3) := by decide +kernel
theorem dX4_digest_4 : decode cX4_digest 4 = .ok (.putfield 238, 3) := by decide +kernel
theorem dX4_digest_7 : decode cX4_digest 7 = .ok (.iconst 0, 1) := by decide +kernel
theorem dX4_digest_8 : decode cX4_digest 8 = .ok (.istore_n 1, 1) := by decide +kernel
theorem dX4_digest_9 : decode cX4_digest 9 = .ok (.iload_n 1, 1) := by decide +kernel
theorem dX4_digest_10 : decode cX4_digest 10 = .ok (.bipush 14, 2) := by decide +kernel
theorem dX4_digest_12 : decode cX4_digest 12 = .ok (.if_icmp .ge 18, 3) := by decide +kernel
theorem dX4_digest_15 : decode cX4_digest 15 = .ok (.aload_n 0, 1) := by decide +kernel
theorem dX4_digest_16 : decode cX4_digest 16 = .ok (.aload_n 0, 1) := by decide +kernel
theorem dX4_digest_17 : decode cX4_digest 17 = .ok (.iload_n 1, 1) := by decide +kernel
theorem dX4_digest_18 : decode cX4_digest 18 = .ok (.invokevirtual 78, 3) := by decide +kernel
theorem dX4_digest_21 : decode cX4_digest 21 = .ok (.invokevirtual 244, 3) := by decide +kernel
theorem dX4_digest_24 : decode cX4_digest 24 = .ok (.iinc 1 1, 3) := by decide +kernel
theorem dX4_digest_27 : decode cX4_digest 27 = .ok (.goto (-18), 3) := by decide +kernel
theorem dX4_digest_30 : decode cX4_digest 30 = .ok (.iconst 0, 1) := by decide +kernel
theorem dX4_digest_31 : decode cX4_digest 31 = .ok (.istore_n 1, 1) := by decide +kernel
theorem dX4_digest_32 : decode cX4_digest 32 = .ok (.iload_n 1, 1) := by decide +kernel
theorem dX4_digest_33 : decode cX4_digest 33 = .ok (.aload_n 0, 1) := by decide +kernel
theorem dX4_digest_34 : decode cX4_digest 34 = .ok (.getfield 7, 3) := by decide +kernel
theorem dX4_digest_37 : decode cX4_digest 37 = .ok (.iconst 0, 1) := by decide +kernel
theorem dX4_digest_38 : decode cX4_digest 38 = .ok (.iaload, 1) := by decide +kernel
theorem dX4_digest_39 : decode cX4_digest 39 = .ok (.if_icmp .ge 33, 3) := by decide +kernel
theorem dX4_digest_42 : decode cX4_digest 42 = .ok (.iconst 0, 1) := by decide +kernel
theorem dX4_digest_43 : decode cX4_digest 43 = .ok (.istore_n 2, 1) := by decide +kernel
theorem dX4_digest_44 : decode cX4_digest 44 = .ok (.iload_n 2, 1) := by decide +kernel
theorem dX4_digest_45 : decode cX4_digest 45 = .ok (.bipush 7, 2) := by decide +kernel
theorem dX4_digest_47 : decode cX4_digest 47 = .ok (.if_icmp .ge 19, 3) := by decide +kernel
theorem dX4_digest_50 : decode cX4_digest 50 = .ok (.aload_n 0, 1) := by decide +kernel
theorem dX4_digest_51 : decode cX4_digest 51 = .ok (.aload_n 0, 1) := by decide +kernel
theorem dX4_digest_52 : decode cX4_digest 52 = .ok (.iload_n 1, 1) := by decide +kernel
theorem dX4_digest_53 : decode cX4_digest 53 = .ok (.iload_n 2, 1) := by decide +kernel
theorem dX4_digest_54 : decode cX4_digest 54 = .ok (.invokevirtual 90, 3) := by decide +kernel
theorem dX4_digest_57 : decode cX4_digest 57 = .ok (.invokevirtual 244, 3) := by decide +kernel
theorem dX4_digest_60 : decode cX4_digest 60 = .ok (.iinc 2 1, 3) := by decide +kernel
theorem dX4_digest_63 : decode cX4_digest 63 = .ok (.goto (-19), 3) := by decide +kernel
theorem dX4_digest_66 : decode cX4_digest 66 = .ok (.iinc 1 1, 3) := by decide +kernel
theorem dX4_digest_69 : decode cX4_digest 69 = .ok (.goto (-37), 3) := by decide +kernel
theorem dX4_digest_72 : decode cX4_digest 72 = .ok (.iconst 0, 1) := by decide +kernel
theorem dX4_digest_73 : decode cX4_digest 73 = .ok (.istore_n 1, 1) := by decide +kernel
theorem dX4_digest_74 : decode cX4_digest 74 = .ok (.iload_n 1, 1) := by decide +kernel
theorem dX4_digest_75 : decode cX4_digest 75 = .ok (.aload_n 0, 1) := by decide +kernel
theorem dX4_digest_76 : decode cX4_digest 76 = .ok (.getfield 7, 3) := by decide +kernel
theorem dX4_digest_79 : decode cX4_digest 79 = .ok (.iconst 2, 1) := by decide +kernel
theorem dX4_digest_80 : decode cX4_digest 80 = .ok (.iaload, 1) := by decide +kernel
theorem dX4_digest_81 : decode cX4_digest 81 = .ok (.if_icmp .ge 32, 3) := by decide +kernel
theorem dX4_digest_84 : decode cX4_digest 84 = .ok (.iconst 0, 1) := by decide +kernel
theorem dX4_digest_85 : decode cX4_digest 85 = .ok (.istore_n 2, 1) := by decide +kernel
theorem dX4_digest_86 : decode cX4_digest 86 = .ok (.iload_n 2, 1) := by decide +kernel
theorem dX4_digest_87 : decode cX4_digest 87 = .ok (.iconst 4, 1) := by decide +kernel
theorem dX4_digest_88 : decode cX4_digest 88 = .ok (.if_icmp .ge 19, 3) := by decide +kernel
theorem dX4_digest_91 : decode cX4_digest 91 = .ok (.aload_n 0, 1) := by decide +kernel
theorem dX4_digest_92 : decode cX4_digest 92 = .ok (.aload_n 0, 1) := by decide +kernel
theorem dX4_digest_93 : decode cX4_digest 93 = .ok (.iload_n 1, 1) := by decide +kernel
theorem dX4_digest_94 : decode cX4_digest 94 = .ok (.iload_n 2, 1) := by decide +kernel
theorem dX4_digest_95 : decode cX4_digest 95 = .ok (.invokevirtual 96, 3) := by decide +kernel
theorem dX4_digest_98 : decode cX4_digest 98 = .ok (.invokevirtual 244, 3) := by decide +kernel
theorem dX4_digest_101 : decode cX4_digest 101 = .ok (.iinc 2 1, 3) := by decide +kernel
theorem dX4_digest_104 : decode cX4_digest 104 = .ok (.goto (-18), 3) := by decide +kernel
theorem dX4_digest_107 : decode cX4_digest 107 = .ok (.iinc 1 1, 3) := by decide +kernel
theorem dX4_digest_110 : decode cX4_digest 110 = .ok (.goto (-36), 3) := by decide +kernel
theorem dX4_digest_113 : decode cX4_digest 113 = .ok (.iconst 0, 1) := by decide +kernel
theorem dX4_digest_114 : decode cX4_digest 114 = .ok (.istore_n 1, 1) := by decide +kernel
theorem dX4_digest_115 : decode cX4_digest 115 = .ok (.iload_n 1, 1) := by decide +kernel
theorem dX4_digest_116 : decode cX4_digest 116 = .ok (.aload_n 0, 1) := by decide +kernel
theorem dX4_digest_117 : decode cX4_digest 117 = .ok (.getfield 7, 3) := by decide +kernel
theorem dX4_digest_120 : decode cX4_digest 120 = .ok (.iconst 1, 1) := by decide +kernel
theorem dX4_digest_121 : decode cX4_digest 121 = .ok (.iaload, 1) := by decide +kernel
theorem dX4_digest_122 : decode cX4_digest 122 = .ok (.if_icmp .ge 33, 3) := by decide +kernel
theorem dX4_digest_125 : decode cX4_digest 125 = .ok (.iconst 0, 1) := by decide +kernel
theorem dX4_digest_126 : decode cX4_digest 126 = .ok (.istore_n 2, 1) := by decide +kernel
theorem dX4_digest_127 : decode cX4_digest 127 = .ok (.iload_n 2, 1) := by decide +kernel
theorem dX4_digest_128 : decode cX4_digest 128 = .ok (.bipush 11, 2) := by decide +kernel
theorem dX4_digest_130 : decode cX4_digest 130 = .ok (.if_icmp .ge 19, 3) := by decide +kernel
theorem dX4_digest_133 : decode cX4_digest 133 = .ok (.aload_n 0, 1) := by decide +kernel
theorem dX4_digest_134 : decode cX4_digest 134 = .ok (.aload_n 0, 1) := by decide +kernel
theorem dX4_digest_135 : decode cX4_digest 135 = .ok (.iload_n 1, 1) := by decide +kernel
theorem dX4_digest_136 : decode cX4_digest 136 = .ok (.iload_n 2, 1) := by decide +kernel
theorem dX4_digest_137 : decode cX4_digest 137 = .ok (.invokevirtual 108, 3) := by decide +kernel
theorem dX4_digest_140 : decode cX4_digest 140 = .ok (.invokevirtual 244, 3) := by decide +kernel
theorem dX4_digest_143 : decode cX4_digest 143 = .ok (.iinc 2 1, 3) := by decide +kernel
theorem dX4_digest_146 : decode cX4_digest 146 = .ok (.goto (-19), 3) := by decide +kernel
theorem dX4_digest_149 : decode cX4_digest 149 = .ok (.iinc 1 1, 3) := by decide +kernel
theorem dX4_digest_152 : decode cX4_digest 152 = .ok (.goto (-37), 3) := by decide +kernel
theorem dX4_digest_155 : decode cX4_digest 155 = .ok (.iconst 0, 1) := by decide +kernel
theorem dX4_digest_156 : decode cX4_digest 156 = .ok (.istore_n 1, 1) := by decide +kernel
theorem dX4_digest_157 : decode cX4_digest 157 = .ok (.iload_n 1, 1) := by decide +kernel
theorem dX4_digest_158 : decode cX4_digest 158 = .ok (.bipush 8, 2) := by decide +kernel
theorem dX4_digest_160 : decode cX4_digest 160 = .ok (.if_icmp .ge 18, 3) := by decide +kernel
theorem dX4_digest_163 : decode cX4_digest 163 = .ok (.aload_n 0, 1) := by decide +kernel
theorem dX4_digest_164 : decode cX4_digest 164 = .ok (.aload_n 0, 1) := by decide +kernel
theorem dX4_digest_165 : decode cX4_digest 165 = .ok (.iload_n 1, 1) := by decide +kernel
theorem dX4_digest_166 : decode cX4_digest 166 = .ok (.invokevirtual 112, 3) := by decide +kernel
theorem dX4_digest_169 : decode cX4_digest 169 = .ok (.invokevirtual 244, 3) := by decide +kernel
theorem dX4_digest_172 : decode cX4_digest 172 = .ok (.iinc 1 1, 3) := by decide +kernel
theorem dX4_digest_175 : decode cX4_digest 175 = .ok (.goto (-18), 3) := by decide +kernel
theorem dX4_digest_178 : decode cX4_digest 178 = .ok (.iconst 0, 1) := by decide +kernel
theorem dX4_digest_179 : decode cX4_digest 179 = .ok (.istore_n 1, 1) := by decide +kernel
theorem dX4_digest_180 : decode cX4_digest 180 = .ok (.iload_n 1, 1) := by decide +kernel
theorem dX4_digest_181 : decode cX4_digest 181 = .ok (.bipush 8, 2) := by decide +kernel
theorem dX4_digest_183 : decode cX4_digest 183 = .ok (.if_icmp .ge 32, 3) := by decide +kernel
theorem dX4_digest_186 : decode cX4_digest 186 = .ok (.iconst 0, 1) := by decide +kernel
theorem dX4_digest_187 : decode cX4_digest 187 = .ok (.istore_n 2, 1) := by decide +kernel
theorem dX4_digest_188 : decode cX4_digest 188 = .ok (.iload_n 2, 1) := by decide +kernel
theorem dX4_digest_189 : decode cX4_digest 189 = .ok (.iconst 3, 1) := by decide +kernel
theorem dX4_digest_190 : decode cX4_digest 190 = .ok (.if_icmp .ge 19, 3) := by decide +kernel
theorem dX4_digest_193 : decode cX4_digest 193 = .ok (.aload_n 0, 1) := by decide +kernel
theorem dX4_digest_194 : decode cX4_digest 194 = .ok (.aload_n 0, 1) := by decide +kernel
theorem dX4_digest_195 : decode cX4_digest 195 = .ok (.iload_n 1, 1) := by decide +kernel
theorem dX4_digest_196 : decode cX4_digest 196 = .ok (.iload_n 2, 1) := by decide +kernel
theorem dX4_digest_197 : decode cX4_digest 197 = .ok (.invokevirtual 180, 3) := by decide +kernel
theorem dX4_digest_200 : decode cX4_digest 200 = .ok (.invokevirtual 244, 3) := by decide +kernel
theorem dX4_digest_203 : decode cX4_digest 203 = .ok (.iinc 2 1, 3) := by decide +kernel
theorem dX4_digest_206 : decode cX4_digest 206 = .ok (.goto (-18), 3) := by decide +kernel
theorem dX4_digest_209 : decode cX4_digest 209 = .ok (.iinc 1 1, 3) := by decide +kernel
theorem dX4_digest_212 : decode cX4_digest 212 = .ok (.goto (-32), 3) := by decide +kernel
theorem dX4_digest_215 : decode cX4_digest 215 = .ok (.aload_n 0, 1) := by decide +kernel
theorem dX4_digest_216 : decode cX4_digest 216 = .ok (.getfield 238, 3) := by decide +kernel
theorem dX4_digest_219 : decode cX4_digest 219 = .ok (.lreturn, 1) := by decide +kernel
theorem dJ9_max_7cf53_0 : decode cJ9_max_7cf53 0 = .ok (.iload_n 0, 1) := by decide +kernel
theorem dJ9_max_7cf53_1 : decode cJ9_max_7cf53 1 = .ok (.iload_n 1, 1) := by decide +kernel
theorem dJ9_max_7cf53_2 : decode cJ9_max_7cf53 2 = .ok (.if_icmp .lt 7, 3) := by decide +kernel
theorem dJ9_max_7cf53_5 : decode cJ9_max_7cf53 5 = .ok (.iload_n 0, 1) := by decide +kernel
theorem dJ9_max_7cf53_6 : decode cJ9_max_7cf53 6 = .ok (.goto 4, 3) := by decide +kernel
theorem dJ9_max_7cf53_9 : decode cJ9_max_7cf53 9 = .ok (.iload_n 1, 1) := by decide +kernel
theorem dJ9_max_7cf53_10 : decode cJ9_max_7cf53 10 = .ok (.ireturn, 1) := by decide +kernel
theorem dJ9_min_7cf53_0 : decode cJ9_min_7cf53 0 = .ok (.iload_n 0, 1) := by decide +kernel
theorem dJ9_min_7cf53_1 : decode cJ9_min_7cf53 1 = .ok (.iload_n 1, 1) := by decide +kernel
theorem dJ9_min_7cf53_2 : decode cJ9_min_7cf53 2 = .ok (.if_icmp .gt 7, 3) := by decide +kernel
theorem dJ9_min_7cf53_5 : decode cJ9_min_7cf53 5 = .ok (.iload_n 0, 1) := by decide +kernel
theorem dJ9_min_7cf53_6 : decode cJ9_min_7cf53 6 = .ok (.goto 4, 3) := by decide +kernel
theorem dJ9_min_7cf53_9 : decode cJ9_min_7cf53 9 = .ok (.iload_n 1, 1) := by decide +kernel
theorem dJ9_min_7cf53_10 : decode cJ9_min_7cf53 10 = .ok (.ireturn, 1) := by decide +kernel
theorem dJ0_length_8abf5_0 : decode cJ0_length_8abf5 0 = .ok (.aload_n 0, 1) := by decide +kernel
theorem dJ0_length_8abf5_1 : decode cJ0_length_8abf5 1 = .ok (.getfield 9, 3) := by decide +kernel
theorem dJ0_length_8abf5_4 : decode cJ0_length_8abf5 4 = .ok (.arraylength, 1) := by decide +kernel
theorem dJ0_length_8abf5_5 : decode cJ0_length_8abf5 5 = .ok (.aload_n 0, 1) := by decide +kernel
theorem dJ0_length_8abf5_6 : decode cJ0_length_8abf5 6 = .ok (.invokevirtual 335, 3) := by decide +kernel
theorem dJ0_length_8abf5_9 : decode cJ0_length_8abf5 9 = .ok (.ishr, 1) := by decide +kernel
theorem dJ0_length_8abf5_10 : decode cJ0_length_8abf5 10 = .ok (.ireturn, 1) := by decide +kernel
theorem dJ0_charAt_5068e_0 : decode cJ0_charAt_5068e 0 = .ok (.aload_n 0, 1) := by decide +kernel
theorem dJ0_charAt_5068e_1 : decode cJ0_charAt_5068e 1 = .ok (.invokevirtual 492, 3) := by decide +kernel
theorem dJ0_charAt_5068e_4 : decode cJ0_charAt_5068e 4 = .ok (.ifCond .eq 12, 3) := by decide +kernel
theorem dJ0_charAt_5068e_7 : decode cJ0_charAt_5068e 7 = .ok (.aload_n 0, 1) := by decide +kernel
theorem dJ0_charAt_5068e_8 : decode cJ0_charAt_5068e 8 = .ok (.getfield 9, 3) := by decide +kernel
theorem dJ0_charAt_5068e_11 : decode cJ0_charAt_5068e 11 = .ok (.iload_n 1, 1) := by decide +kernel
theorem dJ0_charAt_5068e_12 : decode cJ0_charAt_5068e 12 = .ok (.invokestatic 495, 3) := by decide +kernel
theorem dJ0_charAt_5068e_15 : decode cJ0_charAt_5068e 15 = .ok (.ireturn, 1) := by decide +kernel
theorem dJ0_charAt_5068e_16 : decode cJ0_charAt_5068e 16 = .ok (.aload_n 0, 1) := by decide +kernel
theorem dJ0_charAt_5068e_17 : decode cJ0_charAt_5068e 17 = .ok (.getfield 9, 3) := by decide +kernel
theorem dJ0_charAt_5068e_20 : decode cJ0_charAt_5068e 20 = .ok (.iload_n 1, 1) := by decide +kernel
theorem dJ0_charAt_5068e_21 : decode cJ0_charAt_5068e 21 = .ok (.invokestatic 498, 3) := by decide +kernel
theorem dJ0_charAt_5068e_24 : decode cJ0_charAt_5068e 24 = .ok (.ireturn, 1) := by decide +kernel
theorem dJ0_coder_7d493_0 : decode cJ0_coder_7d493 0 = .ok (.getstatic 38, 3) := by decide +kernel
theorem dJ0_coder_7d493_3 : decode cJ0_coder_7d493 3 = .ok (.ifCond .eq 10, 3) := by decide +kernel
theorem dJ0_coder_7d493_6 : decode cJ0_coder_7d493 6 = .ok (.aload_n 0, 1) := by decide +kernel
theorem dJ0_coder_7d493_7 : decode cJ0_coder_7d493 7 = .ok (.getfield 15, 3) := by decide +kernel
theorem dJ0_coder_7d493_10 : decode cJ0_coder_7d493 10 = .ok (.goto 4, 3) := by decide +kernel
theorem dJ0_coder_7d493_13 : decode cJ0_coder_7d493 13 = .ok (.iconst 1, 1) := by decide +kernel
theorem dJ0_coder_7d493_14 : decode cJ0_coder_7d493 14 = .ok (.ireturn, 1) := by decide +kernel
theorem dJ0_isLatin1_aae02_0 : decode cJ0_isLatin1_aae02 0 = .ok (.getstatic 38, 3) := by decide +kernel
theorem dJ0_isLatin1_aae02_3 : decode cJ0_isLatin1_aae02 3 = .ok (.ifCond .eq 14, 3) := by decide +kernel
theorem dJ0_isLatin1_aae02_6 : decode cJ0_isLatin1_aae02 6 = .ok (.aload_n 0, 1) := by decide +kernel
theorem dJ0_isLatin1_aae02_7 : decode cJ0_isLatin1_aae02 7 = .ok (.getfield 15, 3) := by decide +kernel
theorem dJ0_isLatin1_aae02_10 : decode cJ0_isLatin1_aae02 10 = .ok (.ifCond .ne 7, 3) := by decide +kernel
theorem dJ0_isLatin1_aae02_13 : decode cJ0_isLatin1_aae02 13 = .ok (.iconst 1, 1) := by decide +kernel
theorem dJ0_isLatin1_aae02_14 : decode cJ0_isLatin1_aae02 14 = .ok (.goto 4, 3) := by decide +kernel
theorem dJ0_isLatin1_aae02_17 : decode cJ0_isLatin1_aae02 17 = .ok (.iconst 0, 1) := by decide +kernel
theorem dJ0_isLatin1_aae02_18 : decode cJ0_isLatin1_aae02 18 = .ok (.ireturn, 1) := by decide +kernel
theorem dJ0_checkIndex_df160_0 : decode cJ0_checkIndex_df160 0 = .ok (.iload_n 0, 1) := by decide +kernel
theorem dJ0_checkIndex_df160_1 : decode cJ0_checkIndex_df160 1 = .ok (.iload_n 1, 1) := by decide +kernel
theorem dJ0_checkIndex_df160_2 : decode cJ0_checkIndex_df160 2 = .ok (.getstatic 1053, 3) := by decide +kernel
theorem dJ0_checkIndex_df160_5 : decode cJ0_checkIndex_df160 5 = .ok (.invokestatic 1059, 3) := by decide +kernel
theorem dJ0_checkIndex_df160_8 : decode cJ0_checkIndex_df160 8 = .ok (.pop, 1) := by decide +kernel
theorem dJ0_checkIndex_df160_9 : decode cJ0_checkIndex_df160 9 = .ok (.return_, 1) := by decide +kernel
theorem dJ1_charAt_3b067_0 : decode cJ1_charAt_3b067 0 = .ok (.iload_n 1, 1) := by decide +kernel
theorem dJ1_charAt_3b067_1 : decode cJ1_charAt_3b067 1 = .ok (.aload_n 0, 1) := by decide +kernel
theorem dJ1_charAt_3b067_2 : decode cJ1_charAt_3b067 2 = .ok (.arraylength, 1) := by decide +kernel
theorem dJ1_charAt_3b067_3 : decode cJ1_charAt_3b067 3 = .ok (.invokestatic 9, 3) := by decide +kernel
theorem dJ1_charAt_3b067_6 : decode cJ1_charAt_3b067 6 = .ok (.aload_n 0, 1) := by decide +kernel
theorem dJ1_charAt_3b067_7 : decode cJ1_charAt_3b067 7 = .ok (.iload_n 1, 1) := by decide +kernel
theorem dJ1_charAt_3b067_8 : decode cJ1_charAt_3b067 8 = .ok (.baload, 1) := by decide +kernel
theorem dJ1_charAt_3b067_9 : decode cJ1_charAt_3b067 9 = .ok (.sipush 255, 3) := by decide +kernel
theorem dJ1_charAt_3b067_12 : decode cJ1_charAt_3b067 12 = .ok (.iand, 1) := by decide +kernel
theorem dJ1_charAt_3b067_13 : decode cJ1_charAt_3b067 13 = .ok (.i2c, 1) := by decide +kernel
theorem dJ1_charAt_3b067_14 : decode cJ1_charAt_3b067 14 = .ok (.ireturn, 1) := by decide +kernel
theorem dJ2_getChar_3b067_0 : decode cJ2_getChar_3b067 0 = .ok (.getstatic 44, 3) := by decide +kernel
theorem dJ2_getChar_3b067_3 : decode cJ2_getChar_3b067 3 = .ok (.ifCond .ne 25, 3) := by decide +kernel
theorem dJ2_getChar_3b067_6 : decode cJ2_getChar_3b067 6 = .ok (.iload_n 1, 1) := by decide +kernel
theorem dJ2_getChar_3b067_7 : decode cJ2_getChar_3b067 7 = .ok (.ifCond .lt 11, 3) := by decide +kernel
theorem dJ2_getChar_3b067_10 : decode cJ2_getChar_3b067 10 = .ok (.iload_n 1, 1) := by decide +kernel
theorem dJ2_getChar_3b067_11 : decode cJ2_getChar_3b067 11 = .ok (.aload_n 0, 1) := by decide +kernel
theorem dJ2_getChar_3b067_12 : decode cJ2_getChar_3b067 12 = .ok (.invokestatic 48, 3) := by decide +kernel
theorem dJ2_getChar_3b067_15 : decode cJ2_getChar_3b067 15 = .ok (.if_icmp .lt 13, 3) := by decide +kernel
theorem dJ2_getChar_3b067_18 : decode cJ2_getChar_3b067 18 = .ok (.new 52, 3) := by decide +kernel
theorem dJ2_getChar_3b067_21 : decode cJ2_getChar_3b067 21 = .ok (.dup, 1) := by decide +kernel
theorem dJ2_getChar_3b067_22 : decode cJ2_getChar_3b067 22 = .ok (.ldc 54, 2) := by decide +kernel
theorem dJ2_getChar_3b067_24 : decode cJ2_getChar_3b067 24 = .ok (.invokespecial 56, 3) := by decide +kernel
theorem dJ2_getChar_3b067_27 : decode cJ2_getChar_3b067 27 = .ok (.athrow, 1) := by decide +kernel
theorem dJ2_getChar_3b067_28 : decode cJ2_getChar_3b067 28 = .ok (.iload_n 1, 1) := by decide +kernel
theorem dJ2_getChar_3b067_29 : decode cJ2_getChar_3b067 29 = .ok (.iconst 1, 1) := by decide +kernel
theorem dJ2_getChar_3b067_30 : decode cJ2_getChar_3b067 30 = .ok (.ishl, 1) := by decide +kernel
theorem dJ2_getChar_3b067_31 : decode cJ2_getChar_3b067 31 = .ok (.istore_n 1, 1) := by decide +kernel
theorem dJ2_getChar_3b067_32 : decode cJ2_getChar_3b067 32 = .ok (.aload_n 0, 1) := by decide +kernel
theorem dJ2_getChar_3b067_33 : decode cJ2_getChar_3b067 33 = .ok (.iload_n 1, 1) := by decide +kernel
theorem dJ2_getChar_3b067_34 : decode cJ2_getChar_3b067 34 = .ok (.iinc 1 1, 3) := by decide +kernel
theorem dJ2_getChar_3b067_37 : decode cJ2_getChar_3b067 37 = .ok (.baload, 1) := by decide +kernel
theorem dJ2_getChar_3b067_38 : decode cJ2_getChar_3b067 38 = .ok (.sipush 255, 3) := by decide +kernel
theorem dJ2_getChar_3b067_41 : decode cJ2_getChar_3b067 41 = .ok (.iand, 1) := by decide +kernel
theorem dJ2_getChar_3b067_42 : decode cJ2_getChar_3b067 42 = .ok (.getstatic 59, 3) := by decide +kernel
theorem dJ2_getChar_3b067_45 : decode cJ2_getChar_3b067 45 = .ok (.ishl, 1) := by decide +kernel
theorem dJ2_getChar_3b067_46 : decode cJ2_getChar_3b067 46 = .ok (.aload_n 0, 1) := by decide +kernel
theorem dJ2_getChar_3b067_47 : decode cJ2_getChar_3b067 47 = .ok (.iload_n 1, 1) := by decide +kernel
theorem dJ2_getChar_3b067_48 : decode cJ2_getChar_3b067 48 = .ok (.baload, 1) := by decide +kernel
theorem dJ2_getChar_3b067_49 : decode cJ2_getChar_3b067 49 = .ok (.sipush 255, 3) := by decide +kernel
theorem dJ2_getChar_3b067_52 : decode cJ2_getChar_3b067 52 = .ok (.iand, 1) := by decide +kernel
theorem dJ2_getChar_3b067_53 : decode cJ2_getChar_3b067 53 = .ok (.getstatic 63, 3) := by decide +kernel
theorem dJ2_getChar_3b067_56 : decode cJ2_getChar_3b067 56 = .ok (.ishl, 1) := by decide +kernel
theorem dJ2_getChar_3b067_57 : decode cJ2_getChar_3b067 57 = .ok (.ior, 1) := by decide +kernel
theorem dJ2_getChar_3b067_58 : decode cJ2_getChar_3b067 58 = .ok (.i2c, 1) := by decide +kernel
theorem dJ2_getChar_3b067_59 : decode cJ2_getChar_3b067 59 = .ok (.ireturn, 1) := by decide +kernel
theorem dJ2_length_9d52b_0 : decode cJ2_length_9d52b 0 = .ok (.aload_n 0, 1) := by decide +kernel
theorem dJ2_length_9d52b_1 : decode cJ2_length_9d52b 1 = .ok (.arraylength, 1) := by decide +kernel
theorem dJ2_length_9d52b_2 : decode cJ2_length_9d52b 2 = .ok (.iconst 1, 1) := by decide +kernel
theorem dJ2_length_9d52b_3 : decode cJ2_length_9d52b 3 = .ok (.ishr, 1) := by decide +kernel
theorem dJ2_length_9d52b_4 : decode cJ2_length_9d52b 4 = .ok (.ireturn, 1) := by decide +kernel
theorem dJ2_charAt_3b067_0 : decode cJ2_charAt_3b067 0 = .ok (.iload_n 1, 1) := by decide +kernel
theorem dJ2_charAt_3b067_1 : decode cJ2_charAt_3b067 1 = .ok (.aload_n 0, 1) := by decide +kernel
theorem dJ2_charAt_3b067_2 : decode cJ2_charAt_3b067 2 = .ok (.invokestatic 67, 3) := by decide +kernel
theorem dJ2_charAt_3b067_5 : decode cJ2_charAt_3b067 5 = .ok (.aload_n 0, 1) := by decide +kernel
theorem dJ2_charAt_3b067_6 : decode cJ2_charAt_3b067 6 = .ok (.iload_n 1, 1) := by decide +kernel
theorem dJ2_charAt_3b067_7 : decode cJ2_charAt_3b067 7 = .ok (.invokestatic 71, 3) := by decide +kernel
theorem dJ2_charAt_3b067_10 : decode cJ2_charAt_3b067 10 = .ok (.ireturn, 1) := by decide +kernel
theorem dJ2_checkIndex_2214a_0 : decode cJ2_checkIndex_2214a 0 = .ok (.iload_n 0, 1) := by decide +kernel
theorem dJ2_checkIndex_2214a_1 : decode cJ2_checkIndex_2214a 1 = .ok (.aload_n 1, 1) := by decide +kernel
theorem dJ2_checkIndex_2214a_2 : decode cJ2_checkIndex_2214a 2 = .ok (.invokestatic 48, 3) := by decide +kernel
theorem dJ2_checkIndex_2214a_5 : decode cJ2_checkIndex_2214a 5 = .ok (.invokestatic 414, 3) := by decide +kernel
theorem dJ2_checkIndex_2214a_8 : decode cJ2_checkIndex_2214a 8 = .ok (.return_, 1) := by decide +kernel
theorem dJ3_checkIndex_8e157_0 : decode cJ3_checkIndex_8e157 0 = .ok (.iload_n 0, 1) := by decide +kernel
theorem dJ3_checkIndex_8e157_1 : decode cJ3_checkIndex_8e157 1 = .ok (.ifCond .lt 8, 3) := by decide +kernel
theorem dJ3_checkIndex_8e157_4 : decode cJ3_checkIndex_8e157 4 = .ok (.iload_n 0, 1) := by decide +kernel
theorem dJ3_checkIndex_8e157_5 : decode cJ3_checkIndex_8e157 5 = .ok (.iload_n 1, 1) := by decide +kernel
theorem dJ3_checkIndex_8e157_6 : decode cJ3_checkIndex_8e157 6 = .ok (.if_icmp .lt 10, 3) := by decide +kernel
theorem dJ3_checkIndex_8e157_9 : decode cJ3_checkIndex_8e157 9 = .ok (.aload_n 2, 1) := by decide +kernel
theorem dJ3_checkIndex_8e157_10 : decode cJ3_checkIndex_8e157 10 = .ok (.iload_n 0, 1) := by decide +kernel
theorem dJ3_checkIndex_8e157_11 : decode cJ3_checkIndex_8e157 11 = .ok (.iload_n 1, 1) := by decide +kernel
theorem dJ3_checkIndex_8e157_12 : decode cJ3_checkIndex_8e157 12 = .ok (.invokestatic 95, 3) := by decide +kernel
theorem dJ3_checkIndex_8e157_15 : decode cJ3_checkIndex_8e157 15 = .ok (.athrow, 1) := by decide +kernel
theorem dJ3_checkIndex_8e157_16 : decode cJ3_checkIndex_8e157 16 = .ok (.iload_n 0, 1) := by decide +kernel
theorem dJ3_checkIndex_8e157_17 : decode cJ3_checkIndex_8e157 17 = .ok (.ireturn, 1) := by decide +kernel
theorem dL_law_0 : decode cL_law 0 = .ok (.new 7, 3) := by decide +kernel
theorem dL_law_3 : decode cL_law 3 = .ok (.dup, 1) := by decide +kernel
theorem dL_law_4 : decode cL_law 4 = .ok (.invokespecial 9, 3) := by decide +kernel
theorem dL_law_7 : decode cL_law 7 = .ok (.astore_n 1, 1) := by decide +kernel
theorem dL_law_8 : decode cL_law 8 = .ok (.new 10, 3) := by decide +kernel
theorem dL_law_11 : decode cL_law 11 = .ok (.dup, 1) := by decide +kernel
theorem dL_law_12 : decode cL_law 12 = .ok (.invokespecial 12, 3) := by decide +kernel
theorem dL_law_15 : decode cL_law 15 = .ok (.astore_n 2, 1) := by decide +kernel
theorem dL_law_16 : decode cL_law 16 = .ok (.iconst 0, 1) := by decide +kernel
theorem dL_law_17 : decode cL_law 17 = .ok (.istore_n 3, 1) := by decide +kernel
theorem dL_law_18 : decode cL_law 18 = .ok (.iload_n 3, 1) := by decide +kernel
theorem dL_law_19 : decode cL_law 19 = .ok (.aload_n 0, 1) := by decide +kernel
theorem dL_law_20 : decode cL_law 20 = .ok (.arraylength, 1) := by decide +kernel
theorem dL_law_21 : decode cL_law 21 = .ok (.iconst 4, 1) := by decide +kernel
theorem dL_law_22 : decode cL_law 22 = .ok (.isub, 1) := by decide +kernel
theorem dL_law_23 : decode cL_law 23 = .ok (.if_icmp .gt 1019, 3) := by decide +kernel
theorem dL_law_26 : decode cL_law 26 = .ok (.aload_n 0, 1) := by decide +kernel
theorem dL_law_27 : decode cL_law 27 = .ok (.iload_n 3, 1) := by decide +kernel
theorem dL_law_28 : decode cL_law 28 = .ok (.iaload, 1) := by decide +kernel
theorem dL_law_29 : decode cL_law 29 = .ok (.bipush 31, 2) := by decide +kernel
theorem dL_law_31 : decode cL_law 31 = .ok (.iand, 1) := by decide +kernel
theorem dL_law_32 : decode cL_law 32 = .ok (.tableswitch 1004 0 30 #[140, 173, 206, 229, 272, 315, 348, 371, 404, 437, 470, 493, 526, 569, 612, 635, 668, 691, 724, 767, 790, 823, 856, 879, 902, 915, 928, 951, 964, 977, 990], 140) := by decide +kernel
theorem dL_law_172 : decode cL_law 172 = .ok (.aload_n 1, 1) := by decide +kernel
theorem dL_law_173 : decode cL_law 173 = .ok (.aload_n 0, 1) := by decide +kernel
theorem dL_law_174 : decode cL_law 174 = .ok (.iload_n 3, 1) := by decide +kernel
theorem dL_law_175 : decode cL_law 175 = .ok (.iconst 1, 1) := by decide +kernel
theorem dL_law_176 : decode cL_law 176 = .ok (.iadd, 1) := by decide +kernel
theorem dL_law_177 : decode cL_law 177 = .ok (.iaload, 1) := by decide +kernel
theorem dL_law_178 : decode cL_law 178 = .ok (.aload_n 0, 1) := by decide +kernel
theorem dL_law_179 : decode cL_law 179 = .ok (.iload_n 3, 1) := by decide +kernel
theorem dL_law_180 : decode cL_law 180 = .ok (.iconst 2, 1) := by decide +kernel
theorem dL_law_181 : decode cL_law 181 = .ok (.iadd, 1) := by decide +kernel
theorem dL_law_182 : decode cL_law 182 = .ok (.iaload, 1) := by decide +kernel
theorem dL_law_183 : decode cL_law 183 = .ok (.invokevirtual 13, 3) := by decide +kernel
theorem dL_law_186 : decode cL_law 186 = .ok (.aload_n 2, 1) := by decide +kernel
theorem dL_law_187 : decode cL_law 187 = .ok (.aload_n 0, 1) := by decide +kernel
theorem dL_law_188 : decode cL_law 188 = .ok (.iload_n 3, 1) := by decide +kernel
theorem dL_law_189 : decode cL_law 189 = .ok (.iconst 1, 1) := by decide +kernel
theorem dL_law_190 : decode cL_law 190 = .ok (.iadd, 1) := by decide +kernel
theorem dL_law_191 : decode cL_law 191 = .ok (.iaload, 1) := by decide +kernel
theorem dL_law_192 : decode cL_law 192 = .ok (.aload_n 0, 1) := by decide +kernel
theorem dL_law_193 : decode cL_law 193 = .ok (.iload_n 3, 1) := by decide +kernel
theorem dL_law_194 : decode cL_law 194 = .ok (.iconst 2, 1) := by decide +kernel
theorem dL_law_195 : decode cL_law 195 = .ok (.iadd, 1) := by decide +kernel
theorem dL_law_196 : decode cL_law 196 = .ok (.iaload, 1) := by decide +kernel
theorem dL_law_197 : decode cL_law 197 = .ok (.invokevirtual 17, 3) := by decide +kernel
theorem dL_law_200 : decode cL_law 200 = .ok (.if_icmp .eq 836, 3) := by decide +kernel
theorem dL_law_203 : decode cL_law 203 = .ok (.iconst 0, 1) := by decide +kernel
theorem dL_law_204 : decode cL_law 204 = .ok (.ireturn, 1) := by decide +kernel
theorem dL_law_205 : decode cL_law 205 = .ok (.aload_n 1, 1) := by decide +kernel
theorem dL_law_206 : decode cL_law 206 = .ok (.aload_n 0, 1) := by decide +kernel
theorem dL_law_207 : decode cL_law 207 = .ok (.iload_n 3, 1) := by decide +kernel
theorem dL_law_208 : decode cL_law 208 = .ok (.iconst 1, 1) := by decide +kernel
theorem dL_law_209 : decode cL_law 209 = .ok (.iadd, 1) := by decide +kernel
theorem dL_law_210 : decode cL_law 210 = .ok (.iaload, 1) := by decide +kernel
theorem dL_law_211 : decode cL_law 211 = .ok (.aload_n 0, 1) := by decide +kernel
theorem dL_law_212 : decode cL_law 212 = .ok (.iload_n 3, 1) := by decide +kernel
theorem dL_law_213 : decode cL_law 213 = .ok (.iconst 2, 1) := by decide +kernel
theorem dL_law_214 : decode cL_law 214 = .ok (.iadd, 1) := by decide +kernel
theorem dL_law_215 : decode cL_law 215 = .ok (.iaload, 1) := by decide +kernel
theorem dL_law_216 : decode cL_law 216 = .ok (.invokevirtual 18, 3) := by decide +kernel
theorem dL_law_219 : decode cL_law 219 = .ok (.aload_n 2, 1) := by decide +kernel
theorem dL_law_220 : decode cL_law 220 = .ok (.aload_n 0, 1) := by decide +kernel
theorem dL_law_221 : decode cL_law 221 = .ok (.iload_n 3, 1) := by decide +kernel
theorem dL_law_222 : decode cL_law 222 = .ok (.iconst 1, 1) := by decide +kernel
theorem dL_law_223 : decode cL_law 223 = .ok (.iadd, 1) := by decide +kernel
theorem dL_law_224 : decode cL_law 224 = .ok (.iaload, 1) := by decide +kernel
theorem dL_law_225 : decode cL_law 225 = .ok (.aload_n 0, 1) := by decide +kernel
theorem dL_law_226 : decode cL_law 226 = .ok (.iload_n 3, 1) := by decide +kernel
theorem dL_law_227 : decode cL_law 227 = .ok (.iconst 2, 1) := by decide +kernel
theorem dL_law_228 : decode cL_law 228 = .ok (.iadd, 1) := by decide +kernel
theorem dL_law_229 : decode cL_law 229 = .ok (.iaload, 1) := by decide +kernel
theorem dL_law_230 : decode cL_law 230 = .ok (.invokevirtual 21, 3) := by decide +kernel
theorem dL_law_233 : decode cL_law 233 = .ok (.if_icmp .eq 803, 3) := by decide +kernel
theorem dL_law_236 : decode cL_law 236 = .ok (.iconst 0, 1) := by decide +kernel
theorem dL_law_237 : decode cL_law 237 = .ok (.ireturn, 1) := by decide +kernel
theorem dL_law_238 : decode cL_law 238 = .ok (.aload_n 1, 1) := by decide +kernel
theorem dL_law_239 : decode cL_law 239 = .ok (.aload_n 0, 1) := by decide +kernel
theorem dL_law_240 : decode cL_law 240 = .ok (.iload_n 3, 1) := by decide +kernel
theorem dL_law_241 : decode cL_law 241 = .ok (.iconst 1, 1) := by decide +kernel
theorem dL_law_242 : decode cL_law 242 = .ok (.iadd, 1) := by decide +kernel
theorem dL_law_243 : decode cL_law 243 = .ok (.iaload, 1) := by decide +kernel
theorem dL_law_244 : decode cL_law 244 = .ok (.invokevirtual 22, 3) := by decide +kernel
theorem dL_law_247 : decode cL_law 247 = .ok (.aload_n 2, 1) := by decide +kernel
theorem dL_law_248 : decode cL_law 248 = .ok (.aload_n 0, 1) := by decide +kernel
theorem dL_law_249 : decode cL_law 249 = .ok (.iload_n 3, 1) := by decide +kernel
theorem dL_law_250 : decode cL_law 250 = .ok (.iconst 1, 1) := by decide +kernel
theorem dL_law_251 : decode cL_law 251 = .ok (.iadd, 1) := by decide +kernel
theorem dL_law_252 : decode cL_law 252 = .ok (.iaload, 1) := by decide +kernel
theorem dL_law_253 : decode cL_law 253 = .ok (.invokevirtual 26, 3) := by decide +kernel
theorem dL_law_256 : decode cL_law 256 = .ok (.if_icmp .eq 780, 3) := by decide +kernel
theorem dL_law_259 : decode cL_law 259 = .ok (.iconst 0, 1) := by decide +kernel
theorem dL_law_260 : decode cL_law 260 = .ok (.ireturn, 1) := by decide +kernel
theorem dL_law_261 : decode cL_law 261 = .ok (.aload_n 1, 1) := by decide +kernel
theorem dL_law_262 : decode cL_law 262 = .ok (.aload_n 0, 1) := by decide +kernel
theorem dL_law_263 : decode cL_law 263 = .ok (.iload_n 3, 1) := by decide +kernel
theorem dL_law_264 : decode cL_law 264 = .ok (.iconst 1, 1) := by decide +kernel
theorem dL_law_265 : decode cL_law 265 = .ok (.iadd, 1) := by decide +kernel
theorem dL_law_266 : decode cL_law 266 = .ok (.iaload, 1) := by decide +kernel
theorem dL_law_267 : decode cL_law 267 = .ok (.aload_n 0, 1) := by decide +kernel
theorem dL_law_268 : decode cL_law 268 = .ok (.iload_n 3, 1) := by decide +kernel
theorem dL_law_269 : decode cL_law 269 = .ok (.iconst 2, 1) := by decide +kernel
theorem dL_law_270 : decode cL_law 270 = .ok (.iadd, 1) := by decide +kernel
theorem dL_law_271 : decode cL_law 271 = .ok (.iaload, 1) := by decide +kernel
theorem dL_law_272 : decode cL_law 272 = .ok (.aload_n 0, 1) := by decide +kernel
theorem dL_law_273 : decode cL_law 273 = .ok (.iload_n 3, 1) := by decide +kernel
theorem dL_law_274 : decode cL_law 274 = .ok (.iconst 3, 1) := by decide +kernel
theorem dL_law_275 : decode cL_law 275 = .ok (.iadd, 1) := by decide +kernel
theorem dL_law_276 : decode cL_law 276 = .ok (.iaload, 1) := by decide +kernel
theorem dL_law_277 : decode cL_law 277 = .ok (.invokevirtual 27, 3) := by decide +kernel
theorem dL_law_280 : decode cL_law 280 = .ok (.aload_n 2, 1) := by decide +kernel
theorem dL_law_281 : decode cL_law 281 = .ok (.aload_n 0, 1) := by decide +kernel
theorem dL_law_282 : decode cL_law 282 = .ok (.iload_n 3, 1) := by decide +kernel
theorem dL_law_283 : decode cL_law 283 = .ok (.iconst 1, 1) := by decide +kernel
theorem dL_law_284 : decode cL_law 284 = .ok (.iadd, 1) := by decide +kernel
theorem dL_law_285 : decode cL_law 285 = .ok (.iaload, 1) := by decide +kernel
theorem dL_law_286 : decode cL_law 286 = .ok (.aload_n 0, 1) := by decide +kernel
theorem dL_law_287 : decode cL_law 287 = .ok (.iload_n 3, 1) := by decide +kernel
theorem dL_law_288 : decode cL_law 288 = .ok (.iconst 2, 1) := by decide +kernel
theorem dL_law_289 : decode cL_law 289 = .ok (.iadd, 1) := by decide +kernel
theorem dL_law_290 : decode cL_law 290 = .ok (.iaload, 1) := by decide +kernel
theorem dL_law_291 : decode cL_law 291 = .ok (.aload_n 0, 1) := by decide +kernel
theorem dL_law_292 : decode cL_law 292 = .ok (.iload_n 3, 1) := by decide +kernel
theorem dL_law_293 : decode cL_law 293 = .ok (.iconst 3, 1) := by decide +kernel
theorem dL_law_294 : decode cL_law 294 = .ok (.iadd, 1) := by decide +kernel
theorem dL_law_295 : decode cL_law 295 = .ok (.iaload, 1) := by decide +kernel
theorem dL_law_296 : decode cL_law 296 = .ok (.invokevirtual 31, 3) := by decide +kernel
theorem dL_law_299 : decode cL_law 299 = .ok (.if_icmp .eq 737, 3) := by decide +kernel
theorem dL_law_302 : decode cL_law 302 = .ok (.iconst 0, 1) := by decide +kernel
theorem dL_law_303 : decode cL_law 303 = .ok (.ireturn, 1) := by decide +kernel
theorem dL_law_304 : decode cL_law 304 = .ok (.aload_n 1, 1) := by decide +kernel
theorem dL_law_305 : decode cL_law 305 = .ok (.aload_n 0, 1) := by decide +kernel
theorem dL_law_306 : decode cL_law 306 = .ok (.iload_n 3, 1) := by decide +kernel
theorem dL_law_307 : decode cL_law 307 = .ok (.iconst 1, 1) := by decide +kernel
theorem dL_law_308 : decode cL_law 308 = .ok (.iadd, 1) := by decide +kernel
theorem dL_law_309 : decode cL_law 309 = .ok (.iaload, 1) := by decide +kernel
theorem dL_law_310 : decode cL_law 310 = .ok (.aload_n 0, 1) := by decide +kernel
theorem dL_law_311 : decode cL_law 311 = .ok (.iload_n 3, 1) := by decide +kernel
theorem dL_law_312 : decode cL_law 312 = .ok (.iconst 2, 1) := by decide +kernel
theorem dL_law_313 : decode cL_law 313 = .ok (.iadd, 1) := by decide +kernel
theorem dL_law_314 : decode cL_law 314 = .ok (.iaload, 1) := by decide +kernel
theorem dL_law_315 : decode cL_law 315 = .ok (.aload_n 0, 1) := by decide +kernel
theorem dL_law_316 : decode cL_law 316 = .ok (.iload_n 3, 1) := by decide +kernel
theorem dL_law_317 : decode cL_law 317 = .ok (.iconst 3, 1) := by decide +kernel
theorem dL_law_318 : decode cL_law 318 = .ok (.iadd, 1) := by decide +kernel
theorem dL_law_319 : decode cL_law 319 = .ok (.iaload, 1) := by decide +kernel
theorem dL_law_320 : decode cL_law 320 = .ok (.invokevirtual 32, 3) := by decide +kernel
theorem dL_law_323 : decode cL_law 323 = .ok (.aload_n 2, 1) := by decide +kernel
theorem dL_law_324 : decode cL_law 324 = .ok (.aload_n 0, 1) := by decide +kernel
theorem dL_law_325 : decode cL_law 325 = .ok (.iload_n 3, 1) := by decide +kernel
theorem dL_law_326 : decode cL_law 326 = .ok (.iconst 1, 1) := by decide +kernel
theorem dL_law_327 : decode cL_law 327 = .ok (.iadd, 1) := by decide +kernel
theorem dL_law_328 : decode cL_law 328 = .ok (.iaload, 1) := by decide +kernel
theorem dL_law_329 : decode cL_law 329 = .ok (.aload_n 0, 1) := by decide +kernel
theorem dL_law_330 : decode cL_law 330 = .ok (.iload_n 3, 1) := by decide +kernel
theorem dL_law_331 : decode cL_law 331 = .ok (.iconst 2, 1) := by decide +kernel
theorem dL_law_332 : decode cL_law 332 = .ok (.iadd, 1) := by decide +kernel
theorem dL_law_333 : decode cL_law 333 = .ok (.iaload, 1) := by decide +kernel
theorem dL_law_334 : decode cL_law 334 = .ok (.aload_n 0, 1) := by decide +kernel
theorem dL_law_335 : decode cL_law 335 = .ok (.iload_n 3, 1) := by decide +kernel
theorem dL_law_336 : decode cL_law 336 = .ok (.iconst 3, 1) := by decide +kernel
theorem dL_law_337 : decode cL_law 337 = .ok (.iadd, 1) := by decide +kernel
theorem dL_law_338 : decode cL_law 338 = .ok (.iaload, 1) := by decide +kernel
theorem dL_law_339 : decode cL_law 339 = .ok (.invokevirtual 35, 3) := by decide +kernel
theorem dL_law_342 : decode cL_law 342 = .ok (.if_icmp .eq 694, 3) := by decide +kernel
theorem dL_law_345 : decode cL_law 345 = .ok (.iconst 0, 1) := by decide +kernel
theorem dL_law_346 : decode cL_law 346 = .ok (.ireturn, 1) := by decide +kernel
theorem dL_law_347 : decode cL_law 347 = .ok (.aload_n 1, 1) := by decide +kernel
theorem dL_law_348 : decode cL_law 348 = .ok (.aload_n 0, 1) := by decide +kernel
theorem dL_law_349 : decode cL_law 349 = .ok (.iload_n 3, 1) := by decide +kernel
theorem dL_law_350 : decode cL_law 350 = .ok (.iconst 1, 1) := by decide +kernel
theorem dL_law_351 : decode cL_law 351 = .ok (.iadd, 1) := by decide +kernel
theorem dL_law_352 : decode cL_law 352 = .ok (.iaload, 1) := by decide +kernel
theorem dL_law_353 : decode cL_law 353 = .ok (.aload_n 0, 1) := by decide +kernel
theorem dL_law_354 : decode cL_law 354 = .ok (.iload_n 3, 1) := by decide +kernel
theorem dL_law_355 : decode cL_law 355 = .ok (.iconst 2, 1) := by decide +kernel
theorem dL_law_356 : decode cL_law 356 = .ok (.iadd, 1) := by decide +kernel
theorem dL_law_357 : decode cL_law 357 = .ok (.iaload, 1) := by decide +kernel
theorem dL_law_358 : decode cL_law 358 = .ok (.invokevirtual 36, 3) := by decide +kernel
theorem dL_law_361 : decode cL_law 361 = .ok (.aload_n 2, 1) := by decide +kernel
theorem dL_law_362 : decode cL_law 362 = .ok (.aload_n 0, 1) := by decide +kernel
theorem dL_law_363 : decode cL_law 363 = .ok (.iload_n 3, 1) := by decide +kernel
theorem dL_law_364 : decode cL_law 364 = .ok (.iconst 1, 1) := by decide +kernel
theorem dL_law_365 : decode cL_law 365 = .ok (.iadd, 1) := by decide +kernel
theorem dL_law_366 : decode cL_law 366 = .ok (.iaload, 1) := by decide +kernel
theorem dL_law_367 : decode cL_law 367 = .ok (.aload_n 0, 1) := by decide +kernel
theorem dL_law_368 : decode cL_law 368 = .ok (.iload_n 3, 1) := by decide +kernel
theorem dL_law_369 : decode cL_law 369 = .ok (.iconst 2, 1) := by decide +kernel
theorem dL_law_370 : decode cL_law 370 = .ok (.iadd, 1) := by decide +kernel
theorem dL_law_371 : decode cL_law 371 = .ok (.iaload, 1) := by decide +kernel
theorem dL_law_372 : decode cL_law 372 = .ok (.invokevirtual 39, 3) := by decide +kernel
theorem dL_law_375 : decode cL_law 375 = .ok (.if_icmp .eq 661, 3) := by decide +kernel
theorem dL_law_378 : decode cL_law 378 = .ok (.iconst 0, 1) := by decide +kernel
theorem dL_law_379 : decode cL_law 379 = .ok (.ireturn, 1) := by decide +kernel
theorem dL_law_380 : decode cL_law 380 = .ok (.aload_n 1, 1) := by decide +kernel
theorem dL_law_381 : decode cL_law 381 = .ok (.aload_n 0, 1) := by decide +kernel
theorem dL_law_382 : decode cL_law 382 = .ok (.iload_n 3, 1) := by decide +kernel
theorem dL_law_383 : decode cL_law 383 = .ok (.iconst 1, 1) := by decide +kernel
theorem dL_law_384 : decode cL_law 384 = .ok (.iadd, 1) := by decide +kernel
theorem dL_law_385 : decode cL_law 385 = .ok (.iaload, 1) := by decide +kernel
theorem dL_law_386 : decode cL_law 386 = .ok (.invokevirtual 40, 3) := by decide +kernel
theorem dL_law_389 : decode cL_law 389 = .ok (.aload_n 2, 1) := by decide +kernel
theorem dL_law_390 : decode cL_law 390 = .ok (.aload_n 0, 1) := by decide +kernel
theorem dL_law_391 : decode cL_law 391 = .ok (.iload_n 3, 1) := by decide +kernel
theorem dL_law_392 : decode cL_law 392 = .ok (.iconst 1, 1) := by decide +kernel
theorem dL_law_393 : decode cL_law 393 = .ok (.iadd, 1) := by decide +kernel
theorem dL_law_394 : decode cL_law 394 = .ok (.iaload, 1) := by decide +kernel
theorem dL_law_395 : decode cL_law 395 = .ok (.invokevirtual 43, 3) := by decide +kernel
theorem dL_law_398 : decode cL_law 398 = .ok (.if_icmp .eq 638, 3) := by decide +kernel
theorem dL_law_401 : decode cL_law 401 = .ok (.iconst 0, 1) := by decide +kernel
theorem dL_law_402 : decode cL_law 402 = .ok (.ireturn, 1) := by decide +kernel
theorem dL_law_403 : decode cL_law 403 = .ok (.aload_n 1, 1) := by decide +kernel
theorem dL_law_404 : decode cL_law 404 = .ok (.aload_n 0, 1) := by decide +kernel
theorem dL_law_405 : decode cL_law 405 = .ok (.iload_n 3, 1) := by decide +kernel
theorem dL_law_406 : decode cL_law 406 = .ok (.iconst 1, 1) := by decide +kernel
theorem dL_law_407 : decode cL_law 407 = .ok (.iadd, 1) := by decide +kernel
theorem dL_law_408 : decode cL_law 408 = .ok (.iaload, 1) := by decide +kernel
theorem dL_law_409 : decode cL_law 409 = .ok (.aload_n 0, 1) := by decide +kernel
theorem dL_law_410 : decode cL_law 410 = .ok (.iload_n 3, 1) := by decide +kernel
theorem dL_law_411 : decode cL_law 411 = .ok (.iconst 2, 1) := by decide +kernel
theorem dL_law_412 : decode cL_law 412 = .ok (.iadd, 1) := by decide +kernel
theorem dL_law_413 : decode cL_law 413 = .ok (.iaload, 1) := by decide +kernel
theorem dL_law_414 : decode cL_law 414 = .ok (.invokevirtual 44, 3) := by decide +kernel
theorem dL_law_417 : decode cL_law 417 = .ok (.aload_n 2, 1) := by decide +kernel
theorem dL_law_418 : decode cL_law 418 = .ok (.aload_n 0, 1) := by decide +kernel
theorem dL_law_419 : decode cL_law 419 = .ok (.iload_n 3, 1) := by decide +kernel
theorem dL_law_420 : decode cL_law 420 = .ok (.iconst 1, 1) := by decide +kernel
theorem dL_law_421 : decode cL_law 421 = .ok (.iadd, 1) := by decide +kernel
theorem dL_law_422 : decode cL_law 422 = .ok (.iaload, 1) := by decide +kernel
theorem dL_law_423 : decode cL_law 423 = .ok (.aload_n 0, 1) := by decide +kernel
theorem dL_law_424 : decode cL_law 424 = .ok (.iload_n 3, 1) := by decide +kernel
theorem dL_law_425 : decode cL_law 425 = .ok (.iconst 2, 1) := by decide +kernel
theorem dL_law_426 : decode cL_law 426 = .ok (.iadd, 1) := by decide +kernel
theorem dL_law_427 : decode cL_law 427 = .ok (.iaload, 1) := by decide +kernel
theorem dL_law_428 : decode cL_law 428 = .ok (.invokevirtual 47, 3) := by decide +kernel
theorem dL_law_431 : decode cL_law 431 = .ok (.if_icmp .eq 605, 3) := by decide +kernel
theorem dL_law_434 : decode cL_law 434 = .ok (.iconst 0, 1) := by decide +kernel
theorem dL_law_435 : decode cL_law 435 = .ok (.ireturn, 1) := by decide +kernel
theorem dL_law_436 : decode cL_law 436 = .ok (.aload_n 1, 1) := by decide +kernel
theorem dL_law_437 : decode cL_law 437 = .ok (.aload_n 0, 1) := by decide +kernel
theorem dL_law_438 : decode cL_law 438 = .ok (.iload_n 3, 1) := by decide +kernel
theorem dL_law_439 : decode cL_law 439 = .ok (.iconst 1, 1) := by decide +kernel
theorem dL_law_440 : decode cL_law 440 = .ok (.iadd, 1) := by decide +kernel
theorem dL_law_441 : decode cL_law 441 = .ok (.iaload, 1) := by decide +kernel
theorem dL_law_442 : decode cL_law 442 = .ok (.aload_n 0, 1) := by decide +kernel
theorem dL_law_443 : decode cL_law 443 = .ok (.iload_n 3, 1) := by decide +kernel
theorem dL_law_444 : decode cL_law 444 = .ok (.iconst 2, 1) := by decide +kernel
theorem dL_law_445 : decode cL_law 445 = .ok (.iadd, 1) := by decide +kernel
theorem dL_law_446 : decode cL_law 446 = .ok (.iaload, 1) := by decide +kernel
theorem dL_law_447 : decode cL_law 447 = .ok (.invokevirtual 48, 3) := by decide +kernel
theorem dL_law_450 : decode cL_law 450 = .ok (.aload_n 2, 1) := by decide +kernel
theorem dL_law_451 : decode cL_law 451 = .ok (.aload_n 0, 1) := by decide +kernel
theorem dL_law_452 : decode cL_law 452 = .ok (.iload_n 3, 1) := by decide +kernel
theorem dL_law_453 : decode cL_law 453 = .ok (.iconst 1, 1) := by decide +kernel
theorem dL_law_454 : decode cL_law 454 = .ok (.iadd, 1) := by decide +kernel
theorem dL_law_455 : decode cL_law 455 = .ok (.iaload, 1) := by decide +kernel
theorem dL_law_456 : decode cL_law 456 = .ok (.aload_n 0, 1) := by decide +kernel
theorem dL_law_457 : decode cL_law 457 = .ok (.iload_n 3, 1) := by decide +kernel
theorem dL_law_458 : decode cL_law 458 = .ok (.iconst 2, 1) := by decide +kernel
theorem dL_law_459 : decode cL_law 459 = .ok (.iadd, 1) := by decide +kernel
theorem dL_law_460 : decode cL_law 460 = .ok (.iaload, 1) := by decide +kernel
theorem dL_law_461 : decode cL_law 461 = .ok (.invokevirtual 51, 3) := by decide +kernel
theorem dL_law_464 : decode cL_law 464 = .ok (.if_icmp .eq 572, 3) := by decide +kernel
theorem dL_law_467 : decode cL_law 467 = .ok (.iconst 0, 1) := by decide +kernel
theorem dL_law_468 : decode cL_law 468 = .ok (.ireturn, 1) := by decide +kernel
theorem dL_law_469 : decode cL_law 469 = .ok (.aload_n 1, 1) := by decide +kernel
theorem dL_law_470 : decode cL_law 470 = .ok (.aload_n 0, 1) := by decide +kernel
theorem dL_law_471 : decode cL_law 471 = .ok (.iload_n 3, 1) := by decide +kernel
theorem dL_law_472 : decode cL_law 472 = .ok (.iconst 1, 1) := by decide +kernel
theorem dL_law_473 : decode cL_law 473 = .ok (.iadd, 1) := by decide +kernel
theorem dL_law_474 : decode cL_law 474 = .ok (.iaload, 1) := by decide +kernel
theorem dL_law_475 : decode cL_law 475 = .ok (.aload_n 0, 1) := by decide +kernel
theorem dL_law_476 : decode cL_law 476 = .ok (.iload_n 3, 1) := by decide +kernel
theorem dL_law_477 : decode cL_law 477 = .ok (.iconst 2, 1) := by decide +kernel
theorem dL_law_478 : decode cL_law 478 = .ok (.iadd, 1) := by decide +kernel
theorem dL_law_479 : decode cL_law 479 = .ok (.iaload, 1) := by decide +kernel
theorem dL_law_480 : decode cL_law 480 = .ok (.invokevirtual 52, 3) := by decide +kernel
theorem dL_law_483 : decode cL_law 483 = .ok (.aload_n 2, 1) := by decide +kernel
theorem dL_law_484 : decode cL_law 484 = .ok (.aload_n 0, 1) := by decide +kernel
theorem dL_law_485 : decode cL_law 485 = .ok (.iload_n 3, 1) := by decide +kernel
theorem dL_law_486 : decode cL_law 486 = .ok (.iconst 1, 1) := by decide +kernel
theorem dL_law_487 : decode cL_law 487 = .ok (.iadd, 1) := by decide +kernel
theorem dL_law_488 : decode cL_law 488 = .ok (.iaload, 1) := by decide +kernel
theorem dL_law_489 : decode cL_law 489 = .ok (.aload_n 0, 1) := by decide +kernel
theorem dL_law_490 : decode cL_law 490 = .ok (.iload_n 3, 1) := by decide +kernel
theorem dL_law_491 : decode cL_law 491 = .ok (.iconst 2, 1) := by decide +kernel
theorem dL_law_492 : decode cL_law 492 = .ok (.iadd, 1) := by decide +kernel
theorem dL_law_493 : decode cL_law 493 = .ok (.iaload, 1) := by decide +kernel
theorem dL_law_494 : decode cL_law 494 = .ok (.invokevirtual 55, 3) := by decide +kernel
theorem dL_law_497 : decode cL_law 497 = .ok (.if_icmp .eq 539, 3) := by decide +kernel
theorem dL_law_500 : decode cL_law 500 = .ok (.iconst 0, 1) := by decide +kernel
theorem dL_law_501 : decode cL_law 501 = .ok (.ireturn, 1) := by decide +kernel
theorem dL_law_502 : decode cL_law 502 = .ok (.aload_n 1, 1) := by decide +kernel
theorem dL_law_503 : decode cL_law 503 = .ok (.aload_n 0, 1) := by decide +kernel
theorem dL_law_504 : decode cL_law 504 = .ok (.iload_n 3, 1) := by decide +kernel
theorem dL_law_505 : decode cL_law 505 = .ok (.iconst 1, 1) := by decide +kernel
theorem dL_law_506 : decode cL_law 506 = .ok (.iadd, 1) := by decide +kernel
theorem dL_law_507 : decode cL_law 507 = .ok (.iaload, 1) := by decide +kernel
theorem dL_law_508 : decode cL_law 508 = .ok (.invokevirtual 56, 3) := by decide +kernel
theorem dL_law_511 : decode cL_law 511 = .ok (.aload_n 2, 1) := by decide +kernel
theorem dL_law_512 : decode cL_law 512 = .ok (.aload_n 0, 1) := by decide +kernel
theorem dL_law_513 : decode cL_law 513 = .ok (.iload_n 3, 1) := by decide +kernel
theorem dL_law_514 : decode cL_law 514 = .ok (.iconst 1, 1) := by decide +kernel
theorem dL_law_515 : decode cL_law 515 = .ok (.iadd, 1) := by decide +kernel
theorem dL_law_516 : decode cL_law 516 = .ok (.iaload, 1) := by decide +kernel
theorem dL_law_517 : decode cL_law 517 = .ok (.invokevirtual 59, 3) := by decide +kernel
theorem dL_law_520 : decode cL_law 520 = .ok (.if_icmp .eq 516, 3) := by decide +kernel
theorem dL_law_523 : decode cL_law 523 = .ok (.iconst 0, 1) := by decide +kernel
theorem dL_law_524 : decode cL_law 524 = .ok (.ireturn, 1) := by decide +kernel
theorem dL_law_525 : decode cL_law 525 = .ok (.aload_n 1, 1) := by decide +kernel
theorem dL_law_526 : decode cL_law 526 = .ok (.aload_n 0, 1) := by decide +kernel
theorem dL_law_527 : decode cL_law 527 = .ok (.iload_n 3, 1) := by decide +kernel
theorem dL_law_528 : decode cL_law 528 = .ok (.iconst 1, 1) := by decide +kernel
theorem dL_law_529 : decode cL_law 529 = .ok (.iadd, 1) := by decide +kernel
theorem dL_law_530 : decode cL_law 530 = .ok (.iaload, 1) := by decide +kernel
theorem dL_law_531 : decode cL_law 531 = .ok (.aload_n 0, 1) := by decide +kernel
theorem dL_law_532 : decode cL_law 532 = .ok (.iload_n 3, 1) := by decide +kernel
theorem dL_law_533 : decode cL_law 533 = .ok (.iconst 2, 1) := by decide +kernel
theorem dL_law_534 : decode cL_law 534 = .ok (.iadd, 1) := by decide +kernel
theorem dL_law_535 : decode cL_law 535 = .ok (.iaload, 1) := by decide +kernel
theorem dL_law_536 : decode cL_law 536 = .ok (.invokevirtual 60, 3) := by decide +kernel
theorem dL_law_539 : decode cL_law 539 = .ok (.aload_n 2, 1) := by decide +kernel
theorem dL_law_540 : decode cL_law 540 = .ok (.aload_n 0, 1) := by decide +kernel
theorem dL_law_541 : decode cL_law 541 = .ok (.iload_n 3, 1) := by decide +kernel
theorem dL_law_542 : decode cL_law 542 = .ok (.iconst 1, 1) := by decide +kernel
theorem dL_law_543 : decode cL_law 543 = .ok (.iadd, 1) := by decide +kernel
theorem dL_law_544 : decode cL_law 544 = .ok (.iaload, 1) := by decide +kernel
theorem dL_law_545 : decode cL_law 545 = .ok (.aload_n 0, 1) := by decide +kernel
theorem dL_law_546 : decode cL_law 546 = .ok (.iload_n 3, 1) := by decide +kernel
theorem dL_law_547 : decode cL_law 547 = .ok (.iconst 2, 1) := by decide +kernel
theorem dL_law_548 : decode cL_law 548 = .ok (.iadd, 1) := by decide +kernel
theorem dL_law_549 : decode cL_law 549 = .ok (.iaload, 1) := by decide +kernel
theorem dL_law_550 : decode cL_law 550 = .ok (.invokevirtual 63, 3) := by decide +kernel
theorem dL_law_553 : decode cL_law 553 = .ok (.if_icmp .eq 483, 3) := by decide +kernel
theorem dL_law_556 : decode cL_law 556 = .ok (.iconst 0, 1) := by decide +kernel
theorem dL_law_557 : decode cL_law 557 = .ok (.ireturn, 1) := by decide +kernel
theorem dL_law_558 : decode cL_law 558 = .ok (.aload_n 1, 1) := by decide +kernel
theorem dL_law_559 : decode cL_law 559 = .ok (.aload_n 0, 1) := by decide +kernel
theorem dL_law_560 : decode cL_law 560 = .ok (.iload_n 3, 1) := by decide +kernel
theorem dL_law_561 : decode cL_law 561 = .ok (.iconst 1, 1) := by decide +kernel
theorem dL_law_562 : decode cL_law 562 = .ok (.iadd, 1) := by decide +kernel
theorem dL_law_563 : decode cL_law 563 = .ok (.iaload, 1) := by decide +kernel
theorem dL_law_564 : decode cL_law 564 = .ok (.aload_n 0, 1) := by decide +kernel
theorem dL_law_565 : decode cL_law 565 = .ok (.iload_n 3, 1) := by decide +kernel
theorem dL_law_566 : decode cL_law 566 = .ok (.iconst 2, 1) := by decide +kernel
theorem dL_law_567 : decode cL_law 567 = .ok (.iadd, 1) := by decide +kernel
theorem dL_law_568 : decode cL_law 568 = .ok (.iaload, 1) := by decide +kernel
theorem dL_law_569 : decode cL_law 569 = .ok (.aload_n 0, 1) := by decide +kernel
theorem dL_law_570 : decode cL_law 570 = .ok (.iload_n 3, 1) := by decide +kernel
theorem dL_law_571 : decode cL_law 571 = .ok (.iconst 3, 1) := by decide +kernel
theorem dL_law_572 : decode cL_law 572 = .ok (.iadd, 1) := by decide +kernel
theorem dL_law_573 : decode cL_law 573 = .ok (.iaload, 1) := by decide +kernel
theorem dL_law_574 : decode cL_law 574 = .ok (.invokevirtual 64, 3) := by decide +kernel
theorem dL_law_577 : decode cL_law 577 = .ok (.aload_n 2, 1) := by decide +kernel
theorem dL_law_578 : decode cL_law 578 = .ok (.aload_n 0, 1) := by decide +kernel
theorem dL_law_579 : decode cL_law 579 = .ok (.iload_n 3, 1) := by decide +kernel
theorem dL_law_580 : decode cL_law 580 = .ok (.iconst 1, 1) := by decide +kernel
theorem dL_law_581 : decode cL_law 581 = .ok (.iadd, 1) := by decide +kernel
theorem dL_law_582 : decode cL_law 582 = .ok (.iaload, 1) := by decide +kernel
theorem dL_law_583 : decode cL_law 583 = .ok (.aload_n 0, 1) := by decide +kernel
theorem dL_law_584 : decode cL_law 584 = .ok (.iload_n 3, 1) := by decide +kernel
theorem dL_law_585 : decode cL_law 585 = .ok (.iconst 2, 1) := by decide +kernel
theorem dL_law_586 : decode cL_law 586 = .ok (.iadd, 1) := by decide +kernel
theorem dL_law_587 : decode cL_law 587 = .ok (.iaload, 1) := by decide +kernel
theorem dL_law_588 : decode cL_law 588 = .ok (.aload_n 0, 1) := by decide +kernel
theorem dL_law_589 : decode cL_law 589 = .ok (.iload_n 3, 1) := by decide +kernel
theorem dL_law_590 : decode cL_law 590 = .ok (.iconst 3, 1) := by decide +kernel
theorem dL_law_591 : decode cL_law 591 = .ok (.iadd, 1) := by decide +kernel
theorem dL_law_592 : decode cL_law 592 = .ok (.iaload, 1) := by decide +kernel
theorem dL_law_593 : decode cL_law 593 = .ok (.invokevirtual 67, 3) := by decide +kernel
theorem dL_law_596 : decode cL_law 596 = .ok (.if_icmp .eq 440, 3) := by decide +kernel
theorem dL_law_599 : decode cL_law 599 = .ok (.iconst 0, 1) := by decide +kernel
theorem dL_law_600 : decode cL_law 600 = .ok (.ireturn, 1) := by decide +kernel
theorem dL_law_601 : decode cL_law 601 = .ok (.aload_n 1, 1) := by decide +kernel
theorem dL_law_602 : decode cL_law 602 = .ok (.aload_n 0, 1) := by decide +kernel
theorem dL_law_603 : decode cL_law 603 = .ok (.iload_n 3, 1) := by decide +kernel
theorem dL_law_604 : decode cL_law 604 = .ok (.iconst 1, 1) := by decide +kernel
theorem dL_law_605 : decode cL_law 605 = .ok (.iadd, 1) := by decide +kernel
theorem dL_law_606 : decode cL_law 606 = .ok (.iaload, 1) := by decide +kernel
theorem dL_law_607 : decode cL_law 607 = .ok (.aload_n 0, 1) := by decide +kernel
theorem dL_law_608 : decode cL_law 608 = .ok (.iload_n 3, 1) := by decide +kernel
theorem dL_law_609 : decode cL_law 609 = .ok (.iconst 2, 1) := by decide +kernel
theorem dL_law_610 : decode cL_law 610 = .ok (.iadd, 1) := by decide +kernel
theorem dL_law_611 : decode cL_law 611 = .ok (.iaload, 1) := by decide +kernel
theorem dL_law_612 : decode cL_law 612 = .ok (.aload_n 0, 1) := by decide +kernel
theorem dL_law_613 : decode cL_law 613 = .ok (.iload_n 3, 1) := by decide +kernel
theorem dL_law_614 : decode cL_law 614 = .ok (.iconst 3, 1) := by decide +kernel
theorem dL_law_615 : decode cL_law 615 = .ok (.iadd, 1) := by decide +kernel
theorem dL_law_616 : decode cL_law 616 = .ok (.iaload, 1) := by decide +kernel
theorem dL_law_617 : decode cL_law 617 = .ok (.invokevirtual 68, 3) := by decide +kernel
theorem dL_law_620 : decode cL_law 620 = .ok (.aload_n 2, 1) := by decide +kernel
theorem dL_law_621 : decode cL_law 621 = .ok (.aload_n 0, 1) := by decide +kernel
theorem dL_law_622 : decode cL_law 622 = .ok (.iload_n 3, 1) := by decide +kernel
theorem dL_law_623 : decode cL_law 623 = .ok (.iconst 1, 1) := by decide +kernel
theorem dL_law_624 : decode cL_law 624 = .ok (.iadd, 1) := by decide +kernel
theorem dL_law_625 : decode cL_law 625 = .ok (.iaload, 1) := by decide +kernel
theorem dL_law_626 : decode cL_law 626 = .ok (.aload_n 0, 1) := by decide +kernel
theorem dL_law_627 : decode cL_law 627 = .ok (.iload_n 3, 1) := by decide +kernel
theorem dL_law_628 : decode cL_law 628 = .ok (.iconst 2, 1) := by decide +kernel
theorem dL_law_629 : decode cL_law 629 = .ok (.iadd, 1) := by decide +kernel
theorem dL_law_630 : decode cL_law 630 = .ok (.iaload, 1) := by decide +kernel
theorem dL_law_631 : decode cL_law 631 = .ok (.aload_n 0, 1) := by decide +kernel
theorem dL_law_632 : decode cL_law 632 = .ok (.iload_n 3, 1) := by decide +kernel
theorem dL_law_633 : decode cL_law 633 = .ok (.iconst 3, 1) := by decide +kernel
theorem dL_law_634 : decode cL_law 634 = .ok (.iadd, 1) := by decide +kernel
theorem dL_law_635 : decode cL_law 635 = .ok (.iaload, 1) := by decide +kernel
theorem dL_law_636 : decode cL_law 636 = .ok (.invokevirtual 71, 3) := by decide +kernel
theorem dL_law_639 : decode cL_law 639 = .ok (.if_icmp .eq 397, 3) := by decide +kernel
theorem dL_law_642 : decode cL_law 642 = .ok (.iconst 0, 1) := by decide +kernel
theorem dL_law_643 : decode cL_law 643 = .ok (.ireturn, 1) := by decide +kernel
theorem dL_law_644 : decode cL_law 644 = .ok (.aload_n 1, 1) := by decide +kernel
theorem dL_law_645 : decode cL_law 645 = .ok (.aload_n 0, 1) := by decide +kernel
theorem dL_law_646 : decode cL_law 646 = .ok (.iload_n 3, 1) := by decide +kernel
theorem dL_law_647 : decode cL_law 647 = .ok (.iconst 1, 1) := by decide +kernel
theorem dL_law_648 : decode cL_law 648 = .ok (.iadd, 1) := by decide +kernel
theorem dL_law_649 : decode cL_law 649 = .ok (.iaload, 1) := by decide +kernel
theorem dL_law_650 : decode cL_law 650 = .ok (.invokevirtual 72, 3) := by decide +kernel
theorem dL_law_653 : decode cL_law 653 = .ok (.aload_n 2, 1) := by decide +kernel
theorem dL_law_654 : decode cL_law 654 = .ok (.aload_n 0, 1) := by decide +kernel
theorem dL_law_655 : decode cL_law 655 = .ok (.iload_n 3, 1) := by decide +kernel
theorem dL_law_656 : decode cL_law 656 = .ok (.iconst 1, 1) := by decide +kernel
theorem dL_law_657 : decode cL_law 657 = .ok (.iadd, 1) := by decide +kernel
theorem dL_law_658 : decode cL_law 658 = .ok (.iaload, 1) := by decide +kernel
theorem dL_law_659 : decode cL_law 659 = .ok (.invokevirtual 75, 3) := by decide +kernel
theorem dL_law_662 : decode cL_law 662 = .ok (.if_icmp .eq 374, 3) := by decide +kernel
theorem dL_law_665 : decode cL_law 665 = .ok (.iconst 0, 1) := by decide +kernel
theorem dL_law_666 : decode cL_law 666 = .ok (.ireturn, 1) := by decide +kernel
theorem dL_law_667 : decode cL_law 667 = .ok (.aload_n 1, 1) := by decide +kernel
theorem dL_law_668 : decode cL_law 668 = .ok (.aload_n 0, 1) := by decide +kernel
theorem dL_law_669 : decode cL_law 669 = .ok (.iload_n 3, 1) := by decide +kernel
theorem dL_law_670 : decode cL_law 670 = .ok (.iconst 1, 1) := by decide +kernel
theorem dL_law_671 : decode cL_law 671 = .ok (.iadd, 1) := by decide +kernel
theorem dL_law_672 : decode cL_law 672 = .ok (.iaload, 1) := by decide +kernel
theorem dL_law_673 : decode cL_law 673 = .ok (.aload_n 0, 1) := by decide +kernel
theorem dL_law_674 : decode cL_law 674 = .ok (.iload_n 3, 1) := by decide +kernel
theorem dL_law_675 : decode cL_law 675 = .ok (.iconst 2, 1) := by decide +kernel
theorem dL_law_676 : decode cL_law 676 = .ok (.iadd, 1) := by decide +kernel
theorem dL_law_677 : decode cL_law 677 = .ok (.iaload, 1) := by decide +kernel
theorem dL_law_678 : decode cL_law 678 = .ok (.invokevirtual 76, 3) := by decide +kernel
theorem dL_law_681 : decode cL_law 681 = .ok (.aload_n 2, 1) := by decide +kernel
theorem dL_law_682 : decode cL_law 682 = .ok (.aload_n 0, 1) := by decide +kernel
theorem dL_law_683 : decode cL_law 683 = .ok (.iload_n 3, 1) := by decide +kernel
theorem dL_law_684 : decode cL_law 684 = .ok (.iconst 1, 1) := by decide +kernel
theorem dL_law_685 : decode cL_law 685 = .ok (.iadd, 1) := by decide +kernel
theorem dL_law_686 : decode cL_law 686 = .ok (.iaload, 1) := by decide +kernel
theorem dL_law_687 : decode cL_law 687 = .ok (.aload_n 0, 1) := by decide +kernel
theorem dL_law_688 : decode cL_law 688 = .ok (.iload_n 3, 1) := by decide +kernel
theorem dL_law_689 : decode cL_law 689 = .ok (.iconst 2, 1) := by decide +kernel
theorem dL_law_690 : decode cL_law 690 = .ok (.iadd, 1) := by decide +kernel
theorem dL_law_691 : decode cL_law 691 = .ok (.iaload, 1) := by decide +kernel
theorem dL_law_692 : decode cL_law 692 = .ok (.invokevirtual 79, 3) := by decide +kernel
theorem dL_law_695 : decode cL_law 695 = .ok (.if_icmp .eq 341, 3) := by decide +kernel
theorem dL_law_698 : decode cL_law 698 = .ok (.iconst 0, 1) := by decide +kernel
theorem dL_law_699 : decode cL_law 699 = .ok (.ireturn, 1) := by decide +kernel
theorem dL_law_700 : decode cL_law 700 = .ok (.aload_n 1, 1) := by decide +kernel
theorem dL_law_701 : decode cL_law 701 = .ok (.aload_n 0, 1) := by decide +kernel
theorem dL_law_702 : decode cL_law 702 = .ok (.iload_n 3, 1) := by decide +kernel
theorem dL_law_703 : decode cL_law 703 = .ok (.iconst 1, 1) := by decide +kernel
theorem dL_law_704 : decode cL_law 704 = .ok (.iadd, 1) := by decide +kernel
theorem dL_law_705 : decode cL_law 705 = .ok (.iaload, 1) := by decide +kernel
theorem dL_law_706 : decode cL_law 706 = .ok (.invokevirtual 80, 3) := by decide +kernel
theorem dL_law_709 : decode cL_law 709 = .ok (.aload_n 2, 1) := by decide +kernel
theorem dL_law_710 : decode cL_law 710 = .ok (.aload_n 0, 1) := by decide +kernel
theorem dL_law_711 : decode cL_law 711 = .ok (.iload_n 3, 1) := by decide +kernel
theorem dL_law_712 : decode cL_law 712 = .ok (.iconst 1, 1) := by decide +kernel
theorem dL_law_713 : decode cL_law 713 = .ok (.iadd, 1) := by decide +kernel
theorem dL_law_714 : decode cL_law 714 = .ok (.iaload, 1) := by decide +kernel
theorem dL_law_715 : decode cL_law 715 = .ok (.invokevirtual 83, 3) := by decide +kernel
theorem dL_law_718 : decode cL_law 718 = .ok (.if_icmp .eq 318, 3) := by decide +kernel
theorem dL_law_721 : decode cL_law 721 = .ok (.iconst 0, 1) := by decide +kernel
theorem dL_law_722 : decode cL_law 722 = .ok (.ireturn, 1) := by decide +kernel
theorem dL_law_723 : decode cL_law 723 = .ok (.aload_n 1, 1) := by decide +kernel
theorem dL_law_724 : decode cL_law 724 = .ok (.aload_n 0, 1) := by decide +kernel
theorem dL_law_725 : decode cL_law 725 = .ok (.iload_n 3, 1) := by decide +kernel
theorem dL_law_726 : decode cL_law 726 = .ok (.iconst 1, 1) := by decide +kernel
theorem dL_law_727 : decode cL_law 727 = .ok (.iadd, 1) := by decide +kernel
theorem dL_law_728 : decode cL_law 728 = .ok (.iaload, 1) := by decide +kernel
theorem dL_law_729 : decode cL_law 729 = .ok (.aload_n 0, 1) := by decide +kernel
theorem dL_law_730 : decode cL_law 730 = .ok (.iload_n 3, 1) := by decide +kernel
theorem dL_law_731 : decode cL_law 731 = .ok (.iconst 2, 1) := by decide +kernel
theorem dL_law_732 : decode cL_law 732 = .ok (.iadd, 1) := by decide +kernel
theorem dL_law_733 : decode cL_law 733 = .ok (.iaload, 1) := by decide +kernel
theorem dL_law_734 : decode cL_law 734 = .ok (.invokevirtual 84, 3) := by decide +kernel
theorem dL_law_737 : decode cL_law 737 = .ok (.aload_n 2, 1) := by decide +kernel
theorem dL_law_738 : decode cL_law 738 = .ok (.aload_n 0, 1) := by decide +kernel
theorem dL_law_739 : decode cL_law 739 = .ok (.iload_n 3, 1) := by decide +kernel
theorem dL_law_740 : decode cL_law 740 = .ok (.iconst 1, 1) := by decide +kernel
theorem dL_law_741 : decode cL_law 741 = .ok (.iadd, 1) := by decide +kernel
theorem dL_law_742 : decode cL_law 742 = .ok (.iaload, 1) := by decide +kernel
theorem dL_law_743 : decode cL_law 743 = .ok (.aload_n 0, 1) := by decide +kernel
theorem dL_law_744 : decode cL_law 744 = .ok (.iload_n 3, 1) := by decide +kernel
theorem dL_law_745 : decode cL_law 745 = .ok (.iconst 2, 1) := by decide +kernel
theorem dL_law_746 : decode cL_law 746 = .ok (.iadd, 1) := by decide +kernel
theorem dL_law_747 : decode cL_law 747 = .ok (.iaload, 1) := by decide +kernel
theorem dL_law_748 : decode cL_law 748 = .ok (.invokevirtual 87, 3) := by decide +kernel
theorem dL_law_751 : decode cL_law 751 = .ok (.if_icmp .eq 285, 3) := by decide +kernel
theorem dL_law_754 : decode cL_law 754 = .ok (.iconst 0, 1) := by decide +kernel
theorem dL_law_755 : decode cL_law 755 = .ok (.ireturn, 1) := by decide +kernel
theorem dL_law_756 : decode cL_law 756 = .ok (.aload_n 1, 1) := by decide +kernel
theorem dL_law_757 : decode cL_law 757 = .ok (.aload_n 0, 1) := by decide +kernel
theorem dL_law_758 : decode cL_law 758 = .ok (.iload_n 3, 1) := by decide +kernel
theorem dL_law_759 : decode cL_law 759 = .ok (.iconst 1, 1) := by decide +kernel
theorem dL_law_760 : decode cL_law 760 = .ok (.iadd, 1) := by decide +kernel
theorem dL_law_761 : decode cL_law 761 = .ok (.iaload, 1) := by decide +kernel
theorem dL_law_762 : decode cL_law 762 = .ok (.aload_n 0, 1) := by decide +kernel
theorem dL_law_763 : decode cL_law 763 = .ok (.iload_n 3, 1) := by decide +kernel
theorem dL_law_764 : decode cL_law 764 = .ok (.iconst 2, 1) := by decide +kernel
theorem dL_law_765 : decode cL_law 765 = .ok (.iadd, 1) := by decide +kernel
theorem dL_law_766 : decode cL_law 766 = .ok (.iaload, 1) := by decide +kernel
theorem dL_law_767 : decode cL_law 767 = .ok (.aload_n 0, 1) := by decide +kernel
theorem dL_law_768 : decode cL_law 768 = .ok (.iload_n 3, 1) := by decide +kernel
theorem dL_law_769 : decode cL_law 769 = .ok (.iconst 3, 1) := by decide +kernel
theorem dL_law_770 : decode cL_law 770 = .ok (.iadd, 1) := by decide +kernel
theorem dL_law_771 : decode cL_law 771 = .ok (.iaload, 1) := by decide +kernel
theorem dL_law_772 : decode cL_law 772 = .ok (.invokevirtual 88, 3) := by decide +kernel
theorem dL_law_775 : decode cL_law 775 = .ok (.aload_n 2, 1) := by decide +kernel
theorem dL_law_776 : decode cL_law 776 = .ok (.aload_n 0, 1) := by decide +kernel
theorem dL_law_777 : decode cL_law 777 = .ok (.iload_n 3, 1) := by decide +kernel
theorem dL_law_778 : decode cL_law 778 = .ok (.iconst 1, 1) := by decide +kernel
theorem dL_law_779 : decode cL_law 779 = .ok (.iadd, 1) := by decide +kernel
theorem dL_law_780 : decode cL_law 780 = .ok (.iaload, 1) := by decide +kernel
theorem dL_law_781 : decode cL_law 781 = .ok (.aload_n 0, 1) := by decide +kernel
theorem dL_law_782 : decode cL_law 782 = .ok (.iload_n 3, 1) := by decide +kernel
theorem dL_law_783 : decode cL_law 783 = .ok (.iconst 2, 1) := by decide +kernel
theorem dL_law_784 : decode cL_law 784 = .ok (.iadd, 1) := by decide +kernel
theorem dL_law_785 : decode cL_law 785 = .ok (.iaload, 1) := by decide +kernel
theorem dL_law_786 : decode cL_law 786 = .ok (.aload_n 0, 1) := by decide +kernel
theorem dL_law_787 : decode cL_law 787 = .ok (.iload_n 3, 1) := by decide +kernel
theorem dL_law_788 : decode cL_law 788 = .ok (.iconst 3, 1) := by decide +kernel
theorem dL_law_789 : decode cL_law 789 = .ok (.iadd, 1) := by decide +kernel
theorem dL_law_790 : decode cL_law 790 = .ok (.iaload, 1) := by decide +kernel
theorem dL_law_791 : decode cL_law 791 = .ok (.invokevirtual 91, 3) := by decide +kernel
theorem dL_law_794 : decode cL_law 794 = .ok (.if_icmp .eq 242, 3) := by decide +kernel
theorem dL_law_797 : decode cL_law 797 = .ok (.iconst 0, 1) := by decide +kernel
theorem dL_law_798 : decode cL_law 798 = .ok (.ireturn, 1) := by decide +kernel
theorem dL_law_799 : decode cL_law 799 = .ok (.aload_n 1, 1) := by decide +kernel
theorem dL_law_800 : decode cL_law 800 = .ok (.aload_n 0, 1) := by decide +kernel
theorem dL_law_801 : decode cL_law 801 = .ok (.iload_n 3, 1) := by decide +kernel
theorem dL_law_802 : decode cL_law 802 = .ok (.iconst 1, 1) := by decide +kernel
theorem dL_law_803 : decode cL_law 803 = .ok (.iadd, 1) := by decide +kernel
theorem dL_law_804 : decode cL_law 804 = .ok (.iaload, 1) := by decide +kernel
theorem dL_law_805 : decode cL_law 805 = .ok (.invokevirtual 92, 3) := by decide +kernel
theorem dL_law_808 : decode cL_law 808 = .ok (.aload_n 2, 1) := by decide +kernel
theorem dL_law_809 : decode cL_law 809 = .ok (.aload_n 0, 1) := by decide +kernel
theorem dL_law_810 : decode cL_law 810 = .ok (.iload_n 3, 1) := by decide +kernel
theorem dL_law_811 : decode cL_law 811 = .ok (.iconst 1, 1) := by decide +kernel
theorem dL_law_812 : decode cL_law 812 = .ok (.iadd, 1) := by decide +kernel
theorem dL_law_813 : decode cL_law 813 = .ok (.iaload, 1) := by decide +kernel
theorem dL_law_814 : decode cL_law 814 = .ok (.invokevirtual 95, 3) := by decide +kernel
theorem dL_law_817 : decode cL_law 817 = .ok (.if_icmp .eq 219, 3) := by decide +kernel
theorem dL_law_820 : decode cL_law 820 = .ok (.iconst 0, 1) := by decide +kernel
theorem dL_law_821 : decode cL_law 821 = .ok (.ireturn, 1) := by decide +kernel
theorem dL_law_822 : decode cL_law 822 = .ok (.aload_n 1, 1) := by decide +kernel
theorem dL_law_823 : decode cL_law 823 = .ok (.aload_n 0, 1) := by decide +kernel
theorem dL_law_824 : decode cL_law 824 = .ok (.iload_n 3, 1) := by decide +kernel
theorem dL_law_825 : decode cL_law 825 = .ok (.iconst 1, 1) := by decide +kernel
theorem dL_law_826 : decode cL_law 826 = .ok (.iadd, 1) := by decide +kernel
theorem dL_law_827 : decode cL_law 827 = .ok (.iaload, 1) := by decide +kernel
theorem dL_law_828 : decode cL_law 828 = .ok (.aload_n 0, 1) := by decide +kernel
theorem dL_law_829 : decode cL_law 829 = .ok (.iload_n 3, 1) := by decide +kernel
theorem dL_law_830 : decode cL_law 830 = .ok (.iconst 2, 1) := by decide +kernel
theorem dL_law_831 : decode cL_law 831 = .ok (.iadd, 1) := by decide +kernel
theorem dL_law_832 : decode cL_law 832 = .ok (.iaload, 1) := by decide +kernel
theorem dL_law_833 : decode cL_law 833 = .ok (.invokevirtual 96, 3) := by decide +kernel
theorem dL_law_836 : decode cL_law 836 = .ok (.aload_n 2, 1) := by decide +kernel
theorem dL_law_837 : decode cL_law 837 = .ok (.aload_n 0, 1) := by decide +kernel
theorem dL_law_838 : decode cL_law 838 = .ok (.iload_n 3, 1) := by decide +kernel
theorem dL_law_839 : decode cL_law 839 = .ok (.iconst 1, 1) := by decide +kernel
theorem dL_law_840 : decode cL_law 840 = .ok (.iadd, 1) := by decide +kernel
theorem dL_law_841 : decode cL_law 841 = .ok (.iaload, 1) := by decide +kernel
theorem dL_law_842 : decode cL_law 842 = .ok (.aload_n 0, 1) := by decide +kernel
theorem dL_law_843 : decode cL_law 843 = .ok (.iload_n 3, 1) := by decide +kernel
theorem dL_law_844 : decode cL_law 844 = .ok (.iconst 2, 1) := by decide +kernel
theorem dL_law_845 : decode cL_law 845 = .ok (.iadd, 1) := by decide +kernel
theorem dL_law_846 : decode cL_law 846 = .ok (.iaload, 1) := by decide +kernel
theorem dL_law_847 : decode cL_law 847 = .ok (.invokevirtual 99, 3) := by decide +kernel
theorem dL_law_850 : decode cL_law 850 = .ok (.if_icmp .eq 186, 3) := by decide +kernel
theorem dL_law_853 : decode cL_law 853 = .ok (.iconst 0, 1) := by decide +kernel
theorem dL_law_854 : decode cL_law 854 = .ok (.ireturn, 1) := by decide +kernel
theorem dL_law_855 : decode cL_law 855 = .ok (.aload_n 1, 1) := by decide +kernel
theorem dL_law_856 : decode cL_law 856 = .ok (.aload_n 0, 1) := by decide +kernel
theorem dL_law_857 : decode cL_law 857 = .ok (.iload_n 3, 1) := by decide +kernel
theorem dL_law_858 : decode cL_law 858 = .ok (.iconst 1, 1) := by decide +kernel
theorem dL_law_859 : decode cL_law 859 = .ok (.iadd, 1) := by decide +kernel
theorem dL_law_860 : decode cL_law 860 = .ok (.iaload, 1) := by decide +kernel
theorem dL_law_861 : decode cL_law 861 = .ok (.aload_n 0, 1) := by decide +kernel
theorem dL_law_862 : decode cL_law 862 = .ok (.iload_n 3, 1) := by decide +kernel
theorem dL_law_863 : decode cL_law 863 = .ok (.iconst 2, 1) := by decide +kernel
theorem dL_law_864 : decode cL_law 864 = .ok (.iadd, 1) := by decide +kernel
theorem dL_law_865 : decode cL_law 865 = .ok (.iaload, 1) := by decide +kernel
theorem dL_law_866 : decode cL_law 866 = .ok (.invokevirtual 100, 3) := by decide +kernel
theorem dL_law_869 : decode cL_law 869 = .ok (.aload_n 2, 1) := by decide +kernel
theorem dL_law_870 : decode cL_law 870 = .ok (.aload_n 0, 1) := by decide +kernel
theorem dL_law_871 : decode cL_law 871 = .ok (.iload_n 3, 1) := by decide +kernel
theorem dL_law_872 : decode cL_law 872 = .ok (.iconst 1, 1) := by decide +kernel
theorem dL_law_873 : decode cL_law 873 = .ok (.iadd, 1) := by decide +kernel
theorem dL_law_874 : decode cL_law 874 = .ok (.iaload, 1) := by decide +kernel
theorem dL_law_875 : decode cL_law 875 = .ok (.aload_n 0, 1) := by decide +kernel
theorem dL_law_876 : decode cL_law 876 = .ok (.iload_n 3, 1) := by decide +kernel
theorem dL_law_877 : decode cL_law 877 = .ok (.iconst 2, 1) := by decide +kernel
theorem dL_law_878 : decode cL_law 878 = .ok (.iadd, 1) := by decide +kernel
theorem dL_law_879 : decode cL_law 879 = .ok (.iaload, 1) := by decide +kernel
theorem dL_law_880 : decode cL_law 880 = .ok (.invokevirtual 103, 3) := by decide +kernel
theorem dL_law_883 : decode cL_law 883 = .ok (.if_icmp .eq 153, 3) := by decide +kernel
theorem dL_law_886 : decode cL_law 886 = .ok (.iconst 0, 1) := by decide +kernel
theorem dL_law_887 : decode cL_law 887 = .ok (.ireturn, 1) := by decide +kernel
theorem dL_law_888 : decode cL_law 888 = .ok (.aload_n 1, 1) := by decide +kernel
theorem dL_law_889 : decode cL_law 889 = .ok (.aload_n 0, 1) := by decide +kernel
theorem dL_law_890 : decode cL_law 890 = .ok (.iload_n 3, 1) := by decide +kernel
theorem dL_law_891 : decode cL_law 891 = .ok (.iconst 1, 1) := by decide +kernel
theorem dL_law_892 : decode cL_law 892 = .ok (.iadd, 1) := by decide +kernel
theorem dL_law_893 : decode cL_law 893 = .ok (.iaload, 1) := by decide +kernel
theorem dL_law_894 : decode cL_law 894 = .ok (.invokevirtual 104, 3) := by decide +kernel
theorem dL_law_897 : decode cL_law 897 = .ok (.aload_n 2, 1) := by decide +kernel
theorem dL_law_898 : decode cL_law 898 = .ok (.aload_n 0, 1) := by decide +kernel
theorem dL_law_899 : decode cL_law 899 = .ok (.iload_n 3, 1) := by decide +kernel
theorem dL_law_900 : decode cL_law 900 = .ok (.iconst 1, 1) := by decide +kernel
theorem dL_law_901 : decode cL_law 901 = .ok (.iadd, 1) := by decide +kernel
theorem dL_law_902 : decode cL_law 902 = .ok (.iaload, 1) := by decide +kernel
theorem dL_law_903 : decode cL_law 903 = .ok (.invokevirtual 107, 3) := by decide +kernel
theorem dL_law_906 : decode cL_law 906 = .ok (.if_icmp .eq 130, 3) := by decide +kernel
theorem dL_law_909 : decode cL_law 909 = .ok (.iconst 0, 1) := by decide +kernel
theorem dL_law_910 : decode cL_law 910 = .ok (.ireturn, 1) := by decide +kernel
theorem dL_law_911 : decode cL_law 911 = .ok (.aload_n 1, 1) := by decide +kernel
theorem dL_law_912 : decode cL_law 912 = .ok (.aload_n 0, 1) := by decide +kernel
theorem dL_law_913 : decode cL_law 913 = .ok (.iload_n 3, 1) := by decide +kernel
theorem dL_law_914 : decode cL_law 914 = .ok (.iconst 1, 1) := by decide +kernel
theorem dL_law_915 : decode cL_law 915 = .ok (.iadd, 1) := by decide +kernel
theorem dL_law_916 : decode cL_law 916 = .ok (.iaload, 1) := by decide +kernel
theorem dL_law_917 : decode cL_law 917 = .ok (.invokevirtual 108, 3) := by decide +kernel
theorem dL_law_920 : decode cL_law 920 = .ok (.aload_n 2, 1) := by decide +kernel
theorem dL_law_921 : decode cL_law 921 = .ok (.aload_n 0, 1) := by decide +kernel
theorem dL_law_922 : decode cL_law 922 = .ok (.iload_n 3, 1) := by decide +kernel
theorem dL_law_923 : decode cL_law 923 = .ok (.iconst 1, 1) := by decide +kernel
theorem dL_law_924 : decode cL_law 924 = .ok (.iadd, 1) := by decide +kernel
theorem dL_law_925 : decode cL_law 925 = .ok (.iaload, 1) := by decide +kernel
theorem dL_law_926 : decode cL_law 926 = .ok (.invokevirtual 111, 3) := by decide +kernel
theorem dL_law_929 : decode cL_law 929 = .ok (.if_icmp .eq 107, 3) := by decide +kernel
theorem dL_law_932 : decode cL_law 932 = .ok (.iconst 0, 1) := by decide +kernel
theorem dL_law_933 : decode cL_law 933 = .ok (.ireturn, 1) := by decide +kernel
theorem dL_law_934 : decode cL_law 934 = .ok (.aload_n 1, 1) := by decide +kernel
theorem dL_law_935 : decode cL_law 935 = .ok (.invokevirtual 112, 3) := by decide +kernel
theorem dL_law_938 : decode cL_law 938 = .ok (.aload_n 2, 1) := by decide +kernel
theorem dL_law_939 : decode cL_law 939 = .ok (.invokevirtual 116, 3) := by decide +kernel
theorem dL_law_942 : decode cL_law 942 = .ok (.if_icmp .eq 94, 3) := by decide +kernel
theorem dL_law_945 : decode cL_law 945 = .ok (.iconst 0, 1) := by decide +kernel
theorem dL_law_946 : decode cL_law 946 = .ok (.ireturn, 1) := by decide +kernel
theorem dL_law_947 : decode cL_law 947 = .ok (.aload_n 1, 1) := by decide +kernel
theorem dL_law_948 : decode cL_law 948 = .ok (.invokevirtual 117, 3) := by decide +kernel
theorem dL_law_951 : decode cL_law 951 = .ok (.aload_n 2, 1) := by decide +kernel
theorem dL_law_952 : decode cL_law 952 = .ok (.invokevirtual 120, 3) := by decide +kernel
theorem dL_law_955 : decode cL_law 955 = .ok (.if_icmp .eq 81, 3) := by decide +kernel
theorem dL_law_958 : decode cL_law 958 = .ok (.iconst 0, 1) := by decide +kernel
theorem dL_law_959 : decode cL_law 959 = .ok (.ireturn, 1) := by decide +kernel
theorem dL_law_960 : decode cL_law 960 = .ok (.aload_n 1, 1) := by decide +kernel
theorem dL_law_961 : decode cL_law 961 = .ok (.aload_n 0, 1) := by decide +kernel
theorem dL_law_962 : decode cL_law 962 = .ok (.iload_n 3, 1) := by decide +kernel
theorem dL_law_963 : decode cL_law 963 = .ok (.iconst 1, 1) := by decide +kernel
theorem dL_law_964 : decode cL_law 964 = .ok (.iadd, 1) := by decide +kernel
theorem dL_law_965 : decode cL_law 965 = .ok (.iaload, 1) := by decide +kernel
theorem dL_law_966 : decode cL_law 966 = .ok (.invokevirtual 121, 3) := by decide +kernel
theorem dL_law_969 : decode cL_law 969 = .ok (.aload_n 2, 1) := by decide +kernel
theorem dL_law_970 : decode cL_law 970 = .ok (.aload_n 0, 1) := by decide +kernel
theorem dL_law_971 : decode cL_law 971 = .ok (.iload_n 3, 1) := by decide +kernel
theorem dL_law_972 : decode cL_law 972 = .ok (.iconst 1, 1) := by decide +kernel
theorem dL_law_973 : decode cL_law 973 = .ok (.iadd, 1) := by decide +kernel
theorem dL_law_974 : decode cL_law 974 = .ok (.iaload, 1) := by decide +kernel
theorem dL_law_975 : decode cL_law 975 = .ok (.invokevirtual 124, 3) := by decide +kernel
theorem dL_law_978 : decode cL_law 978 = .ok (.if_icmp .eq 58, 3) := by decide +kernel
theorem dL_law_981 : decode cL_law 981 = .ok (.iconst 0, 1) := by decide +kernel
theorem dL_law_982 : decode cL_law 982 = .ok (.ireturn, 1) := by decide +kernel
theorem dL_law_983 : decode cL_law 983 = .ok (.aload_n 1, 1) := by decide +kernel
theorem dL_law_984 : decode cL_law 984 = .ok (.invokevirtual 125, 3) := by decide +kernel
theorem dL_law_987 : decode cL_law 987 = .ok (.aload_n 2, 1) := by decide +kernel
theorem dL_law_988 : decode cL_law 988 = .ok (.invokevirtual 128, 3) := by decide +kernel
theorem dL_law_991 : decode cL_law 991 = .ok (.if_icmp .eq 45, 3) := by decide +kernel
theorem dL_law_994 : decode cL_law 994 = .ok (.iconst 0, 1) := by decide +kernel
theorem dL_law_995 : decode cL_law 995 = .ok (.ireturn, 1) := by decide +kernel
theorem dL_law_996 : decode cL_law 996 = .ok (.aload_n 1, 1) := by decide +kernel
theorem dL_law_997 : decode cL_law 997 = .ok (.invokevirtual 129, 3) := by decide +kernel
theorem dL_law_1000 : decode cL_law 1000 = .ok (.aload_n 2, 1) := by decide +kernel
theorem dL_law_1001 : decode cL_law 1001 = .ok (.invokevirtual 132, 3) := by decide +kernel
theorem dL_law_1004 : decode cL_law 1004 = .ok (.if_icmp .eq 32, 3) := by decide +kernel
theorem dL_law_1007 : decode cL_law 1007 = .ok (.iconst 0, 1) := by decide +kernel
theorem dL_law_1008 : decode cL_law 1008 = .ok (.ireturn, 1) := by decide +kernel
theorem dL_law_1009 : decode cL_law 1009 = .ok (.aload_n 1, 1) := by decide +kernel
theorem dL_law_1010 : decode cL_law 1010 = .ok (.invokevirtual 133, 3) := by decide +kernel
theorem dL_law_1013 : decode cL_law 1013 = .ok (.aload_n 2, 1) := by decide +kernel
theorem dL_law_1014 : decode cL_law 1014 = .ok (.invokevirtual 136, 3) := by decide +kernel
theorem dL_law_1017 : decode cL_law 1017 = .ok (.if_icmp .eq 19, 3) := by decide +kernel
theorem dL_law_1020 : decode cL_law 1020 = .ok (.iconst 0, 1) := by decide +kernel
theorem dL_law_1021 : decode cL_law 1021 = .ok (.ireturn, 1) := by decide +kernel
theorem dL_law_1022 : decode cL_law 1022 = .ok (.aload_n 1, 1) := by decide +kernel
theorem dL_law_1023 : decode cL_law 1023 = .ok (.invokevirtual 137, 3) := by decide +kernel
theorem dL_law_1026 : decode cL_law 1026 = .ok (.aload_n 2, 1) := by decide +kernel
theorem dL_law_1027 : decode cL_law 1027 = .ok (.invokevirtual 141, 3) := by decide +kernel
theorem dL_law_1030 : decode cL_law 1030 = .ok (.lcmp, 1) := by decide +kernel
theorem dL_law_1031 : decode cL_law 1031 = .ok (.ifCond .eq 5, 3) := by decide +kernel
theorem dL_law_1034 : decode cL_law 1034 = .ok (.iconst 0, 1) := by decide +kernel
theorem dL_law_1035 : decode cL_law 1035 = .ok (.ireturn, 1) := by decide +kernel
theorem dL_law_1036 : decode cL_law 1036 = .ok (.iinc 3 4, 3) := by decide +kernel
theorem dL_law_1039 : decode cL_law 1039 = .ok (.goto (-1021), 3) := by decide +kernel
theorem dL_law_1042 : decode cL_law 1042 = .ok (.iconst 1, 1) := by decide +kernel
theorem dL_law_1043 : decode cL_law 1043 = .ok (.ireturn, 1) := by decide +kernel
end
section
/-! ===== base ===== -/
theorem br_p {α : Type} {c : Prop} [Decidable c] {a b v : α} (h : c) (k : v = a) : v = (if c then a else b) := by rw [if_pos h]; exact k
theorem br_n {α : Type} {c : Prop} [Decidable c] {a b v : α} (h : ¬ c) (k : v = b) : v = (if c then a else b) := by rw [if_neg h]; exact k
def tn (x : Int32) : Nat := x.toNatClampNeg
theorem tn_nI {n : Nat} (h : n < 2 ^ 31) : tn (nI n) = n := nI_clamp h
/-- what holds of a method's walk all along: the machine, the code, its return type, its locals, its class, the tables' words, no lock -/
def Cx (p : Program) (s : State) (m : MethodId) (meth : Method) (c : Code) (cc : ByteArray) (maxL : Nat) (ret : Option FieldType) (own : String) (Ts : List Cond) (args : Array Value) : Prop :=
  p.tables.exec = Jvm.exec ∧ c.code = cc ∧ meth.sig.returnType = ret ∧ c.maxLocals = maxL ∧ s.vm.findClass own = some m.cls ∧ (∀ w ∈ Ts, w.before args s = true) ∧ meth.locks = false
theorem hlN {l l' : List (Nat × Value)} {ls : Array Slot} {n : Nat} (h : lv_has ls n l) (e : l = l') : lv_has ls n l' := e ▸ h
theorem gd0 {c0 : Cond} : ∀ w ∈ W0, w ∈ c0 :: W0 ∧ ((w.onTables && w.keeps) = true ∨ ∃ ty, w = .arrayClass ty) := fun w h => ⟨List.mem_cons_of_mem _ h, (W0_g w h).2⟩
theorem gdV {c0 c1 : Cond} {own C : String} {idx : Nat} {y : MethodName} (h1 : Cond.methodLink own idx y ∈ W0) (h2 : Cond.instanceMethod y ∈ W0) (h3 : Cond.selects C y y ∈ W0) (h4 : Cond.initialized C ∈ W0) (h5 : c1 ∈ W0) : GoodIn (c0 :: W0) (wsV own idx C y (c1 :: W0)) := by
  intro w hw
  unfold wsV at hw
  simp only [List.cons_append, List.nil_append, List.mem_cons] at hw
  rcases hw with rfl | rfl | rfl | rfl | rfl | hw
  · exact gd0 _ h1
  · exact gd0 _ h2
  · exact gd0 _ h3
  · exact gd0 _ h4
  · exact gd0 _ h5
  · exact gd0 _ hw
theorem gdS {c0 c1 : Cond} {own : String} {idx : Nat} {y : MethodName} (h1 : Cond.methodLink own idx y ∈ W0) (h2 : Cond.static y ∈ W0) (h4 : Cond.initialized y.cls ∈ W0) (h5 : c1 ∈ W0) : GoodIn (c0 :: W0) (va_wsS own idx y (c1 :: W0)) := by
  intro w hw
  unfold va_wsS at hw
  simp only [List.cons_append, List.nil_append, List.mem_cons] at hw
  rcases hw with rfl | rfl | rfl | rfl | hw
  · exact gd0 _ h1
  · exact gd0 _ h2
  · exact gd0 _ h4
  · exact gd0 _ h5
  · exact gd0 _ hw
theorem gdI {c0 c1 : Cond} (h5 : c1 ∈ W0) : GoodIn (c0 :: W0) (c1 :: W0) := by
  intro w hw
  rcases List.mem_cons.mp hw with rfl | hw
  · exact gd0 _ h5
  · exact gd0 _ hw
/-- a contract, from the walk of its body -/
theorem st_gen {l : Launch} {y : MethodName} {ws' : List Cond} {rm : Room} {cc : ByteArray} {maxL : Nat} {ret : Option FieldType} {Qc : Array Value → State → Outcome → State → Prop} {mc ms : Nat} {free : Addr → Prop} {av : List Value} {Pre : State → Prop} {own : String}
    (hy : plainName y.cls = true) (hyc : y.cls = own) (hn : (lg_sl av).length ≤ maxL)
    (body : ∀ (p : Program) (e : Env) (s : State) (m : MethodId) (below : List Frame) (meth : Method) (c : Code) (ls : Array Slot), Cx p s m meth c cc maxL ret own (Cond.code y cc maxL ret :: ws') av.toArray → Pre s → lv_has ls maxL (lv_args 0 av) →
      W p l e rm s m av.toArray below meth c s.heap [] 0 0 (MQ below Qc av.toArray s mc ms free) (F0 m 0 ls [])) :
    Met l y (Cond.code y cc maxL ret :: ws') rm (va_Pc av Pre) Qc mc ms free := by
  refine Met.ofW (cc := cc) (maxL := maxL) (ret := ret) hy rfl ?_
  intro p e s m args below meth c s₁ B hml hv
  obtain ⟨rfl, hP⟩ := hv
  have hts := atoms_spec (ws := Cond.code y cc maxL ret :: ws') B.pre
  have hown : s.vm.findClass own = some m.cls := hyc ▸ findClass_of_methodNamed B.named
  rw [lg_entry_eq]
  exact body p e s m below meth c _ ⟨B.exec, B.bytes, B.returns, hml, hown, hts, B.notSynchronized⟩ hP (lv_entry av hn)
section BASE
variable {p : Program} {l : Launch} {e : Env} {R : Room} {s : State} {m : MethodId} {args : Array Value} {below : List Frame} {meth : Method} {c : Code} {H : Heap} {locs : List Loc} {cells slots : Nat} {Q : State → Prop} {cc : ByteArray} {maxL nL : Nat} {ret : Option FieldType} {own : String} {c0 : Cond} {pc : Nat} {ls : Array Slot} {rest st0 : List Value} {A0 : Nat → Prop} {H0 : Heap} {free : Addr → Prop}
/-- the end of a contract that changes nothing -/
theorem fin_i {w v : Int32} (hx : p.tables.exec = Jvm.exec) (hb : c.code = cc) (hr : meth.sig.returnType = some .int) (hlk : meth.locks = false) (h : v = w) (d : decode cc pc = .ok (.ireturn, 1)) :
    W p l e R s m args below meth c s.heap [] 0 0 (MQ below (vp_Si (fun r => r = w)) args s 0 0 (fun _ => False)) (F0 m pc ls [.int v]) :=
  W.iret hx hb hr (fun t ht _ => ⟨v, rfl, h, ht⟩) (fun q hq => absurd hq List.not_mem_nil) d hlk
theorem nar_z {v : Int32} (hz : v = 0 ∨ v = 1) : narrow .boolean (.int v) = .int v := by rcases hz with rfl | rfl <;> decide
theorem fin_z {w v : Int32} (hx : p.tables.exec = Jvm.exec) (hb : c.code = cc) (hr : meth.sig.returnType = some .boolean) (hlk : meth.locks = false) (hz : v = 0 ∨ v = 1) (h : v = w) (d : decode cc pc = .ok (.ireturn, 1)) :
    W p l e R s m args below meth c s.heap [] 0 0 (MQ below (vp_Si (fun r => r = w)) args s 0 0 (fun _ => False)) (F0 m pc ls [.int v]) :=
  W.zret hx hb hr (nar_z hz) (fun t ht _ => ⟨v, rfl, h, ht⟩) (fun q hq => absurd hq List.not_mem_nil) d hlk
theorem blind_true {av : List Value} : FrameBlind (va_Pc av (fun _ => True)) := fun _ _ _ _ q => ⟨q.1, trivial⟩
/-- a call that changes nothing: its answer is known -/
theorem cl_Si {a : Array Value} {v : Int32} (hr : va_Run p l e R s m args below meth c H locs cells slots 0 0 (F0 m pc ls st0) rest (vp_Si (fun r => r = v) a) (fun _ => False))
    (kk : W p l e R s m args below meth c H locs cells slots Q (F0 m (pc + 3) ls (.int v :: rest))) : W p l e R s m args below meth c H locs cells slots Q (F0 m pc ls st0) := by
  intro T hT X
  obtain ⟨v1, st₀, t, T', L, h0, X', hL, e1, e2, ⟨r, hv, hp, hh⟩, st⟩ := hr T hT X
  cases hv
  subst hp
  have hLn : L = [] := by
    cases L with
    | nil => rfl
    | cons q L => exact (hL q List.mem_cons_self).elim
  subst hLn
  rw [List.append_nil] at X'
  obtain ⟨t2, a1, b1⟩ := kk T' (e1.trans (hh.trans h0)) X'
  exact ⟨t2, st t2 a1, b1⟩
/-- a static call that changes nothing and needs nothing of the heap -/
theorem cl_S {y : MethodName} {bytes : ByteArray} {mL n index : Nat} {rt : Option FieldType} {ws : List Cond} {rm : Room} {As : List Value} {v : Int32} (hx : p.tables.exec = Jvm.exec) (hb : c.code = cc) (hml : c.maxLocals = nL) (hown : s.vm.findClass own = some m.cls) (hts : ∀ w ∈ c0 :: W0, w.before args s = true)
    (hM : Met l y ws rm (va_Pc As (fun _ => True)) (vp_Si (fun r => r = v)) 0 0 (fun _ => False)) (cw : CallB R s args own index y bytes mL rt ws rm 0 0 n ∧ (Cond.static y).before args s = true)
    (hn : As.length = n) (hsize : ls.size = nL) (hst : st0 = As.reverse ++ rest) (hW : (rest.map fun v => v.category).sum ≤ 8) (d : decode cc pc = .ok (.invokestatic index, 3)) (hc : cells ≤ R.cells) (hs : slots ≤ R.slots)
    (kk : W p l e R s m args below meth c H locs cells slots Q (F0 m (pc + 3) ls (.int v :: rest))) : W p l e R s m args below meth c H locs cells slots Q (F0 m pc ls st0) :=
  cl_Si (va_runS (As := As) (rest := rest) ⟨hx, hb, hml, hown, hts⟩ hM cw ⟨blind_true, fun _ _ _ => ⟨rfl, trivial⟩⟩ rfl hn hsize hst (lv_room hW) d ⟨hc, hs⟩) kk
-- indices and counters as natural numbers
theorem nI_c1 (k : Nat) : nI k + Int32.ofInt 1 = nI (k + 1) := nI_1 k
theorem nI_cm1 (k : Nat) : nI (k + 1) + Int32.ofInt (-1) = nI k := pk_m1 k
theorem lv_iaddN {x y : Nat} (hx : p.tables.exec = Jvm.exec) (hb : c.code = cc) {u v : Int32} (hu : u = nI x) (hv : v = nI y) (hdg : decode cc pc = .ok (.iadd, 1))
    (k : W p l e R s m args below meth c H locs cells slots Q (F0 m (pc + 1) ls (.int (nI (x + y)) :: rest))) : W p l e R s m args below meth c H locs cells slots Q (F0 m pc ls (.int v :: .int u :: rest)) := by
  subst hu; subst hv; exact lv_iadd hx hb hdg (by rw [nI_add]; exact k)
theorem lv_imulN {x y : Nat} (hx : p.tables.exec = Jvm.exec) (hb : c.code = cc) {u v : Int32} (hu : u = nI x) (hv : v = nI y) (hdg : decode cc pc = .ok (.imul, 1))
    (k : W p l e R s m args below meth c H locs cells slots Q (F0 m (pc + 1) ls (.int (nI (x * y)) :: rest))) : W p l e R s m args below meth c H locs cells slots Q (F0 m pc ls (.int v :: .int u :: rest)) := by
  subst hu; subst hv; exact lv_imul hx hb hdg (by rw [pk_mul]; exact k)
theorem lv_isubN {x y : Nat} (hx : p.tables.exec = Jvm.exec) (hb : c.code = cc) {u v : Int32} (hu : u = nI x) (hv : v = nI y) (hyx : y ≤ x) (hdg : decode cc pc = .ok (.isub, 1))
    (k : W p l e R s m args below meth c H locs cells slots Q (F0 m (pc + 1) ls (.int (nI (x - y)) :: rest))) : W p l e R s m args below meth c H locs cells slots Q (F0 m pc ls (.int v :: .int u :: rest)) := by
  subst hu; subst hv; exact lv_isub hx hb hdg (by rw [pk_sub hyx]; exact k)
theorem lv_icmp_geN (a b : Nat) (hx : p.tables.exec = Jvm.exec) (hb : c.code = cc) {x y : Int32} (hxa : x = nI a) (hyb : y = nI b) (ha : a < 2 ^ 31) (hb2 : b < 2 ^ 31) {off : Int} {tgt : Nat} (hdg : decode cc pc = .ok (.if_icmp .ge off, 3)) (ht : (pc : Int) + off = (tgt : Int))
    (kt : b ≤ a → W p l e R s m args below meth c H locs cells slots Q (F0 m tgt ls rest)) (kf : ¬ b ≤ a → W p l e R s m args below meth c H locs cells slots Q (F0 m (pc + 3) ls rest)) : W p l e R s m args below meth c H locs cells slots Q (F0 m pc ls (.int y :: .int x :: rest)) := by
  subst hxa; subst hyb
  exact lv_icmp_ge hx hb hdg ht (fun q => kt ((nI_leI hb2 ha).mp q)) (fun q => kf (fun z => q ((nI_leI hb2 ha).mpr z)))
theorem lv_icmp_ltN (a b : Nat) (hx : p.tables.exec = Jvm.exec) (hb : c.code = cc) {x y : Int32} (hxa : x = nI a) (hyb : y = nI b) (ha : a < 2 ^ 31) (hb2 : b < 2 ^ 31) {off : Int} {tgt : Nat} (hdg : decode cc pc = .ok (.if_icmp .lt off, 3)) (ht : (pc : Int) + off = (tgt : Int))
    (kt : a < b → W p l e R s m args below meth c H locs cells slots Q (F0 m tgt ls rest)) (kf : ¬ a < b → W p l e R s m args below meth c H locs cells slots Q (F0 m (pc + 3) ls rest)) : W p l e R s m args below meth c H locs cells slots Q (F0 m pc ls (.int y :: .int x :: rest)) := by
  subst hxa; subst hyb
  exact lv_icmp_lt hx hb hdg ht (fun q => kt ((nI_ltI ha hb2).mp q)) (fun q => kf (fun z => q ((nI_ltI ha hb2).mpr z)))
theorem lv_icmp_gtN (a b : Nat) (hx : p.tables.exec = Jvm.exec) (hb : c.code = cc) {x y : Int32} (hxa : x = nI a) (hyb : y = nI b) (ha : a < 2 ^ 31) (hb2 : b < 2 ^ 31) {off : Int} {tgt : Nat} (hdg : decode cc pc = .ok (.if_icmp .gt off, 3)) (ht : (pc : Int) + off = (tgt : Int))
    (kt : b < a → W p l e R s m args below meth c H locs cells slots Q (F0 m tgt ls rest)) (kf : ¬ b < a → W p l e R s m args below meth c H locs cells slots Q (F0 m (pc + 3) ls rest)) : W p l e R s m args below meth c H locs cells slots Q (F0 m pc ls (.int y :: .int x :: rest)) := by
  subst hxa; subst hyb
  exact lv_icmp_gt hx hb hdg ht (fun q => kt ((nI_ltI hb2 ha).mp q)) (fun q => kf (fun z => q ((nI_ltI hb2 ha).mpr z)))
theorem lv_icmp_leN (a b : Nat) (hx : p.tables.exec = Jvm.exec) (hb : c.code = cc) {x y : Int32} (hxa : x = nI a) (hyb : y = nI b) (ha : a < 2 ^ 31) (hb2 : b < 2 ^ 31) {off : Int} {tgt : Nat} (hdg : decode cc pc = .ok (.if_icmp .le off, 3)) (ht : (pc : Int) + off = (tgt : Int))
    (kt : a ≤ b → W p l e R s m args below meth c H locs cells slots Q (F0 m tgt ls rest)) (kf : ¬ a ≤ b → W p l e R s m args below meth c H locs cells slots Q (F0 m (pc + 3) ls rest)) : W p l e R s m args below meth c H locs cells slots Q (F0 m pc ls (.int y :: .int x :: rest)) := by
  subst hxa; subst hyb
  exact lv_icmp_le hx hb hdg ht (fun q => kt ((nI_leI ha hb2).mp q)) (fun q => kf (fun z => q ((nI_leI ha hb2).mpr z)))
theorem lv_icmp_eqN (a b : Nat) (hx : p.tables.exec = Jvm.exec) (hb : c.code = cc) {x y : Int32} (hxa : x = nI a) (hyb : y = nI b) (ha : a < 2 ^ 31) (hb2 : b < 2 ^ 31) {off : Int} {tgt : Nat} (hdg : decode cc pc = .ok (.if_icmp .eq off, 3)) (ht : (pc : Int) + off = (tgt : Int))
    (kt : a = b → W p l e R s m args below meth c H locs cells slots Q (F0 m tgt ls rest)) (kf : ¬ a = b → W p l e R s m args below meth c H locs cells slots Q (F0 m (pc + 3) ls rest)) : W p l e R s m args below meth c H locs cells slots Q (F0 m pc ls (.int y :: .int x :: rest)) := by
  subst hxa; subst hyb
  exact lv_icmp_eq hx hb hdg ht (fun q => kt ((nI_eq ha hb2).mp q)) (fun q => kf (fun z => q ((nI_eq ha hb2).mpr z)))
theorem lv_icmp_neN (a b : Nat) (hx : p.tables.exec = Jvm.exec) (hb : c.code = cc) {x y : Int32} (hxa : x = nI a) (hyb : y = nI b) (ha : a < 2 ^ 31) (hb2 : b < 2 ^ 31) {off : Int} {tgt : Nat} (hdg : decode cc pc = .ok (.if_icmp .ne off, 3)) (ht : (pc : Int) + off = (tgt : Int))
    (kt : ¬ a = b → W p l e R s m args below meth c H locs cells slots Q (F0 m tgt ls rest)) (kf : a = b → W p l e R s m args below meth c H locs cells slots Q (F0 m (pc + 3) ls rest)) : W p l e R s m args below meth c H locs cells slots Q (F0 m pc ls (.int y :: .int x :: rest)) := by
  subst hxa; subst hyb
  exact lv_icmp_ne hx hb hdg ht (fun q => kt (fun z => q ((nI_eq ha hb2).mpr z))) (fun q => kf ((nI_eq ha hb2).mp q))
theorem lv_if_eqN (a : Nat) (hx : p.tables.exec = Jvm.exec) (hb : c.code = cc) {x : Int32} (hxa : x = nI a) (ha : a < 2 ^ 31) {off : Int} {tgt : Nat} (hdg : decode cc pc = .ok (.ifCond .eq off, 3)) (ht : (pc : Int) + off = (tgt : Int))
    (kt : a = 0 → W p l e R s m args below meth c H locs cells slots Q (F0 m tgt ls rest)) (kf : ¬ a = 0 → W p l e R s m args below meth c H locs cells slots Q (F0 m (pc + 3) ls rest)) : W p l e R s m args below meth c H locs cells slots Q (F0 m pc ls (.int x :: rest)) := by
  subst hxa
  exact lv_if_eq hx hb hdg ht (fun q => kt ((nI_eq ha (by decide) (b := 0)).mp q)) (fun q => kf (fun z => q ((nI_eq ha (by decide) (b := 0)).mpr z)))
theorem lv_if_neN (a : Nat) (hx : p.tables.exec = Jvm.exec) (hb : c.code = cc) {x : Int32} (hxa : x = nI a) (ha : a < 2 ^ 31) {off : Int} {tgt : Nat} (hdg : decode cc pc = .ok (.ifCond .ne off, 3)) (ht : (pc : Int) + off = (tgt : Int))
    (kt : ¬ a = 0 → W p l e R s m args below meth c H locs cells slots Q (F0 m tgt ls rest)) (kf : a = 0 → W p l e R s m args below meth c H locs cells slots Q (F0 m (pc + 3) ls rest)) : W p l e R s m args below meth c H locs cells slots Q (F0 m pc ls (.int x :: rest)) := by
  subst hxa
  exact lv_if_ne hx hb hdg ht (fun q => kt (fun z => q ((nI_eq ha (by decide) (b := 0)).mpr z))) (fun q => kf ((nI_eq ha (by decide) (b := 0)).mp q))
theorem lv_if_gtN (a : Nat) (hx : p.tables.exec = Jvm.exec) (hb : c.code = cc) {x : Int32} (hxa : x = nI a) (ha : a < 2 ^ 31) {off : Int} {tgt : Nat} (hdg : decode cc pc = .ok (.ifCond .gt off, 3)) (ht : (pc : Int) + off = (tgt : Int))
    (kt : 0 < a → W p l e R s m args below meth c H locs cells slots Q (F0 m tgt ls rest)) (kf : ¬ 0 < a → W p l e R s m args below meth c H locs cells slots Q (F0 m (pc + 3) ls rest)) : W p l e R s m args below meth c H locs cells slots Q (F0 m pc ls (.int x :: rest)) := by
  subst hxa
  exact lv_if_gt hx hb hdg ht (fun q => kt ((nI_ltI (a := 0) (by decide) ha).mp q)) (fun q => kf (fun z => q ((nI_ltI (a := 0) (by decide) ha).mpr z)))
theorem lv_if_leN (a : Nat) (hx : p.tables.exec = Jvm.exec) (hb : c.code = cc) {x : Int32} (hxa : x = nI a) (ha : a < 2 ^ 31) {off : Int} {tgt : Nat} (hdg : decode cc pc = .ok (.ifCond .le off, 3)) (ht : (pc : Int) + off = (tgt : Int))
    (kt : a = 0 → W p l e R s m args below meth c H locs cells slots Q (F0 m tgt ls rest)) (kf : ¬ a = 0 → W p l e R s m args below meth c H locs cells slots Q (F0 m (pc + 3) ls rest)) : W p l e R s m args below meth c H locs cells slots Q (F0 m pc ls (.int x :: rest)) := by
  subst hxa
  exact lv_if_le hx hb hdg ht (fun q => kt (((nI_leI ha (by decide) (b := 0)).trans Nat.le_zero).mp q)) (fun q => kf (fun z => q (((nI_leI ha (by decide) (b := 0)).trans Nat.le_zero).mpr z)))
theorem dec_lt {k : Nat} (h : k < 2 ^ 31) : nI k - 1 < 0 ↔ k = 0 := by
  cases k with
  | zero => exact ⟨fun _ => rfl, fun _ => by decide⟩
  | succ n => rw [nI_pred]; exact ⟨fun q => absurd q (nI_pos (by omega)), fun q => by cases q⟩
theorem lv_if_ltD (k : Nat) (hx : p.tables.exec = Jvm.exec) (hb : c.code = cc) {x : Int32} (hxk : x = nI k - 1) (hk : k < 2 ^ 31) {off : Int} {tgt : Nat} (hdg : decode cc pc = .ok (.ifCond .lt off, 3)) (ht : (pc : Int) + off = (tgt : Int))
    (kt : k = 0 → W p l e R s m args below meth c H locs cells slots Q (F0 m tgt ls rest)) (kf : ¬ k = 0 → W p l e R s m args below meth c H locs cells slots Q (F0 m (pc + 3) ls rest)) : W p l e R s m args below meth c H locs cells slots Q (F0 m pc ls (.int x :: rest)) := by
  subst hxk
  exact lv_if_lt hx hb hdg ht (fun q => kt ((dec_lt hk).mp q)) (fun q => kf (fun z => q ((dec_lt hk).mpr z)))
theorem dec_at {k : Nat} (h : ¬ k = 0) : nI k - 1 = nI (k - 1) := pk_sub (b := 1) (by omega)
theorem dec_inc {k : Nat} (h : ¬ k = 0) : nI k - 1 + Int32.ofInt (-1) = nI (k - 1) - 1 := by rw [dec_at h]; exact (Int32.sub_eq_add_neg _ _).symm
theorem nI_cd {k : Nat} (h : 0 < k) : nI k + Int32.ofInt (-1) = nI (k - 1) := by
  obtain ⟨j, rfl⟩ : ∃ j, k = j + 1 := ⟨k - 1, by omega⟩
  exact pk_m1 j
theorem r_max (hx : p.tables.exec = Jvm.exec) (hb : c.code = cc) (hml : c.maxLocals = nL) (hown : s.vm.findClass own = some m.cls) (hts : ∀ w ∈ c0 :: W0, w.before args s = true) (hsize : ls.size = nL) {index : Nat} (hl : Cond.methodLink own index yJ9_max_7cf53 ∈ W0)
    (hframes : 1 ≤ R.frames) (hlocals : (rest.map fun v => v.category).sum + 13 ≤ R.locals) (hc : cells ≤ R.cells) (hs : slots ≤ R.slots) {x y : Int32} (hdg : decode cc pc = .ok (.invokestatic index, 3))
    (kk : W p l e R s m args below meth c H locs cells slots Q (F0 m (pc + 3) ls (.int (if x < y then y else x) :: rest))) : W p l e R s m args below meth c H locs cells slots Q (F0 m pc ls (.int y :: .int x :: rest)) :=
  va_mmax hx hb (hml.trans hsize.symm) hown (hts _ (List.mem_cons_of_mem _ hl)) (hts _ (List.mem_cons_of_mem _ mst_yJ9_max_7cf53)) (hts _ (List.mem_cons_of_mem _ mini_J9)) (hts _ (List.mem_cons_of_mem _ mc_yJ9_max_7cf53)) hframes hlocals hc hs hdg kk
theorem r_min (hx : p.tables.exec = Jvm.exec) (hb : c.code = cc) (hml : c.maxLocals = nL) (hown : s.vm.findClass own = some m.cls) (hts : ∀ w ∈ c0 :: W0, w.before args s = true) (hsize : ls.size = nL) {index : Nat} (hl : Cond.methodLink own index yJ9_min_7cf53 ∈ W0)
    (hframes : 1 ≤ R.frames) (hlocals : (rest.map fun v => v.category).sum + 13 ≤ R.locals) (hc : cells ≤ R.cells) (hs : slots ≤ R.slots) {x y : Int32} (hdg : decode cc pc = .ok (.invokestatic index, 3))
    (kk : W p l e R s m args below meth c H locs cells slots Q (F0 m (pc + 3) ls (.int (if y < x then y else x) :: rest))) : W p l e R s m args below meth c H locs cells slots Q (F0 m pc ls (.int y :: .int x :: rest)) :=
  va_mmin hx hb (hml.trans hsize.symm) hown (hts _ (List.mem_cons_of_mem _ hl)) (hts _ (List.mem_cons_of_mem _ mst_yJ9_min_7cf53)) (hts _ (List.mem_cons_of_mem _ mini_J9)) (hts _ (List.mem_cons_of_mem _ mc_yJ9_min_7cf53)) hframes hlocals hc hs hdg kk
theorem ne_toInt {x : Int32} {k : Int32} (h : ¬ x = k) : x.toInt ≠ k.toInt := fun q => h (Int32.toInt_inj.mp q)
theorem lv_sw_in {dflt lo hi : Int} {offs : Array Int} {len : Nat} {x k : Int32} {off : Int} {tgt : Nat} (hx : p.tables.exec = Jvm.exec) (hb : c.code = cc) (hdg : decode cc pc = .ok (.tableswitch dflt lo hi offs, len)) (h : x = k) (h1 : ¬ k.toInt < lo) (h2 : ¬ hi < k.toInt) (ho : offs[(k.toInt - lo).toNat]? = some off) (ht : (pc : Int) + off = (tgt : Int))
    (kk : W p l e R s m args below meth c H locs cells slots Q (F0 m tgt ls rest)) : W p l e R s m args below meth c H locs cells slots Q (F0 m pc ls (.int x :: rest)) := by
  subst h; exact lv_tableIn hx hb hdg h1 h2 ho ht kk
end BASE
def shU (σ : Nat → Nat → Int32) (k j : Nat) (x : Int32) : Nat → Nat → Int32 := va_up σ k (upd (σ k) j x)
def shS (σ : Nat → Nat → Int32) (k : Nat) (x : Int32) : Nat → Nat → Int32 := va_up σ k (fun _ => x)
theorem va_D_fst {A : Nat → Prop} {ws ws' : va_W} (h : ws.map Prod.fst = ws'.map Prod.fst) (hD : va_D A ws) : va_D A ws' := by
  have key : ∀ (i : Nat) (q : Nat × va_E), ws'[i]? = some q → ∃ e, ws[i]? = some (q.1, e) := by
    intro i q hq
    have h1 : (ws'.map Prod.fst)[i]? = some q.1 := by rw [List.getElem?_map, hq]; rfl
    rw [← h, List.getElem?_map] at h1
    cases hw : ws[i]? with
    | none => rw [hw] at h1; cases h1
    | some z => rw [hw] at h1; exact ⟨z.2, by rw [← Option.some.inj h1]⟩
  refine ⟨fun i j x y hx hy hxy => ?_, fun k q hq => ?_⟩
  · obtain ⟨e1, k1⟩ := key i x hx
    obtain ⟨e2, k2⟩ := key j y hy
    exact hD.1 i j _ _ k1 k2 hxy
  · obtain ⟨e1, k1⟩ := key k q hq
    exact (hD.2 k (q.1, e1) k1 : A q.1)
/-! ===== world sh: an object of BookRental$Shop and its rows ===== -/
def shW (cI : ClassId) (o : Nat) (a : Nat → Nat) (σ : Nat → Nat → Int32) : va_W :=
  [(o, .inr (2, [.int (σ 0 0), .int (σ 1 0), .int (σ 2 0), .int (σ 3 0), .ref (a 4), .ref (a 5), .ref (a 6), .ref (a 7), .ref (a 8), .ref (a 9), .ref (a 10), .ref (a 11), .ref (a 12), .ref (a 13), .ref (a 14), .ref (a 15), .ref (a 16), .ref (a 17)])), (a 4, .inl (cI, 4, .inl (σ 4))), (a 5, .inl (cI, 6, .inl (σ 5))), (a 6, .inl (cI, 6, .inl (σ 6))), (a 7, .inl (cI, 6, .inl (σ 7))), (a 8, .inl (cI, 6, .inl (σ 8))), (a 9, .inl (cI, 6, .inl (σ 9))), (a 10, .inl (cI, 60, .inl (σ 10))), (a 11, .inl (cI, 60, .inl (σ 11))), (a 12, .inl (cI, 60, .inl (σ 12))), (a 13, .inl (cI, 60, .inl (σ 13))), (a 14, .inl (cI, 60, .inl (σ 14))), (a 15, .inl (cI, 60, .inl (σ 15))), (a 16, .inl (cI, 7, .inl (σ 16))), (a 17, .inl (cI, 8, .inl (σ 17)))]
def shA (o : Nat) (a : Nat → Nat) : Nat → Prop := fun q => q = o ∨ q = a 4 ∨ q = a 5 ∨ q = a 6 ∨ q = a 7 ∨ q = a 8 ∨ q = a 9 ∨ q = a 10 ∨ q = a 11 ∨ q = a 12 ∨ q = a 13 ∨ q = a 14 ∨ q = a 15 ∨ q = a 16 ∨ q = a 17
def shD (o : Nat) (a : Nat → Nat) : Prop := va_D (fun _ => True) (shW 0 o a (fun _ _ => 0))
theorem shD_of {cI : ClassId} {o : Nat} {a : Nat → Nat} {σ : Nat → Nat → Int32} (h : shD o a) : va_D (shA o a) (shW cI o a σ) := by
  have h1 : va_D (fun _ => True) (shW cI o a σ) := va_D_fst (ws := shW 0 o a (fun _ _ => 0)) rfl h
  refine ⟨h1.1, fun k q hq => ?_⟩
  match k, hq with
  | 0, hq => cases hq; exact Or.inl rfl
  | 1, hq => cases hq; exact Or.inr (Or.inl rfl)
  | 2, hq => cases hq; exact Or.inr (Or.inr (Or.inl rfl))
  | 3, hq => cases hq; exact Or.inr (Or.inr (Or.inr (Or.inl rfl)))
  | 4, hq => cases hq; exact Or.inr (Or.inr (Or.inr (Or.inr (Or.inl rfl))))
  | 5, hq => cases hq; exact Or.inr (Or.inr (Or.inr (Or.inr (Or.inr (Or.inl rfl)))))
  | 6, hq => cases hq; exact Or.inr (Or.inr (Or.inr (Or.inr (Or.inr (Or.inr (Or.inl rfl))))))
  | 7, hq => cases hq; exact Or.inr (Or.inr (Or.inr (Or.inr (Or.inr (Or.inr (Or.inr (Or.inl rfl)))))))
  | 8, hq => cases hq; exact Or.inr (Or.inr (Or.inr (Or.inr (Or.inr (Or.inr (Or.inr (Or.inr (Or.inl rfl))))))))
  | 9, hq => cases hq; exact Or.inr (Or.inr (Or.inr (Or.inr (Or.inr (Or.inr (Or.inr (Or.inr (Or.inr (Or.inl rfl)))))))))
  | 10, hq => cases hq; exact Or.inr (Or.inr (Or.inr (Or.inr (Or.inr (Or.inr (Or.inr (Or.inr (Or.inr (Or.inr (Or.inl rfl))))))))))
  | 11, hq => cases hq; exact Or.inr (Or.inr (Or.inr (Or.inr (Or.inr (Or.inr (Or.inr (Or.inr (Or.inr (Or.inr (Or.inr (Or.inl rfl)))))))))))
  | 12, hq => cases hq; exact Or.inr (Or.inr (Or.inr (Or.inr (Or.inr (Or.inr (Or.inr (Or.inr (Or.inr (Or.inr (Or.inr (Or.inr (Or.inl rfl))))))))))))
  | 13, hq => cases hq; exact Or.inr (Or.inr (Or.inr (Or.inr (Or.inr (Or.inr (Or.inr (Or.inr (Or.inr (Or.inr (Or.inr (Or.inr (Or.inr (Or.inl rfl)))))))))))))
  | 14, hq => cases hq; exact Or.inr (Or.inr (Or.inr (Or.inr (Or.inr (Or.inr (Or.inr (Or.inr (Or.inr (Or.inr (Or.inr (Or.inr (Or.inr (Or.inr (rfl))))))))))))))
  | k + 15, hq => cases hq
def shP (D : va_G) (cI : ClassId) (o : Nat) (a : Nat → Nat) (σ : Nat → Nat → Int32) (U : State) : Prop := va_P D vwCl (shW cI o a σ) U.heap ∧ va_K D vwCl [(cI, .int)] U
def shM (D : va_G) (cI : ClassId) (o : Nat) (a : Nat → Nat) (σ : Nat → Nat → Int32) (U : State) : Prop := shP D cI o a σ U ∧ shD o a
theorem sh_blind {av : List Value} {D : va_G} {cI : ClassId} {o : Nat} {a : Nat → Nat} {σ : Nat → Nat → Int32} : FrameBlind (va_Pc av (shP D cI o a σ)) := fun b U g mk q => ⟨q.1, q.2.1, va_K.moved (u := U) (U := U.calling g mk b) (Vm.Alike.refl U.vm) q.2.2⟩
theorem sh_blindM {av : List Value} {D : va_G} {cI : ClassId} {o : Nat} {a : Nat → Nat} {σ : Nat → Nat → Int32} : FrameBlind (va_Pc av (shM D cI o a σ)) := fun b U g mk q => ⟨q.1, ⟨q.2.1.1, va_K.moved (u := U) (U := U.calling g mk b) (Vm.Alike.refl U.vm) q.2.1.2⟩, q.2.2⟩
/-- the end of a contract that changes the world: an int, or nothing, and the new state -/
def shQ (D : va_G) (cI : ClassId) (o : Nat) (a : Nat → Nat) (w : Int32 × (Nat → Nat → Int32)) : Array Value → State → Outcome → State → Prop := fun _ st oc t => oc = .returned (some (.int w.1)) ∧ shP D cI o a w.2 t ∧ va_F (shA o a) st t
def shV (D : va_G) (cI : ClassId) (o : Nat) (a : Nat → Nat) (w : Nat → Nat → Int32) : Array Value → State → Outcome → State → Prop := fun _ st oc t => oc = .returned none ∧ shP D cI o a w t ∧ va_F (shA o a) st t
section SH
variable {p : Program} {l : Launch} {e : Env} {R : Room} {s : State} {m : MethodId} {args : Array Value} {below : List Frame} {meth : Method} {c : Code} {H : Heap} {locs : List Loc} {cells slots : Nat} {Q : State → Prop} {cc : ByteArray} {maxL nL : Nat} {ret : Option FieldType} {own : String} {c0 : Cond} {pc : Nat} {ls : Array Slot} {rest st0 : List Value} {A0 : Nat → Prop} {H0 : Heap} {free : Addr → Prop} {D : va_G} {cI : ClassId} {o : Nat} {a : Nat → Nat} {σ : Nat → Nat → Int32}
/-- a call on the same object that changes nothing -/
theorem sh_call {y : MethodName} {bytes : ByteArray} {mL n index : Nat} {rt : Option FieldType} {ws : List Cond} {rm : Room} {As : List Value} {v : Int32} (hx : p.tables.exec = Jvm.exec) (hb : c.code = cc) (hml : c.maxLocals = nL) (hown : s.vm.findClass own = some m.cls) (hts : ∀ w ∈ c0 :: W0, w.before args s = true) (hK : va_K D vwCl [(cI, .int)] s) (hP : va_P D vwCl (shW cI o a σ) H)
    (hM : Met l y ws rm (va_Pc (.ref o :: As) (shP D cI o a σ)) (vp_Si (fun r => r = v)) 0 0 (fun _ => False)) (cw : CallW R s args own RX2 index y bytes mL rt ws rm 0 0 n)
    (hn : As.length = n) (hsize : ls.size = nL) (hst : st0 = As.reverse ++ .ref o :: rest) (hW : (rest.map fun v => v.category).sum ≤ 8) (d : decode cc pc = .ok (.invokevirtual index, 3)) (hc : cells ≤ R.cells) (hs : slots ≤ R.slots)
    (kk : W p l e R s m args below meth c H locs cells slots Q (F0 m (pc + 3) ls (.int v :: rest))) : W p l e R s m args below meth c H locs cells slots Q (F0 m pc ls st0) :=
  cl_Si (va_runV (As := As) (rest := rest) ⟨hx, hb, hml, hown, hts⟩ hM cw ⟨sh_blind, va_recv (ci := 2) (q0 := 0) hK hP rfl rfl, fun U hU hW => ⟨rfl, by rw [hU]; exact hP, va_K.moved hW.alike hK⟩⟩ rfl hn hsize hst (lv_room hW) d ⟨hc, hs⟩) kk
/-- a call on the same object that changes it, and answers an int -/
theorem sh_callM {y : MethodName} {bytes : ByteArray} {mL n index : Nat} {rt : Option FieldType} {ws : List Cond} {rm : Room} {As : List Value} {w : Int32 × (Nat → Nat → Int32)} (hx : p.tables.exec = Jvm.exec) (hb : c.code = cc) (hml : c.maxLocals = nL) (hown : s.vm.findClass own = some m.cls) (hts : ∀ w ∈ c0 :: W0, w.before args s = true) (hK : va_K D vwCl [(cI, .int)] s) (hP : va_P D vwCl (shW cI o a σ) H) (hD : shD o a) (hS : va_S (shA o a) H0 H locs)
    (hM : Met l y ws rm (va_Pc (.ref o :: As) (shM D cI o a σ)) (shQ D cI o a w) 0 0 (shA o a)) (cw : CallW R s args own RX2 index y bytes mL rt ws rm 0 0 n)
    (hn : As.length = n) (hsize : ls.size = nL) (hst : st0 = As.reverse ++ .ref o :: rest) (hW : (rest.map fun v => v.category).sum ≤ 8) (d : decode cc pc = .ok (.invokevirtual index, 3)) (hc : cells ≤ R.cells) (hs : slots ≤ R.slots)
    (kk : ∀ (H1 : Heap) (locs1 : List Loc), va_P D vwCl (shW cI o a w.2) H1 → va_S (shA o a) H0 H1 locs1 → W p l e R s m args below meth c H1 locs1 cells slots Q (F0 m (pc + 3) ls (.int w.1 :: rest))) : W p l e R s m args below meth c H locs cells slots Q (F0 m pc ls st0) := by
  have hr := va_runV (As := As) (rest := rest) (locs := locs) (slots := slots) (below := below) (meth := meth) (p := p) (e := e) ⟨hx, hb, hml, hown, hts⟩ hM cw ⟨sh_blindM, va_recv (ci := 2) (q0 := 0) hK hP rfl rfl, fun U hU hW => ⟨rfl, ⟨by rw [hU]; exact hP, va_K.moved hW.alike hK⟩, hD⟩⟩ (g := F0 m pc ls st0) rfl hn hsize hst (lv_room hW) d ⟨hc, hs⟩
  intro T hT X
  obtain ⟨v1, st₀, t, T', L, h0, X', hL, e1, e2, ⟨hv, hp, hF⟩, st⟩ := hr T hT X
  cases hv
  obtain ⟨t2, a1, b1⟩ := kk T'.heap (locs ++ L) (by rw [e1]; exact hp.1) ⟨Nat.le_trans hS.1 (by rw [e1, ← h0]; exact hF.1), fun q h1 h2 => by rw [e1, hF.2 q (by rw [h0]; exact Nat.lt_of_lt_of_le h1 hS.1) h2, h0]; exact hS.2.1 q h1 h2, fun q hq => by
      rcases List.mem_append.mp hq with h | h
      · exact hS.2.2 q h
      · exact hL q h⟩ T' rfl X'
  exact ⟨t2, st t2 a1, b1⟩
theorem sh_callV {y : MethodName} {bytes : ByteArray} {mL n index : Nat} {rt : Option FieldType} {ws : List Cond} {rm : Room} {As : List Value} {w : Nat → Nat → Int32} (hx : p.tables.exec = Jvm.exec) (hb : c.code = cc) (hml : c.maxLocals = nL) (hown : s.vm.findClass own = some m.cls) (hts : ∀ w ∈ c0 :: W0, w.before args s = true) (hK : va_K D vwCl [(cI, .int)] s) (hP : va_P D vwCl (shW cI o a σ) H) (hD : shD o a) (hS : va_S (shA o a) H0 H locs)
    (hM : Met l y ws rm (va_Pc (.ref o :: As) (shM D cI o a σ)) (shV D cI o a w) 0 0 (shA o a)) (cw : CallW R s args own RX2 index y bytes mL rt ws rm 0 0 n)
    (hn : As.length = n) (hsize : ls.size = nL) (hst : st0 = As.reverse ++ .ref o :: rest) (hW : (rest.map fun v => v.category).sum ≤ 8) (d : decode cc pc = .ok (.invokevirtual index, 3)) (hc : cells ≤ R.cells) (hs : slots ≤ R.slots)
    (kk : ∀ (H1 : Heap) (locs1 : List Loc), va_P D vwCl (shW cI o a w) H1 → va_S (shA o a) H0 H1 locs1 → W p l e R s m args below meth c H1 locs1 cells slots Q (F0 m (pc + 3) ls rest)) : W p l e R s m args below meth c H locs cells slots Q (F0 m pc ls st0) := by
  have hr := va_runV (As := As) (rest := rest) (locs := locs) (slots := slots) (below := below) (meth := meth) (p := p) (e := e) ⟨hx, hb, hml, hown, hts⟩ hM cw ⟨sh_blindM, va_recv (ci := 2) (q0 := 0) hK hP rfl rfl, fun U hU hW => ⟨rfl, ⟨by rw [hU]; exact hP, va_K.moved hW.alike hK⟩, hD⟩⟩ (g := F0 m pc ls st0) rfl hn hsize hst (lv_room hW) d ⟨hc, hs⟩
  intro T hT X
  obtain ⟨v1, st₀, t, T', L, h0, X', hL, e1, e2, ⟨hv, hp, hF⟩, st⟩ := hr T hT X
  cases hv
  obtain ⟨t2, a1, b1⟩ := kk T'.heap (locs ++ L) (by rw [e1]; exact hp.1) ⟨Nat.le_trans hS.1 (by rw [e1, ← h0]; exact hF.1), fun q h1 h2 => by rw [e1, hF.2 q (by rw [h0]; exact Nat.lt_of_lt_of_le h1 hS.1) h2, h0]; exact hS.2.1 q h1 h2, fun q hq => by
      rcases List.mem_append.mp hq with h | h
      · exact hS.2.2 q h
      · exact hL q h⟩ T' rfl X'
  exact ⟨t2, st t2 a1, b1⟩
theorem sh_finM {w : Int32 × (Nat → Nat → Int32)} {v : Int32} (hx : p.tables.exec = Jvm.exec) (hb : c.code = cc) (hr : meth.sig.returnType = some .int) (hlk : meth.locks = false) (hK : va_K D vwCl [(cI, .int)] s) (hP : va_P D vwCl (shW cI o a σ) H) (hS : va_S (shA o a) s.heap H locs) (h : (v, σ) = w) (d : decode cc pc = .ok (.ireturn, 1)) :
    W p l e R s m args below meth c H locs 0 0 (MQ below (shQ D cI o a w) args s 0 0 (shA o a)) (F0 m pc ls [.int v]) := by
  subst h
  exact W.iret hx hb hr (fun t ht hW => ⟨rfl, ⟨by rw [ht]; exact hP, va_K.moved hW.alike hK⟩, hS.F ht⟩) hS.2.2 d hlk
theorem sh_finMz {w : Int32 × (Nat → Nat → Int32)} {v : Int32} (hx : p.tables.exec = Jvm.exec) (hb : c.code = cc) (hr : meth.sig.returnType = some .boolean) (hlk : meth.locks = false) (hK : va_K D vwCl [(cI, .int)] s) (hP : va_P D vwCl (shW cI o a σ) H) (hS : va_S (shA o a) s.heap H locs) (hz : v = 0 ∨ v = 1) (h : (v, σ) = w) (d : decode cc pc = .ok (.ireturn, 1)) :
    W p l e R s m args below meth c H locs 0 0 (MQ below (shQ D cI o a w) args s 0 0 (shA o a)) (F0 m pc ls [.int v]) := by
  subst h
  exact W.zret hx hb hr (nar_z hz) (fun t ht hW => ⟨rfl, ⟨by rw [ht]; exact hP, va_K.moved hW.alike hK⟩, hS.F ht⟩) hS.2.2 d hlk
theorem sh_finV {w : Nat → Nat → Int32} (hx : p.tables.exec = Jvm.exec) (hb : c.code = cc) (hr : meth.sig.returnType = none) (hlk : meth.locks = false) (hK : va_K D vwCl [(cI, .int)] s) (hP : va_P D vwCl (shW cI o a σ) H) (hS : va_S (shA o a) s.heap H locs) (h : σ = w) (d : decode cc pc = .ok (.return_, 1)) :
    W p l e R s m args below meth c H locs 0 0 (MQ below (shV D cI o a w) args s 0 0 (shA o a)) (F0 m pc ls []) := by
  subst h
  exact W.vret hx hb hr (fun t ht hW => ⟨rfl, ⟨by rw [ht]; exact hP, va_K.moved hW.alike hK⟩, hS.F ht⟩) hS.2.2 d hlk
theorem sh_g0 (hx : p.tables.exec = Jvm.exec) (hb : c.code = cc) (hts : ∀ w ∈ c0 :: W0, w.before args s = true) (hown : s.vm.findClass RX2 = some m.cls) (hK : va_K D vwCl [(cI, .int)] s) (hP : va_P D vwCl (shW cI o a σ) H) {v : Int32} (hv : σ 0 0 = v) (d : decode cc pc = .ok (.getfield 9, 3)) (kk : W p l e R s m args below meth c H locs cells slots Q (F0 m (pc + 3) ls (.int v :: rest))) : W p l e R s m args below meth c H locs cells slots Q (F0 m pc ls (.ref o :: rest)) := by
  subst hv
  exact va_get (ci := 2) (C := RX2) (T := TX2) (N := 18) (v := .int (σ 0 0)) hx hb hts (fun w h => List.mem_cons_of_mem _ (inX2 w h)) hown hK hP 0 rfl rfl 0 (by decide) (hts _ (List.mem_cons_of_mem _ mf_X2_9)) (fun _ h => h) rfl d kk
theorem sh_p0 (hx : p.tables.exec = Jvm.exec) (hb : c.code = cc) (hts : ∀ w ∈ c0 :: W0, w.before args s = true) (hown : s.vm.findClass RX2 = some m.cls) (hK : va_K D vwCl [(cI, .int)] s) (hP : va_P D vwCl (shW cI o a σ) H) (hD : shD o a) (hS : va_S (shA o a) H0 H locs) {x : Int32} (d : decode cc pc = .ok (.putfield 9, 3)) (kk : ∀ (H1 : Heap) (locs1 : List Loc), va_P D vwCl (shW cI o a (shS σ 0 x)) H1 → va_S (shA o a) H0 H1 locs1 → W p l e R s m args below meth c H1 locs1 cells slots Q (F0 m (pc + 3) ls rest)) : W p l e R s m args below meth c H locs cells slots Q (F0 m pc ls (.int x :: .ref o :: rest)) :=
  va_put (ci := 2) (C := RX2) (T := TX2) (N := 18) (v := .int x) (ty := .int) hx hb hts (fun w h => List.mem_cons_of_mem _ (inX2 w h)) tyX2 tyX2_ok nmX2 hown hK hP (shD_of hD) hS 0 rfl rfl 0 (by decide) (hts _ (List.mem_cons_of_mem _ mf_X2_9)) (fun _ h => h) rfl (by decide +kernel) rfl rfl (Nat.le_of_ble_eq_true rfl) d (fun H1 locs1 h1 _ h3 => kk H1 locs1 h1 h3)
theorem sh_g1 (hx : p.tables.exec = Jvm.exec) (hb : c.code = cc) (hts : ∀ w ∈ c0 :: W0, w.before args s = true) (hown : s.vm.findClass RX2 = some m.cls) (hK : va_K D vwCl [(cI, .int)] s) (hP : va_P D vwCl (shW cI o a σ) H) {v : Int32} (hv : σ 1 0 = v) (d : decode cc pc = .ok (.getfield 15, 3)) (kk : W p l e R s m args below meth c H locs cells slots Q (F0 m (pc + 3) ls (.int v :: rest))) : W p l e R s m args below meth c H locs cells slots Q (F0 m pc ls (.ref o :: rest)) := by
  subst hv
  exact va_get (ci := 2) (C := RX2) (T := TX2) (N := 18) (v := .int (σ 1 0)) hx hb hts (fun w h => List.mem_cons_of_mem _ (inX2 w h)) hown hK hP 0 rfl rfl 1 (by decide) (hts _ (List.mem_cons_of_mem _ mf_X2_15)) (fun _ h => h) rfl d kk
theorem sh_p1 (hx : p.tables.exec = Jvm.exec) (hb : c.code = cc) (hts : ∀ w ∈ c0 :: W0, w.before args s = true) (hown : s.vm.findClass RX2 = some m.cls) (hK : va_K D vwCl [(cI, .int)] s) (hP : va_P D vwCl (shW cI o a σ) H) (hD : shD o a) (hS : va_S (shA o a) H0 H locs) {x : Int32} (d : decode cc pc = .ok (.putfield 15, 3)) (kk : ∀ (H1 : Heap) (locs1 : List Loc), va_P D vwCl (shW cI o a (shS σ 1 x)) H1 → va_S (shA o a) H0 H1 locs1 → W p l e R s m args below meth c H1 locs1 cells slots Q (F0 m (pc + 3) ls rest)) : W p l e R s m args below meth c H locs cells slots Q (F0 m pc ls (.int x :: .ref o :: rest)) :=
  va_put (ci := 2) (C := RX2) (T := TX2) (N := 18) (v := .int x) (ty := .int) hx hb hts (fun w h => List.mem_cons_of_mem _ (inX2 w h)) tyX2 tyX2_ok nmX2 hown hK hP (shD_of hD) hS 0 rfl rfl 1 (by decide) (hts _ (List.mem_cons_of_mem _ mf_X2_15)) (fun _ h => h) rfl (by decide +kernel) rfl rfl (Nat.le_of_ble_eq_true rfl) d (fun H1 locs1 h1 _ h3 => kk H1 locs1 h1 h3)
theorem sh_g2 (hx : p.tables.exec = Jvm.exec) (hb : c.code = cc) (hts : ∀ w ∈ c0 :: W0, w.before args s = true) (hown : s.vm.findClass RX2 = some m.cls) (hK : va_K D vwCl [(cI, .int)] s) (hP : va_P D vwCl (shW cI o a σ) H) {v : Int32} (hv : σ 2 0 = v) (d : decode cc pc = .ok (.getfield 18, 3)) (kk : W p l e R s m args below meth c H locs cells slots Q (F0 m (pc + 3) ls (.int v :: rest))) : W p l e R s m args below meth c H locs cells slots Q (F0 m pc ls (.ref o :: rest)) := by
  subst hv
  exact va_get (ci := 2) (C := RX2) (T := TX2) (N := 18) (v := .int (σ 2 0)) hx hb hts (fun w h => List.mem_cons_of_mem _ (inX2 w h)) hown hK hP 0 rfl rfl 2 (by decide) (hts _ (List.mem_cons_of_mem _ mf_X2_18)) (fun _ h => h) rfl d kk
theorem sh_p2 (hx : p.tables.exec = Jvm.exec) (hb : c.code = cc) (hts : ∀ w ∈ c0 :: W0, w.before args s = true) (hown : s.vm.findClass RX2 = some m.cls) (hK : va_K D vwCl [(cI, .int)] s) (hP : va_P D vwCl (shW cI o a σ) H) (hD : shD o a) (hS : va_S (shA o a) H0 H locs) {x : Int32} (d : decode cc pc = .ok (.putfield 18, 3)) (kk : ∀ (H1 : Heap) (locs1 : List Loc), va_P D vwCl (shW cI o a (shS σ 2 x)) H1 → va_S (shA o a) H0 H1 locs1 → W p l e R s m args below meth c H1 locs1 cells slots Q (F0 m (pc + 3) ls rest)) : W p l e R s m args below meth c H locs cells slots Q (F0 m pc ls (.int x :: .ref o :: rest)) :=
  va_put (ci := 2) (C := RX2) (T := TX2) (N := 18) (v := .int x) (ty := .int) hx hb hts (fun w h => List.mem_cons_of_mem _ (inX2 w h)) tyX2 tyX2_ok nmX2 hown hK hP (shD_of hD) hS 0 rfl rfl 2 (by decide) (hts _ (List.mem_cons_of_mem _ mf_X2_18)) (fun _ h => h) rfl (by decide +kernel) rfl rfl (Nat.le_of_ble_eq_true rfl) d (fun H1 locs1 h1 _ h3 => kk H1 locs1 h1 h3)
theorem sh_g3 (hx : p.tables.exec = Jvm.exec) (hb : c.code = cc) (hts : ∀ w ∈ c0 :: W0, w.before args s = true) (hown : s.vm.findClass RX2 = some m.cls) (hK : va_K D vwCl [(cI, .int)] s) (hP : va_P D vwCl (shW cI o a σ) H) {v : Int32} (hv : σ 3 0 = v) (d : decode cc pc = .ok (.getfield 21, 3)) (kk : W p l e R s m args below meth c H locs cells slots Q (F0 m (pc + 3) ls (.int v :: rest))) : W p l e R s m args below meth c H locs cells slots Q (F0 m pc ls (.ref o :: rest)) := by
  subst hv
  exact va_get (ci := 2) (C := RX2) (T := TX2) (N := 18) (v := .int (σ 3 0)) hx hb hts (fun w h => List.mem_cons_of_mem _ (inX2 w h)) hown hK hP 0 rfl rfl 3 (by decide) (hts _ (List.mem_cons_of_mem _ mf_X2_21)) (fun _ h => h) rfl d kk
theorem sh_p3 (hx : p.tables.exec = Jvm.exec) (hb : c.code = cc) (hts : ∀ w ∈ c0 :: W0, w.before args s = true) (hown : s.vm.findClass RX2 = some m.cls) (hK : va_K D vwCl [(cI, .int)] s) (hP : va_P D vwCl (shW cI o a σ) H) (hD : shD o a) (hS : va_S (shA o a) H0 H locs) {x : Int32} (d : decode cc pc = .ok (.putfield 21, 3)) (kk : ∀ (H1 : Heap) (locs1 : List Loc), va_P D vwCl (shW cI o a (shS σ 3 x)) H1 → va_S (shA o a) H0 H1 locs1 → W p l e R s m args below meth c H1 locs1 cells slots Q (F0 m (pc + 3) ls rest)) : W p l e R s m args below meth c H locs cells slots Q (F0 m pc ls (.int x :: .ref o :: rest)) :=
  va_put (ci := 2) (C := RX2) (T := TX2) (N := 18) (v := .int x) (ty := .int) hx hb hts (fun w h => List.mem_cons_of_mem _ (inX2 w h)) tyX2 tyX2_ok nmX2 hown hK hP (shD_of hD) hS 0 rfl rfl 3 (by decide) (hts _ (List.mem_cons_of_mem _ mf_X2_21)) (fun _ h => h) rfl (by decide +kernel) rfl rfl (Nat.le_of_ble_eq_true rfl) d (fun H1 locs1 h1 _ h3 => kk H1 locs1 h1 h3)
theorem sh_g4 (hx : p.tables.exec = Jvm.exec) (hb : c.code = cc) (hts : ∀ w ∈ c0 :: W0, w.before args s = true) (hown : s.vm.findClass RX2 = some m.cls) (hK : va_K D vwCl [(cI, .int)] s) (hP : va_P D vwCl (shW cI o a σ) H) (d : decode cc pc = .ok (.getfield 24, 3)) (kk : W p l e R s m args below meth c H locs cells slots Q (F0 m (pc + 3) ls (.ref (a 4) :: rest))) : W p l e R s m args below meth c H locs cells slots Q (F0 m pc ls (.ref o :: rest)) :=
  va_get (ci := 2) (C := RX2) (T := TX2) (N := 18) (v := .ref (a 4)) hx hb hts (fun w h => List.mem_cons_of_mem _ (inX2 w h)) hown hK hP 0 rfl rfl 4 (by decide) (hts _ (List.mem_cons_of_mem _ mf_X2_24)) (fun _ h => h) rfl d kk
theorem sh_r4 (hx : p.tables.exec = Jvm.exec) (hb : c.code = cc) (hK : va_K D vwCl [(cI, .int)] s) (hP : va_P D vwCl (shW cI o a σ) H) {i : Int32} (j : Nat) (hi : i = nI j) (hj : j < 4) {v : Int32} (hv : σ 4 j = v) (d : decode cc pc = .ok (.iaload, 1)) (kk : W p l e R s m args below meth c H locs cells slots Q (F0 m (pc + 1) ls (.int v :: rest))) : W p l e R s m args below meth c H locs cells slots Q (F0 m pc ls (.int i :: .ref (a 4) :: rest)) := by
  subst hi; subst hv
  exact va_iald (n := 4) (f := σ 4) hx hb hK hP 1 0 rfl rfl (vp_in_nI hj (by decide)) d (by rw [nI_clamp (Nat.lt_trans hj (by decide))]; exact kk)
theorem sh_w4 (hx : p.tables.exec = Jvm.exec) (hb : c.code = cc) (hK : va_K D vwCl [(cI, .int)] s) (hP : va_P D vwCl (shW cI o a σ) H) (hD : shD o a) (hS : va_S (shA o a) H0 H locs) {i x : Int32} (j : Nat) (hi : i = nI j) (hj : j < 4) (d : decode cc pc = .ok (.iastore, 1)) (kk : ∀ (H1 : Heap) (locs1 : List Loc), va_P D vwCl (shW cI o a (shU σ 4 j x)) H1 → va_S (shA o a) H0 H1 locs1 → W p l e R s m args below meth c H1 locs1 cells slots Q (F0 m (pc + 1) ls rest)) : W p l e R s m args below meth c H locs cells slots Q (F0 m pc ls (.int x :: .int i :: .ref (a 4) :: rest)) := by
  subst hi
  refine va_iast (n := 4) (f := σ 4) hx hb hK hP (shD_of hD) hS 1 0 rfl rfl (vp_in_nI hj (by decide)) d (fun H1 locs1 h1 _ h3 => kk H1 locs1 ?_ h3)
  rw [nI_clamp (Nat.lt_trans hj (by decide))] at h1
  exact h1
theorem sh_g5 (hx : p.tables.exec = Jvm.exec) (hb : c.code = cc) (hts : ∀ w ∈ c0 :: W0, w.before args s = true) (hown : s.vm.findClass RX2 = some m.cls) (hK : va_K D vwCl [(cI, .int)] s) (hP : va_P D vwCl (shW cI o a σ) H) (d : decode cc pc = .ok (.getfield 28, 3)) (kk : W p l e R s m args below meth c H locs cells slots Q (F0 m (pc + 3) ls (.ref (a 5) :: rest))) : W p l e R s m args below meth c H locs cells slots Q (F0 m pc ls (.ref o :: rest)) :=
  va_get (ci := 2) (C := RX2) (T := TX2) (N := 18) (v := .ref (a 5)) hx hb hts (fun w h => List.mem_cons_of_mem _ (inX2 w h)) hown hK hP 0 rfl rfl 5 (by decide) (hts _ (List.mem_cons_of_mem _ mf_X2_28)) (fun _ h => h) rfl d kk
theorem sh_r5 (hx : p.tables.exec = Jvm.exec) (hb : c.code = cc) (hK : va_K D vwCl [(cI, .int)] s) (hP : va_P D vwCl (shW cI o a σ) H) {i : Int32} (j : Nat) (hi : i = nI j) (hj : j < 6) {v : Int32} (hv : σ 5 j = v) (d : decode cc pc = .ok (.iaload, 1)) (kk : W p l e R s m args below meth c H locs cells slots Q (F0 m (pc + 1) ls (.int v :: rest))) : W p l e R s m args below meth c H locs cells slots Q (F0 m pc ls (.int i :: .ref (a 5) :: rest)) := by
  subst hi; subst hv
  exact va_iald (n := 6) (f := σ 5) hx hb hK hP 2 0 rfl rfl (vp_in_nI hj (by decide)) d (by rw [nI_clamp (Nat.lt_trans hj (by decide))]; exact kk)
theorem sh_w5 (hx : p.tables.exec = Jvm.exec) (hb : c.code = cc) (hK : va_K D vwCl [(cI, .int)] s) (hP : va_P D vwCl (shW cI o a σ) H) (hD : shD o a) (hS : va_S (shA o a) H0 H locs) {i x : Int32} (j : Nat) (hi : i = nI j) (hj : j < 6) (d : decode cc pc = .ok (.iastore, 1)) (kk : ∀ (H1 : Heap) (locs1 : List Loc), va_P D vwCl (shW cI o a (shU σ 5 j x)) H1 → va_S (shA o a) H0 H1 locs1 → W p l e R s m args below meth c H1 locs1 cells slots Q (F0 m (pc + 1) ls rest)) : W p l e R s m args below meth c H locs cells slots Q (F0 m pc ls (.int x :: .int i :: .ref (a 5) :: rest)) := by
  subst hi
  refine va_iast (n := 6) (f := σ 5) hx hb hK hP (shD_of hD) hS 2 0 rfl rfl (vp_in_nI hj (by decide)) d (fun H1 locs1 h1 _ h3 => kk H1 locs1 ?_ h3)
  rw [nI_clamp (Nat.lt_trans hj (by decide))] at h1
  exact h1
theorem sh_g6 (hx : p.tables.exec = Jvm.exec) (hb : c.code = cc) (hts : ∀ w ∈ c0 :: W0, w.before args s = true) (hown : s.vm.findClass RX2 = some m.cls) (hK : va_K D vwCl [(cI, .int)] s) (hP : va_P D vwCl (shW cI o a σ) H) (d : decode cc pc = .ok (.getfield 31, 3)) (kk : W p l e R s m args below meth c H locs cells slots Q (F0 m (pc + 3) ls (.ref (a 6) :: rest))) : W p l e R s m args below meth c H locs cells slots Q (F0 m pc ls (.ref o :: rest)) :=
  va_get (ci := 2) (C := RX2) (T := TX2) (N := 18) (v := .ref (a 6)) hx hb hts (fun w h => List.mem_cons_of_mem _ (inX2 w h)) hown hK hP 0 rfl rfl 6 (by decide) (hts _ (List.mem_cons_of_mem _ mf_X2_31)) (fun _ h => h) rfl d kk
theorem sh_r6 (hx : p.tables.exec = Jvm.exec) (hb : c.code = cc) (hK : va_K D vwCl [(cI, .int)] s) (hP : va_P D vwCl (shW cI o a σ) H) {i : Int32} (j : Nat) (hi : i = nI j) (hj : j < 6) {v : Int32} (hv : σ 6 j = v) (d : decode cc pc = .ok (.iaload, 1)) (kk : W p l e R s m args below meth c H locs cells slots Q (F0 m (pc + 1) ls (.int v :: rest))) : W p l e R s m args below meth c H locs cells slots Q (F0 m pc ls (.int i :: .ref (a 6) :: rest)) := by
  subst hi; subst hv
  exact va_iald (n := 6) (f := σ 6) hx hb hK hP 3 0 rfl rfl (vp_in_nI hj (by decide)) d (by rw [nI_clamp (Nat.lt_trans hj (by decide))]; exact kk)
theorem sh_w6 (hx : p.tables.exec = Jvm.exec) (hb : c.code = cc) (hK : va_K D vwCl [(cI, .int)] s) (hP : va_P D vwCl (shW cI o a σ) H) (hD : shD o a) (hS : va_S (shA o a) H0 H locs) {i x : Int32} (j : Nat) (hi : i = nI j) (hj : j < 6) (d : decode cc pc = .ok (.iastore, 1)) (kk : ∀ (H1 : Heap) (locs1 : List Loc), va_P D vwCl (shW cI o a (shU σ 6 j x)) H1 → va_S (shA o a) H0 H1 locs1 → W p l e R s m args below meth c H1 locs1 cells slots Q (F0 m (pc + 1) ls rest)) : W p l e R s m args below meth c H locs cells slots Q (F0 m pc ls (.int x :: .int i :: .ref (a 6) :: rest)) := by
  subst hi
  refine va_iast (n := 6) (f := σ 6) hx hb hK hP (shD_of hD) hS 3 0 rfl rfl (vp_in_nI hj (by decide)) d (fun H1 locs1 h1 _ h3 => kk H1 locs1 ?_ h3)
  rw [nI_clamp (Nat.lt_trans hj (by decide))] at h1
  exact h1
theorem sh_g7 (hx : p.tables.exec = Jvm.exec) (hb : c.code = cc) (hts : ∀ w ∈ c0 :: W0, w.before args s = true) (hown : s.vm.findClass RX2 = some m.cls) (hK : va_K D vwCl [(cI, .int)] s) (hP : va_P D vwCl (shW cI o a σ) H) (d : decode cc pc = .ok (.getfield 34, 3)) (kk : W p l e R s m args below meth c H locs cells slots Q (F0 m (pc + 3) ls (.ref (a 7) :: rest))) : W p l e R s m args below meth c H locs cells slots Q (F0 m pc ls (.ref o :: rest)) :=
  va_get (ci := 2) (C := RX2) (T := TX2) (N := 18) (v := .ref (a 7)) hx hb hts (fun w h => List.mem_cons_of_mem _ (inX2 w h)) hown hK hP 0 rfl rfl 7 (by decide) (hts _ (List.mem_cons_of_mem _ mf_X2_34)) (fun _ h => h) rfl d kk
theorem sh_r7 (hx : p.tables.exec = Jvm.exec) (hb : c.code = cc) (hK : va_K D vwCl [(cI, .int)] s) (hP : va_P D vwCl (shW cI o a σ) H) {i : Int32} (j : Nat) (hi : i = nI j) (hj : j < 6) {v : Int32} (hv : σ 7 j = v) (d : decode cc pc = .ok (.iaload, 1)) (kk : W p l e R s m args below meth c H locs cells slots Q (F0 m (pc + 1) ls (.int v :: rest))) : W p l e R s m args below meth c H locs cells slots Q (F0 m pc ls (.int i :: .ref (a 7) :: rest)) := by
  subst hi; subst hv
  exact va_iald (n := 6) (f := σ 7) hx hb hK hP 4 0 rfl rfl (vp_in_nI hj (by decide)) d (by rw [nI_clamp (Nat.lt_trans hj (by decide))]; exact kk)
theorem sh_w7 (hx : p.tables.exec = Jvm.exec) (hb : c.code = cc) (hK : va_K D vwCl [(cI, .int)] s) (hP : va_P D vwCl (shW cI o a σ) H) (hD : shD o a) (hS : va_S (shA o a) H0 H locs) {i x : Int32} (j : Nat) (hi : i = nI j) (hj : j < 6) (d : decode cc pc = .ok (.iastore, 1)) (kk : ∀ (H1 : Heap) (locs1 : List Loc), va_P D vwCl (shW cI o a (shU σ 7 j x)) H1 → va_S (shA o a) H0 H1 locs1 → W p l e R s m args below meth c H1 locs1 cells slots Q (F0 m (pc + 1) ls rest)) : W p l e R s m args below meth c H locs cells slots Q (F0 m pc ls (.int x :: .int i :: .ref (a 7) :: rest)) := by
  subst hi
  refine va_iast (n := 6) (f := σ 7) hx hb hK hP (shD_of hD) hS 4 0 rfl rfl (vp_in_nI hj (by decide)) d (fun H1 locs1 h1 _ h3 => kk H1 locs1 ?_ h3)
  rw [nI_clamp (Nat.lt_trans hj (by decide))] at h1
  exact h1
theorem sh_g8 (hx : p.tables.exec = Jvm.exec) (hb : c.code = cc) (hts : ∀ w ∈ c0 :: W0, w.before args s = true) (hown : s.vm.findClass RX2 = some m.cls) (hK : va_K D vwCl [(cI, .int)] s) (hP : va_P D vwCl (shW cI o a σ) H) (d : decode cc pc = .ok (.getfield 37, 3)) (kk : W p l e R s m args below meth c H locs cells slots Q (F0 m (pc + 3) ls (.ref (a 8) :: rest))) : W p l e R s m args below meth c H locs cells slots Q (F0 m pc ls (.ref o :: rest)) :=
  va_get (ci := 2) (C := RX2) (T := TX2) (N := 18) (v := .ref (a 8)) hx hb hts (fun w h => List.mem_cons_of_mem _ (inX2 w h)) hown hK hP 0 rfl rfl 8 (by decide) (hts _ (List.mem_cons_of_mem _ mf_X2_37)) (fun _ h => h) rfl d kk
theorem sh_r8 (hx : p.tables.exec = Jvm.exec) (hb : c.code = cc) (hK : va_K D vwCl [(cI, .int)] s) (hP : va_P D vwCl (shW cI o a σ) H) {i : Int32} (j : Nat) (hi : i = nI j) (hj : j < 6) {v : Int32} (hv : σ 8 j = v) (d : decode cc pc = .ok (.iaload, 1)) (kk : W p l e R s m args below meth c H locs cells slots Q (F0 m (pc + 1) ls (.int v :: rest))) : W p l e R s m args below meth c H locs cells slots Q (F0 m pc ls (.int i :: .ref (a 8) :: rest)) := by
  subst hi; subst hv
  exact va_iald (n := 6) (f := σ 8) hx hb hK hP 5 0 rfl rfl (vp_in_nI hj (by decide)) d (by rw [nI_clamp (Nat.lt_trans hj (by decide))]; exact kk)
theorem sh_w8 (hx : p.tables.exec = Jvm.exec) (hb : c.code = cc) (hK : va_K D vwCl [(cI, .int)] s) (hP : va_P D vwCl (shW cI o a σ) H) (hD : shD o a) (hS : va_S (shA o a) H0 H locs) {i x : Int32} (j : Nat) (hi : i = nI j) (hj : j < 6) (d : decode cc pc = .ok (.iastore, 1)) (kk : ∀ (H1 : Heap) (locs1 : List Loc), va_P D vwCl (shW cI o a (shU σ 8 j x)) H1 → va_S (shA o a) H0 H1 locs1 → W p l e R s m args below meth c H1 locs1 cells slots Q (F0 m (pc + 1) ls rest)) : W p l e R s m args below meth c H locs cells slots Q (F0 m pc ls (.int x :: .int i :: .ref (a 8) :: rest)) := by
  subst hi
  refine va_iast (n := 6) (f := σ 8) hx hb hK hP (shD_of hD) hS 5 0 rfl rfl (vp_in_nI hj (by decide)) d (fun H1 locs1 h1 _ h3 => kk H1 locs1 ?_ h3)
  rw [nI_clamp (Nat.lt_trans hj (by decide))] at h1
  exact h1
theorem sh_g9 (hx : p.tables.exec = Jvm.exec) (hb : c.code = cc) (hts : ∀ w ∈ c0 :: W0, w.before args s = true) (hown : s.vm.findClass RX2 = some m.cls) (hK : va_K D vwCl [(cI, .int)] s) (hP : va_P D vwCl (shW cI o a σ) H) (d : decode cc pc = .ok (.getfield 40, 3)) (kk : W p l e R s m args below meth c H locs cells slots Q (F0 m (pc + 3) ls (.ref (a 9) :: rest))) : W p l e R s m args below meth c H locs cells slots Q (F0 m pc ls (.ref o :: rest)) :=
  va_get (ci := 2) (C := RX2) (T := TX2) (N := 18) (v := .ref (a 9)) hx hb hts (fun w h => List.mem_cons_of_mem _ (inX2 w h)) hown hK hP 0 rfl rfl 9 (by decide) (hts _ (List.mem_cons_of_mem _ mf_X2_40)) (fun _ h => h) rfl d kk
theorem sh_r9 (hx : p.tables.exec = Jvm.exec) (hb : c.code = cc) (hK : va_K D vwCl [(cI, .int)] s) (hP : va_P D vwCl (shW cI o a σ) H) {i : Int32} (j : Nat) (hi : i = nI j) (hj : j < 6) {v : Int32} (hv : σ 9 j = v) (d : decode cc pc = .ok (.iaload, 1)) (kk : W p l e R s m args below meth c H locs cells slots Q (F0 m (pc + 1) ls (.int v :: rest))) : W p l e R s m args below meth c H locs cells slots Q (F0 m pc ls (.int i :: .ref (a 9) :: rest)) := by
  subst hi; subst hv
  exact va_iald (n := 6) (f := σ 9) hx hb hK hP 6 0 rfl rfl (vp_in_nI hj (by decide)) d (by rw [nI_clamp (Nat.lt_trans hj (by decide))]; exact kk)
theorem sh_w9 (hx : p.tables.exec = Jvm.exec) (hb : c.code = cc) (hK : va_K D vwCl [(cI, .int)] s) (hP : va_P D vwCl (shW cI o a σ) H) (hD : shD o a) (hS : va_S (shA o a) H0 H locs) {i x : Int32} (j : Nat) (hi : i = nI j) (hj : j < 6) (d : decode cc pc = .ok (.iastore, 1)) (kk : ∀ (H1 : Heap) (locs1 : List Loc), va_P D vwCl (shW cI o a (shU σ 9 j x)) H1 → va_S (shA o a) H0 H1 locs1 → W p l e R s m args below meth c H1 locs1 cells slots Q (F0 m (pc + 1) ls rest)) : W p l e R s m args below meth c H locs cells slots Q (F0 m pc ls (.int x :: .int i :: .ref (a 9) :: rest)) := by
  subst hi
  refine va_iast (n := 6) (f := σ 9) hx hb hK hP (shD_of hD) hS 6 0 rfl rfl (vp_in_nI hj (by decide)) d (fun H1 locs1 h1 _ h3 => kk H1 locs1 ?_ h3)
  rw [nI_clamp (Nat.lt_trans hj (by decide))] at h1
  exact h1
theorem sh_g10 (hx : p.tables.exec = Jvm.exec) (hb : c.code = cc) (hts : ∀ w ∈ c0 :: W0, w.before args s = true) (hown : s.vm.findClass RX2 = some m.cls) (hK : va_K D vwCl [(cI, .int)] s) (hP : va_P D vwCl (shW cI o a σ) H) (d : decode cc pc = .ok (.getfield 43, 3)) (kk : W p l e R s m args below meth c H locs cells slots Q (F0 m (pc + 3) ls (.ref (a 10) :: rest))) : W p l e R s m args below meth c H locs cells slots Q (F0 m pc ls (.ref o :: rest)) :=
  va_get (ci := 2) (C := RX2) (T := TX2) (N := 18) (v := .ref (a 10)) hx hb hts (fun w h => List.mem_cons_of_mem _ (inX2 w h)) hown hK hP 0 rfl rfl 10 (by decide) (hts _ (List.mem_cons_of_mem _ mf_X2_43)) (fun _ h => h) rfl d kk
theorem sh_r10 (hx : p.tables.exec = Jvm.exec) (hb : c.code = cc) (hK : va_K D vwCl [(cI, .int)] s) (hP : va_P D vwCl (shW cI o a σ) H) {i : Int32} (j : Nat) (hi : i = nI j) (hj : j < 60) {v : Int32} (hv : σ 10 j = v) (d : decode cc pc = .ok (.iaload, 1)) (kk : W p l e R s m args below meth c H locs cells slots Q (F0 m (pc + 1) ls (.int v :: rest))) : W p l e R s m args below meth c H locs cells slots Q (F0 m pc ls (.int i :: .ref (a 10) :: rest)) := by
  subst hi; subst hv
  exact va_iald (n := 60) (f := σ 10) hx hb hK hP 7 0 rfl rfl (vp_in_nI hj (by decide)) d (by rw [nI_clamp (Nat.lt_trans hj (by decide))]; exact kk)
theorem sh_w10 (hx : p.tables.exec = Jvm.exec) (hb : c.code = cc) (hK : va_K D vwCl [(cI, .int)] s) (hP : va_P D vwCl (shW cI o a σ) H) (hD : shD o a) (hS : va_S (shA o a) H0 H locs) {i x : Int32} (j : Nat) (hi : i = nI j) (hj : j < 60) (d : decode cc pc = .ok (.iastore, 1)) (kk : ∀ (H1 : Heap) (locs1 : List Loc), va_P D vwCl (shW cI o a (shU σ 10 j x)) H1 → va_S (shA o a) H0 H1 locs1 → W p l e R s m args below meth c H1 locs1 cells slots Q (F0 m (pc + 1) ls rest)) : W p l e R s m args below meth c H locs cells slots Q (F0 m pc ls (.int x :: .int i :: .ref (a 10) :: rest)) := by
  subst hi
  refine va_iast (n := 60) (f := σ 10) hx hb hK hP (shD_of hD) hS 7 0 rfl rfl (vp_in_nI hj (by decide)) d (fun H1 locs1 h1 _ h3 => kk H1 locs1 ?_ h3)
  rw [nI_clamp (Nat.lt_trans hj (by decide))] at h1
  exact h1
theorem sh_g11 (hx : p.tables.exec = Jvm.exec) (hb : c.code = cc) (hts : ∀ w ∈ c0 :: W0, w.before args s = true) (hown : s.vm.findClass RX2 = some m.cls) (hK : va_K D vwCl [(cI, .int)] s) (hP : va_P D vwCl (shW cI o a σ) H) (d : decode cc pc = .ok (.getfield 46, 3)) (kk : W p l e R s m args below meth c H locs cells slots Q (F0 m (pc + 3) ls (.ref (a 11) :: rest))) : W p l e R s m args below meth c H locs cells slots Q (F0 m pc ls (.ref o :: rest)) :=
  va_get (ci := 2) (C := RX2) (T := TX2) (N := 18) (v := .ref (a 11)) hx hb hts (fun w h => List.mem_cons_of_mem _ (inX2 w h)) hown hK hP 0 rfl rfl 11 (by decide) (hts _ (List.mem_cons_of_mem _ mf_X2_46)) (fun _ h => h) rfl d kk
theorem sh_r11 (hx : p.tables.exec = Jvm.exec) (hb : c.code = cc) (hK : va_K D vwCl [(cI, .int)] s) (hP : va_P D vwCl (shW cI o a σ) H) {i : Int32} (j : Nat) (hi : i = nI j) (hj : j < 60) {v : Int32} (hv : σ 11 j = v) (d : decode cc pc = .ok (.iaload, 1)) (kk : W p l e R s m args below meth c H locs cells slots Q (F0 m (pc + 1) ls (.int v :: rest))) : W p l e R s m args below meth c H locs cells slots Q (F0 m pc ls (.int i :: .ref (a 11) :: rest)) := by
  subst hi; subst hv
  exact va_iald (n := 60) (f := σ 11) hx hb hK hP 8 0 rfl rfl (vp_in_nI hj (by decide)) d (by rw [nI_clamp (Nat.lt_trans hj (by decide))]; exact kk)
theorem sh_w11 (hx : p.tables.exec = Jvm.exec) (hb : c.code = cc) (hK : va_K D vwCl [(cI, .int)] s) (hP : va_P D vwCl (shW cI o a σ) H) (hD : shD o a) (hS : va_S (shA o a) H0 H locs) {i x : Int32} (j : Nat) (hi : i = nI j) (hj : j < 60) (d : decode cc pc = .ok (.iastore, 1)) (kk : ∀ (H1 : Heap) (locs1 : List Loc), va_P D vwCl (shW cI o a (shU σ 11 j x)) H1 → va_S (shA o a) H0 H1 locs1 → W p l e R s m args below meth c H1 locs1 cells slots Q (F0 m (pc + 1) ls rest)) : W p l e R s m args below meth c H locs cells slots Q (F0 m pc ls (.int x :: .int i :: .ref (a 11) :: rest)) := by
  subst hi
  refine va_iast (n := 60) (f := σ 11) hx hb hK hP (shD_of hD) hS 8 0 rfl rfl (vp_in_nI hj (by decide)) d (fun H1 locs1 h1 _ h3 => kk H1 locs1 ?_ h3)
  rw [nI_clamp (Nat.lt_trans hj (by decide))] at h1
  exact h1
theorem sh_g12 (hx : p.tables.exec = Jvm.exec) (hb : c.code = cc) (hts : ∀ w ∈ c0 :: W0, w.before args s = true) (hown : s.vm.findClass RX2 = some m.cls) (hK : va_K D vwCl [(cI, .int)] s) (hP : va_P D vwCl (shW cI o a σ) H) (d : decode cc pc = .ok (.getfield 49, 3)) (kk : W p l e R s m args below meth c H locs cells slots Q (F0 m (pc + 3) ls (.ref (a 12) :: rest))) : W p l e R s m args below meth c H locs cells slots Q (F0 m pc ls (.ref o :: rest)) :=
  va_get (ci := 2) (C := RX2) (T := TX2) (N := 18) (v := .ref (a 12)) hx hb hts (fun w h => List.mem_cons_of_mem _ (inX2 w h)) hown hK hP 0 rfl rfl 12 (by decide) (hts _ (List.mem_cons_of_mem _ mf_X2_49)) (fun _ h => h) rfl d kk
theorem sh_r12 (hx : p.tables.exec = Jvm.exec) (hb : c.code = cc) (hK : va_K D vwCl [(cI, .int)] s) (hP : va_P D vwCl (shW cI o a σ) H) {i : Int32} (j : Nat) (hi : i = nI j) (hj : j < 60) {v : Int32} (hv : σ 12 j = v) (d : decode cc pc = .ok (.iaload, 1)) (kk : W p l e R s m args below meth c H locs cells slots Q (F0 m (pc + 1) ls (.int v :: rest))) : W p l e R s m args below meth c H locs cells slots Q (F0 m pc ls (.int i :: .ref (a 12) :: rest)) := by
  subst hi; subst hv
  exact va_iald (n := 60) (f := σ 12) hx hb hK hP 9 0 rfl rfl (vp_in_nI hj (by decide)) d (by rw [nI_clamp (Nat.lt_trans hj (by decide))]; exact kk)
theorem sh_w12 (hx : p.tables.exec = Jvm.exec) (hb : c.code = cc) (hK : va_K D vwCl [(cI, .int)] s) (hP : va_P D vwCl (shW cI o a σ) H) (hD : shD o a) (hS : va_S (shA o a) H0 H locs) {i x : Int32} (j : Nat) (hi : i = nI j) (hj : j < 60) (d : decode cc pc = .ok (.iastore, 1)) (kk : ∀ (H1 : Heap) (locs1 : List Loc), va_P D vwCl (shW cI o a (shU σ 12 j x)) H1 → va_S (shA o a) H0 H1 locs1 → W p l e R s m args below meth c H1 locs1 cells slots Q (F0 m (pc + 1) ls rest)) : W p l e R s m args below meth c H locs cells slots Q (F0 m pc ls (.int x :: .int i :: .ref (a 12) :: rest)) := by
  subst hi
  refine va_iast (n := 60) (f := σ 12) hx hb hK hP (shD_of hD) hS 9 0 rfl rfl (vp_in_nI hj (by decide)) d (fun H1 locs1 h1 _ h3 => kk H1 locs1 ?_ h3)
  rw [nI_clamp (Nat.lt_trans hj (by decide))] at h1
  exact h1
theorem sh_g13 (hx : p.tables.exec = Jvm.exec) (hb : c.code = cc) (hts : ∀ w ∈ c0 :: W0, w.before args s = true) (hown : s.vm.findClass RX2 = some m.cls) (hK : va_K D vwCl [(cI, .int)] s) (hP : va_P D vwCl (shW cI o a σ) H) (d : decode cc pc = .ok (.getfield 52, 3)) (kk : W p l e R s m args below meth c H locs cells slots Q (F0 m (pc + 3) ls (.ref (a 13) :: rest))) : W p l e R s m args below meth c H locs cells slots Q (F0 m pc ls (.ref o :: rest)) :=
  va_get (ci := 2) (C := RX2) (T := TX2) (N := 18) (v := .ref (a 13)) hx hb hts (fun w h => List.mem_cons_of_mem _ (inX2 w h)) hown hK hP 0 rfl rfl 13 (by decide) (hts _ (List.mem_cons_of_mem _ mf_X2_52)) (fun _ h => h) rfl d kk
theorem sh_r13 (hx : p.tables.exec = Jvm.exec) (hb : c.code = cc) (hK : va_K D vwCl [(cI, .int)] s) (hP : va_P D vwCl (shW cI o a σ) H) {i : Int32} (j : Nat) (hi : i = nI j) (hj : j < 60) {v : Int32} (hv : σ 13 j = v) (d : decode cc pc = .ok (.iaload, 1)) (kk : W p l e R s m args below meth c H locs cells slots Q (F0 m (pc + 1) ls (.int v :: rest))) : W p l e R s m args below meth c H locs cells slots Q (F0 m pc ls (.int i :: .ref (a 13) :: rest)) := by
  subst hi; subst hv
  exact va_iald (n := 60) (f := σ 13) hx hb hK hP 10 0 rfl rfl (vp_in_nI hj (by decide)) d (by rw [nI_clamp (Nat.lt_trans hj (by decide))]; exact kk)
theorem sh_w13 (hx : p.tables.exec = Jvm.exec) (hb : c.code = cc) (hK : va_K D vwCl [(cI, .int)] s) (hP : va_P D vwCl (shW cI o a σ) H) (hD : shD o a) (hS : va_S (shA o a) H0 H locs) {i x : Int32} (j : Nat) (hi : i = nI j) (hj : j < 60) (d : decode cc pc = .ok (.iastore, 1)) (kk : ∀ (H1 : Heap) (locs1 : List Loc), va_P D vwCl (shW cI o a (shU σ 13 j x)) H1 → va_S (shA o a) H0 H1 locs1 → W p l e R s m args below meth c H1 locs1 cells slots Q (F0 m (pc + 1) ls rest)) : W p l e R s m args below meth c H locs cells slots Q (F0 m pc ls (.int x :: .int i :: .ref (a 13) :: rest)) := by
  subst hi
  refine va_iast (n := 60) (f := σ 13) hx hb hK hP (shD_of hD) hS 10 0 rfl rfl (vp_in_nI hj (by decide)) d (fun H1 locs1 h1 _ h3 => kk H1 locs1 ?_ h3)
  rw [nI_clamp (Nat.lt_trans hj (by decide))] at h1
  exact h1
theorem sh_g14 (hx : p.tables.exec = Jvm.exec) (hb : c.code = cc) (hts : ∀ w ∈ c0 :: W0, w.before args s = true) (hown : s.vm.findClass RX2 = some m.cls) (hK : va_K D vwCl [(cI, .int)] s) (hP : va_P D vwCl (shW cI o a σ) H) (d : decode cc pc = .ok (.getfield 55, 3)) (kk : W p l e R s m args below meth c H locs cells slots Q (F0 m (pc + 3) ls (.ref (a 14) :: rest))) : W p l e R s m args below meth c H locs cells slots Q (F0 m pc ls (.ref o :: rest)) :=
  va_get (ci := 2) (C := RX2) (T := TX2) (N := 18) (v := .ref (a 14)) hx hb hts (fun w h => List.mem_cons_of_mem _ (inX2 w h)) hown hK hP 0 rfl rfl 14 (by decide) (hts _ (List.mem_cons_of_mem _ mf_X2_55)) (fun _ h => h) rfl d kk
theorem sh_r14 (hx : p.tables.exec = Jvm.exec) (hb : c.code = cc) (hK : va_K D vwCl [(cI, .int)] s) (hP : va_P D vwCl (shW cI o a σ) H) {i : Int32} (j : Nat) (hi : i = nI j) (hj : j < 60) {v : Int32} (hv : σ 14 j = v) (d : decode cc pc = .ok (.iaload, 1)) (kk : W p l e R s m args below meth c H locs cells slots Q (F0 m (pc + 1) ls (.int v :: rest))) : W p l e R s m args below meth c H locs cells slots Q (F0 m pc ls (.int i :: .ref (a 14) :: rest)) := by
  subst hi; subst hv
  exact va_iald (n := 60) (f := σ 14) hx hb hK hP 11 0 rfl rfl (vp_in_nI hj (by decide)) d (by rw [nI_clamp (Nat.lt_trans hj (by decide))]; exact kk)
theorem sh_w14 (hx : p.tables.exec = Jvm.exec) (hb : c.code = cc) (hK : va_K D vwCl [(cI, .int)] s) (hP : va_P D vwCl (shW cI o a σ) H) (hD : shD o a) (hS : va_S (shA o a) H0 H locs) {i x : Int32} (j : Nat) (hi : i = nI j) (hj : j < 60) (d : decode cc pc = .ok (.iastore, 1)) (kk : ∀ (H1 : Heap) (locs1 : List Loc), va_P D vwCl (shW cI o a (shU σ 14 j x)) H1 → va_S (shA o a) H0 H1 locs1 → W p l e R s m args below meth c H1 locs1 cells slots Q (F0 m (pc + 1) ls rest)) : W p l e R s m args below meth c H locs cells slots Q (F0 m pc ls (.int x :: .int i :: .ref (a 14) :: rest)) := by
  subst hi
  refine va_iast (n := 60) (f := σ 14) hx hb hK hP (shD_of hD) hS 11 0 rfl rfl (vp_in_nI hj (by decide)) d (fun H1 locs1 h1 _ h3 => kk H1 locs1 ?_ h3)
  rw [nI_clamp (Nat.lt_trans hj (by decide))] at h1
  exact h1
theorem sh_g15 (hx : p.tables.exec = Jvm.exec) (hb : c.code = cc) (hts : ∀ w ∈ c0 :: W0, w.before args s = true) (hown : s.vm.findClass RX2 = some m.cls) (hK : va_K D vwCl [(cI, .int)] s) (hP : va_P D vwCl (shW cI o a σ) H) (d : decode cc pc = .ok (.getfield 58, 3)) (kk : W p l e R s m args below meth c H locs cells slots Q (F0 m (pc + 3) ls (.ref (a 15) :: rest))) : W p l e R s m args below meth c H locs cells slots Q (F0 m pc ls (.ref o :: rest)) :=
  va_get (ci := 2) (C := RX2) (T := TX2) (N := 18) (v := .ref (a 15)) hx hb hts (fun w h => List.mem_cons_of_mem _ (inX2 w h)) hown hK hP 0 rfl rfl 15 (by decide) (hts _ (List.mem_cons_of_mem _ mf_X2_58)) (fun _ h => h) rfl d kk
theorem sh_r15 (hx : p.tables.exec = Jvm.exec) (hb : c.code = cc) (hK : va_K D vwCl [(cI, .int)] s) (hP : va_P D vwCl (shW cI o a σ) H) {i : Int32} (j : Nat) (hi : i = nI j) (hj : j < 60) {v : Int32} (hv : σ 15 j = v) (d : decode cc pc = .ok (.iaload, 1)) (kk : W p l e R s m args below meth c H locs cells slots Q (F0 m (pc + 1) ls (.int v :: rest))) : W p l e R s m args below meth c H locs cells slots Q (F0 m pc ls (.int i :: .ref (a 15) :: rest)) := by
  subst hi; subst hv
  exact va_iald (n := 60) (f := σ 15) hx hb hK hP 12 0 rfl rfl (vp_in_nI hj (by decide)) d (by rw [nI_clamp (Nat.lt_trans hj (by decide))]; exact kk)
theorem sh_w15 (hx : p.tables.exec = Jvm.exec) (hb : c.code = cc) (hK : va_K D vwCl [(cI, .int)] s) (hP : va_P D vwCl (shW cI o a σ) H) (hD : shD o a) (hS : va_S (shA o a) H0 H locs) {i x : Int32} (j : Nat) (hi : i = nI j) (hj : j < 60) (d : decode cc pc = .ok (.iastore, 1)) (kk : ∀ (H1 : Heap) (locs1 : List Loc), va_P D vwCl (shW cI o a (shU σ 15 j x)) H1 → va_S (shA o a) H0 H1 locs1 → W p l e R s m args below meth c H1 locs1 cells slots Q (F0 m (pc + 1) ls rest)) : W p l e R s m args below meth c H locs cells slots Q (F0 m pc ls (.int x :: .int i :: .ref (a 15) :: rest)) := by
  subst hi
  refine va_iast (n := 60) (f := σ 15) hx hb hK hP (shD_of hD) hS 12 0 rfl rfl (vp_in_nI hj (by decide)) d (fun H1 locs1 h1 _ h3 => kk H1 locs1 ?_ h3)
  rw [nI_clamp (Nat.lt_trans hj (by decide))] at h1
  exact h1
theorem sh_g16 (hx : p.tables.exec = Jvm.exec) (hb : c.code = cc) (hts : ∀ w ∈ c0 :: W0, w.before args s = true) (hown : s.vm.findClass RX2 = some m.cls) (hK : va_K D vwCl [(cI, .int)] s) (hP : va_P D vwCl (shW cI o a σ) H) (d : decode cc pc = .ok (.getfield 61, 3)) (kk : W p l e R s m args below meth c H locs cells slots Q (F0 m (pc + 3) ls (.ref (a 16) :: rest))) : W p l e R s m args below meth c H locs cells slots Q (F0 m pc ls (.ref o :: rest)) :=
  va_get (ci := 2) (C := RX2) (T := TX2) (N := 18) (v := .ref (a 16)) hx hb hts (fun w h => List.mem_cons_of_mem _ (inX2 w h)) hown hK hP 0 rfl rfl 16 (by decide) (hts _ (List.mem_cons_of_mem _ mf_X2_61)) (fun _ h => h) rfl d kk
theorem sh_r16 (hx : p.tables.exec = Jvm.exec) (hb : c.code = cc) (hK : va_K D vwCl [(cI, .int)] s) (hP : va_P D vwCl (shW cI o a σ) H) {i : Int32} (j : Nat) (hi : i = nI j) (hj : j < 7) {v : Int32} (hv : σ 16 j = v) (d : decode cc pc = .ok (.iaload, 1)) (kk : W p l e R s m args below meth c H locs cells slots Q (F0 m (pc + 1) ls (.int v :: rest))) : W p l e R s m args below meth c H locs cells slots Q (F0 m pc ls (.int i :: .ref (a 16) :: rest)) := by
  subst hi; subst hv
  exact va_iald (n := 7) (f := σ 16) hx hb hK hP 13 0 rfl rfl (vp_in_nI hj (by decide)) d (by rw [nI_clamp (Nat.lt_trans hj (by decide))]; exact kk)
theorem sh_w16 (hx : p.tables.exec = Jvm.exec) (hb : c.code = cc) (hK : va_K D vwCl [(cI, .int)] s) (hP : va_P D vwCl (shW cI o a σ) H) (hD : shD o a) (hS : va_S (shA o a) H0 H locs) {i x : Int32} (j : Nat) (hi : i = nI j) (hj : j < 7) (d : decode cc pc = .ok (.iastore, 1)) (kk : ∀ (H1 : Heap) (locs1 : List Loc), va_P D vwCl (shW cI o a (shU σ 16 j x)) H1 → va_S (shA o a) H0 H1 locs1 → W p l e R s m args below meth c H1 locs1 cells slots Q (F0 m (pc + 1) ls rest)) : W p l e R s m args below meth c H locs cells slots Q (F0 m pc ls (.int x :: .int i :: .ref (a 16) :: rest)) := by
  subst hi
  refine va_iast (n := 7) (f := σ 16) hx hb hK hP (shD_of hD) hS 13 0 rfl rfl (vp_in_nI hj (by decide)) d (fun H1 locs1 h1 _ h3 => kk H1 locs1 ?_ h3)
  rw [nI_clamp (Nat.lt_trans hj (by decide))] at h1
  exact h1
theorem sh_g17 (hx : p.tables.exec = Jvm.exec) (hb : c.code = cc) (hts : ∀ w ∈ c0 :: W0, w.before args s = true) (hown : s.vm.findClass RX2 = some m.cls) (hK : va_K D vwCl [(cI, .int)] s) (hP : va_P D vwCl (shW cI o a σ) H) (d : decode cc pc = .ok (.getfield 64, 3)) (kk : W p l e R s m args below meth c H locs cells slots Q (F0 m (pc + 3) ls (.ref (a 17) :: rest))) : W p l e R s m args below meth c H locs cells slots Q (F0 m pc ls (.ref o :: rest)) :=
  va_get (ci := 2) (C := RX2) (T := TX2) (N := 18) (v := .ref (a 17)) hx hb hts (fun w h => List.mem_cons_of_mem _ (inX2 w h)) hown hK hP 0 rfl rfl 17 (by decide) (hts _ (List.mem_cons_of_mem _ mf_X2_64)) (fun _ h => h) rfl d kk
theorem sh_r17 (hx : p.tables.exec = Jvm.exec) (hb : c.code = cc) (hK : va_K D vwCl [(cI, .int)] s) (hP : va_P D vwCl (shW cI o a σ) H) {i : Int32} (j : Nat) (hi : i = nI j) (hj : j < 8) {v : Int32} (hv : σ 17 j = v) (d : decode cc pc = .ok (.iaload, 1)) (kk : W p l e R s m args below meth c H locs cells slots Q (F0 m (pc + 1) ls (.int v :: rest))) : W p l e R s m args below meth c H locs cells slots Q (F0 m pc ls (.int i :: .ref (a 17) :: rest)) := by
  subst hi; subst hv
  exact va_iald (n := 8) (f := σ 17) hx hb hK hP 14 0 rfl rfl (vp_in_nI hj (by decide)) d (by rw [nI_clamp (Nat.lt_trans hj (by decide))]; exact kk)
theorem sh_w17 (hx : p.tables.exec = Jvm.exec) (hb : c.code = cc) (hK : va_K D vwCl [(cI, .int)] s) (hP : va_P D vwCl (shW cI o a σ) H) (hD : shD o a) (hS : va_S (shA o a) H0 H locs) {i x : Int32} (j : Nat) (hi : i = nI j) (hj : j < 8) (d : decode cc pc = .ok (.iastore, 1)) (kk : ∀ (H1 : Heap) (locs1 : List Loc), va_P D vwCl (shW cI o a (shU σ 17 j x)) H1 → va_S (shA o a) H0 H1 locs1 → W p l e R s m args below meth c H1 locs1 cells slots Q (F0 m (pc + 1) ls rest)) : W p l e R s m args below meth c H locs cells slots Q (F0 m pc ls (.int x :: .int i :: .ref (a 17) :: rest)) := by
  subst hi
  refine va_iast (n := 8) (f := σ 17) hx hb hK hP (shD_of hD) hS 14 0 rfl rfl (vp_in_nI hj (by decide)) d (fun H1 locs1 h1 _ h3 => kk H1 locs1 ?_ h3)
  rw [nI_clamp (Nat.lt_trans hj (by decide))] at h1
  exact h1
end SH
/-! ===== world mo: an object of BookRentalModel and its rows ===== -/
def moW (cI : ClassId) (o : Nat) (a : Nat → Nat) (μ : Nat → Nat → Int32) (hh : Int64) : va_W :=
  [(o, .inr (4, [.ref (a 0), .int (μ 1 0), .ref (a 2), .ref (a 3), .ref (a 4), .int (μ 5 0), .int (μ 6 0), .int (μ 7 0), .int (μ 8 0), .int (μ 9 0), .long hh])), (a 0, .inl (cI, 2891, .inl (μ 0))), (a 2, .inl (cI, 4, .inl (μ 2))), (a 3, .inl (cI, 4, .inl (μ 3))), (a 4, .inl (cI, 100, .inl (μ 4)))]
def moA (o : Nat) (a : Nat → Nat) : Nat → Prop := fun q => q = o ∨ q = a 0 ∨ q = a 2 ∨ q = a 3 ∨ q = a 4
def moD (o : Nat) (a : Nat → Nat) : Prop := va_D (fun _ => True) (moW 0 o a (fun _ _ => 0) 0)
theorem moD_of {cI : ClassId} {o : Nat} {a : Nat → Nat} {μ : Nat → Nat → Int32} {hh : Int64} (h : moD o a) : va_D (moA o a) (moW cI o a μ hh) := by
  have h1 : va_D (fun _ => True) (moW cI o a μ hh) := va_D_fst (ws := moW 0 o a (fun _ _ => 0) 0) rfl h
  refine ⟨h1.1, fun k q hq => ?_⟩
  match k, hq with
  | 0, hq => cases hq; exact Or.inl rfl
  | 1, hq => cases hq; exact Or.inr (Or.inl rfl)
  | 2, hq => cases hq; exact Or.inr (Or.inr (Or.inl rfl))
  | 3, hq => cases hq; exact Or.inr (Or.inr (Or.inr (Or.inl rfl)))
  | 4, hq => cases hq; exact Or.inr (Or.inr (Or.inr (Or.inr (rfl))))
  | k + 5, hq => cases hq
def moP (D : va_G) (cI : ClassId) (o : Nat) (a : Nat → Nat) (μ : Nat → Nat → Int32) (hh : Int64) (U : State) : Prop := va_P D vwCl (moW cI o a μ hh) U.heap ∧ va_K D vwCl [(cI, .int)] U
def moM (D : va_G) (cI : ClassId) (o : Nat) (a : Nat → Nat) (μ : Nat → Nat → Int32) (hh : Int64) (U : State) : Prop := moP D cI o a μ hh U ∧ moD o a
theorem mo_blind {av : List Value} {D : va_G} {cI : ClassId} {o : Nat} {a : Nat → Nat} {μ : Nat → Nat → Int32} {hh : Int64} : FrameBlind (va_Pc av (moP D cI o a μ hh)) := fun b U g mk q => ⟨q.1, q.2.1, va_K.moved (u := U) (U := U.calling g mk b) (Vm.Alike.refl U.vm) q.2.2⟩
theorem mo_blindM {av : List Value} {D : va_G} {cI : ClassId} {o : Nat} {a : Nat → Nat} {μ : Nat → Nat → Int32} {hh : Int64} : FrameBlind (va_Pc av (moM D cI o a μ hh)) := fun b U g mk q => ⟨q.1, ⟨q.2.1.1, va_K.moved (u := U) (U := U.calling g mk b) (Vm.Alike.refl U.vm) q.2.1.2⟩, q.2.2⟩
/-- the end of a contract that changes the world: an int, or nothing, and the new state -/
def moQ (D : va_G) (cI : ClassId) (o : Nat) (a : Nat → Nat) (hh : Int64) (w : Int32 × (Nat → Nat → Int32)) : Array Value → State → Outcome → State → Prop := fun _ st oc t => oc = .returned (some (.int w.1)) ∧ moP D cI o a w.2 hh t ∧ va_F (moA o a) st t
def moV (D : va_G) (cI : ClassId) (o : Nat) (a : Nat → Nat) (hh : Int64) (w : Nat → Nat → Int32) : Array Value → State → Outcome → State → Prop := fun _ st oc t => oc = .returned none ∧ moP D cI o a w hh t ∧ va_F (moA o a) st t
section MO
variable {p : Program} {l : Launch} {e : Env} {R : Room} {s : State} {m : MethodId} {args : Array Value} {below : List Frame} {meth : Method} {c : Code} {H : Heap} {locs : List Loc} {cells slots : Nat} {Q : State → Prop} {cc : ByteArray} {maxL nL : Nat} {ret : Option FieldType} {own : String} {c0 : Cond} {pc : Nat} {ls : Array Slot} {rest st0 : List Value} {A0 : Nat → Prop} {H0 : Heap} {free : Addr → Prop} {D : va_G} {cI : ClassId} {o : Nat} {a : Nat → Nat} {μ : Nat → Nat → Int32} {hh : Int64}
/-- a call on the same object that changes nothing -/
theorem mo_call {y : MethodName} {bytes : ByteArray} {mL n index : Nat} {rt : Option FieldType} {ws : List Cond} {rm : Room} {As : List Value} {v : Int32} (hx : p.tables.exec = Jvm.exec) (hb : c.code = cc) (hml : c.maxLocals = nL) (hown : s.vm.findClass own = some m.cls) (hts : ∀ w ∈ c0 :: W0, w.before args s = true) (hK : va_K D vwCl [(cI, .int)] s) (hP : va_P D vwCl (moW cI o a μ hh) H)
    (hM : Met l y ws rm (va_Pc (.ref o :: As) (moP D cI o a μ hh)) (vp_Si (fun r => r = v)) 0 0 (fun _ => False)) (cw : CallW R s args own RX4 index y bytes mL rt ws rm 0 0 n)
    (hn : As.length = n) (hsize : ls.size = nL) (hst : st0 = As.reverse ++ .ref o :: rest) (hW : (rest.map fun v => v.category).sum ≤ 8) (d : decode cc pc = .ok (.invokevirtual index, 3)) (hc : cells ≤ R.cells) (hs : slots ≤ R.slots)
    (kk : W p l e R s m args below meth c H locs cells slots Q (F0 m (pc + 3) ls (.int v :: rest))) : W p l e R s m args below meth c H locs cells slots Q (F0 m pc ls st0) :=
  cl_Si (va_runV (As := As) (rest := rest) ⟨hx, hb, hml, hown, hts⟩ hM cw ⟨mo_blind, va_recv (ci := 4) (q0 := 0) hK hP rfl rfl, fun U hU hW => ⟨rfl, by rw [hU]; exact hP, va_K.moved hW.alike hK⟩⟩ rfl hn hsize hst (lv_room hW) d ⟨hc, hs⟩) kk
/-- a call on the same object that changes it, and answers an int -/
theorem mo_callM {y : MethodName} {bytes : ByteArray} {mL n index : Nat} {rt : Option FieldType} {ws : List Cond} {rm : Room} {As : List Value} {w : Int32 × (Nat → Nat → Int32)} (hx : p.tables.exec = Jvm.exec) (hb : c.code = cc) (hml : c.maxLocals = nL) (hown : s.vm.findClass own = some m.cls) (hts : ∀ w ∈ c0 :: W0, w.before args s = true) (hK : va_K D vwCl [(cI, .int)] s) (hP : va_P D vwCl (moW cI o a μ hh) H) (hD : moD o a) (hS : va_S (moA o a) H0 H locs)
    (hM : Met l y ws rm (va_Pc (.ref o :: As) (moM D cI o a μ hh)) (moQ D cI o a hh w) 0 0 (moA o a)) (cw : CallW R s args own RX4 index y bytes mL rt ws rm 0 0 n)
    (hn : As.length = n) (hsize : ls.size = nL) (hst : st0 = As.reverse ++ .ref o :: rest) (hW : (rest.map fun v => v.category).sum ≤ 8) (d : decode cc pc = .ok (.invokevirtual index, 3)) (hc : cells ≤ R.cells) (hs : slots ≤ R.slots)
    (kk : ∀ (H1 : Heap) (locs1 : List Loc), va_P D vwCl (moW cI o a w.2 hh) H1 → va_S (moA o a) H0 H1 locs1 → W p l e R s m args below meth c H1 locs1 cells slots Q (F0 m (pc + 3) ls (.int w.1 :: rest))) : W p l e R s m args below meth c H locs cells slots Q (F0 m pc ls st0) := by
  have hr := va_runV (As := As) (rest := rest) (locs := locs) (slots := slots) (below := below) (meth := meth) (p := p) (e := e) ⟨hx, hb, hml, hown, hts⟩ hM cw ⟨mo_blindM, va_recv (ci := 4) (q0 := 0) hK hP rfl rfl, fun U hU hW => ⟨rfl, ⟨by rw [hU]; exact hP, va_K.moved hW.alike hK⟩, hD⟩⟩ (g := F0 m pc ls st0) rfl hn hsize hst (lv_room hW) d ⟨hc, hs⟩
  intro T hT X
  obtain ⟨v1, st₀, t, T', L, h0, X', hL, e1, e2, ⟨hv, hp, hF⟩, st⟩ := hr T hT X
  cases hv
  obtain ⟨t2, a1, b1⟩ := kk T'.heap (locs ++ L) (by rw [e1]; exact hp.1) ⟨Nat.le_trans hS.1 (by rw [e1, ← h0]; exact hF.1), fun q h1 h2 => by rw [e1, hF.2 q (by rw [h0]; exact Nat.lt_of_lt_of_le h1 hS.1) h2, h0]; exact hS.2.1 q h1 h2, fun q hq => by
      rcases List.mem_append.mp hq with h | h
      · exact hS.2.2 q h
      · exact hL q h⟩ T' rfl X'
  exact ⟨t2, st t2 a1, b1⟩
theorem mo_callV {y : MethodName} {bytes : ByteArray} {mL n index : Nat} {rt : Option FieldType} {ws : List Cond} {rm : Room} {As : List Value} {w : Nat → Nat → Int32} (hx : p.tables.exec = Jvm.exec) (hb : c.code = cc) (hml : c.maxLocals = nL) (hown : s.vm.findClass own = some m.cls) (hts : ∀ w ∈ c0 :: W0, w.before args s = true) (hK : va_K D vwCl [(cI, .int)] s) (hP : va_P D vwCl (moW cI o a μ hh) H) (hD : moD o a) (hS : va_S (moA o a) H0 H locs)
    (hM : Met l y ws rm (va_Pc (.ref o :: As) (moM D cI o a μ hh)) (moV D cI o a hh w) 0 0 (moA o a)) (cw : CallW R s args own RX4 index y bytes mL rt ws rm 0 0 n)
    (hn : As.length = n) (hsize : ls.size = nL) (hst : st0 = As.reverse ++ .ref o :: rest) (hW : (rest.map fun v => v.category).sum ≤ 8) (d : decode cc pc = .ok (.invokevirtual index, 3)) (hc : cells ≤ R.cells) (hs : slots ≤ R.slots)
    (kk : ∀ (H1 : Heap) (locs1 : List Loc), va_P D vwCl (moW cI o a w hh) H1 → va_S (moA o a) H0 H1 locs1 → W p l e R s m args below meth c H1 locs1 cells slots Q (F0 m (pc + 3) ls rest)) : W p l e R s m args below meth c H locs cells slots Q (F0 m pc ls st0) := by
  have hr := va_runV (As := As) (rest := rest) (locs := locs) (slots := slots) (below := below) (meth := meth) (p := p) (e := e) ⟨hx, hb, hml, hown, hts⟩ hM cw ⟨mo_blindM, va_recv (ci := 4) (q0 := 0) hK hP rfl rfl, fun U hU hW => ⟨rfl, ⟨by rw [hU]; exact hP, va_K.moved hW.alike hK⟩, hD⟩⟩ (g := F0 m pc ls st0) rfl hn hsize hst (lv_room hW) d ⟨hc, hs⟩
  intro T hT X
  obtain ⟨v1, st₀, t, T', L, h0, X', hL, e1, e2, ⟨hv, hp, hF⟩, st⟩ := hr T hT X
  cases hv
  obtain ⟨t2, a1, b1⟩ := kk T'.heap (locs ++ L) (by rw [e1]; exact hp.1) ⟨Nat.le_trans hS.1 (by rw [e1, ← h0]; exact hF.1), fun q h1 h2 => by rw [e1, hF.2 q (by rw [h0]; exact Nat.lt_of_lt_of_le h1 hS.1) h2, h0]; exact hS.2.1 q h1 h2, fun q hq => by
      rcases List.mem_append.mp hq with h | h
      · exact hS.2.2 q h
      · exact hL q h⟩ T' rfl X'
  exact ⟨t2, st t2 a1, b1⟩
theorem mo_finM {w : Int32 × (Nat → Nat → Int32)} {v : Int32} (hx : p.tables.exec = Jvm.exec) (hb : c.code = cc) (hr : meth.sig.returnType = some .int) (hlk : meth.locks = false) (hK : va_K D vwCl [(cI, .int)] s) (hP : va_P D vwCl (moW cI o a μ hh) H) (hS : va_S (moA o a) s.heap H locs) (h : (v, μ) = w) (d : decode cc pc = .ok (.ireturn, 1)) :
    W p l e R s m args below meth c H locs 0 0 (MQ below (moQ D cI o a hh w) args s 0 0 (moA o a)) (F0 m pc ls [.int v]) := by
  subst h
  exact W.iret hx hb hr (fun t ht hW => ⟨rfl, ⟨by rw [ht]; exact hP, va_K.moved hW.alike hK⟩, hS.F ht⟩) hS.2.2 d hlk
theorem mo_finMz {w : Int32 × (Nat → Nat → Int32)} {v : Int32} (hx : p.tables.exec = Jvm.exec) (hb : c.code = cc) (hr : meth.sig.returnType = some .boolean) (hlk : meth.locks = false) (hK : va_K D vwCl [(cI, .int)] s) (hP : va_P D vwCl (moW cI o a μ hh) H) (hS : va_S (moA o a) s.heap H locs) (hz : v = 0 ∨ v = 1) (h : (v, μ) = w) (d : decode cc pc = .ok (.ireturn, 1)) :
    W p l e R s m args below meth c H locs 0 0 (MQ below (moQ D cI o a hh w) args s 0 0 (moA o a)) (F0 m pc ls [.int v]) := by
  subst h
  exact W.zret hx hb hr (nar_z hz) (fun t ht hW => ⟨rfl, ⟨by rw [ht]; exact hP, va_K.moved hW.alike hK⟩, hS.F ht⟩) hS.2.2 d hlk
theorem mo_finV {w : Nat → Nat → Int32} (hx : p.tables.exec = Jvm.exec) (hb : c.code = cc) (hr : meth.sig.returnType = none) (hlk : meth.locks = false) (hK : va_K D vwCl [(cI, .int)] s) (hP : va_P D vwCl (moW cI o a μ hh) H) (hS : va_S (moA o a) s.heap H locs) (h : μ = w) (d : decode cc pc = .ok (.return_, 1)) :
    W p l e R s m args below meth c H locs 0 0 (MQ below (moV D cI o a hh w) args s 0 0 (moA o a)) (F0 m pc ls []) := by
  subst h
  exact W.vret hx hb hr (fun t ht hW => ⟨rfl, ⟨by rw [ht]; exact hP, va_K.moved hW.alike hK⟩, hS.F ht⟩) hS.2.2 d hlk
theorem mo_g0 (hx : p.tables.exec = Jvm.exec) (hb : c.code = cc) (hts : ∀ w ∈ c0 :: W0, w.before args s = true) (hown : s.vm.findClass RX4 = some m.cls) (hK : va_K D vwCl [(cI, .int)] s) (hP : va_P D vwCl (moW cI o a μ hh) H) (d : decode cc pc = .ok (.getfield 7, 3)) (kk : W p l e R s m args below meth c H locs cells slots Q (F0 m (pc + 3) ls (.ref (a 0) :: rest))) : W p l e R s m args below meth c H locs cells slots Q (F0 m pc ls (.ref o :: rest)) :=
  va_get (ci := 4) (C := RX4) (T := TX4) (N := 11) (v := .ref (a 0)) hx hb hts (fun w h => List.mem_cons_of_mem _ (inX4 w h)) hown hK hP 0 rfl rfl 0 (by decide) (hts _ (List.mem_cons_of_mem _ mf_X4_7)) (fun _ h => h) rfl d kk
theorem mo_r0 (hx : p.tables.exec = Jvm.exec) (hb : c.code = cc) (hK : va_K D vwCl [(cI, .int)] s) (hP : va_P D vwCl (moW cI o a μ hh) H) {i : Int32} (j : Nat) (hi : i = nI j) (hj : j < 2891) {v : Int32} (hv : μ 0 j = v) (d : decode cc pc = .ok (.iaload, 1)) (kk : W p l e R s m args below meth c H locs cells slots Q (F0 m (pc + 1) ls (.int v :: rest))) : W p l e R s m args below meth c H locs cells slots Q (F0 m pc ls (.int i :: .ref (a 0) :: rest)) := by
  subst hi; subst hv
  exact va_iald (n := 2891) (f := μ 0) hx hb hK hP 1 0 rfl rfl (vp_in_nI hj (by decide)) d (by rw [nI_clamp (Nat.lt_trans hj (by decide))]; exact kk)
theorem mo_w0 (hx : p.tables.exec = Jvm.exec) (hb : c.code = cc) (hK : va_K D vwCl [(cI, .int)] s) (hP : va_P D vwCl (moW cI o a μ hh) H) (hD : moD o a) (hS : va_S (moA o a) H0 H locs) {i x : Int32} (j : Nat) (hi : i = nI j) (hj : j < 2891) (d : decode cc pc = .ok (.iastore, 1)) (kk : ∀ (H1 : Heap) (locs1 : List Loc), va_P D vwCl (moW cI o a (shU μ 0 j x) hh) H1 → va_S (moA o a) H0 H1 locs1 → W p l e R s m args below meth c H1 locs1 cells slots Q (F0 m (pc + 1) ls rest)) : W p l e R s m args below meth c H locs cells slots Q (F0 m pc ls (.int x :: .int i :: .ref (a 0) :: rest)) := by
  subst hi
  refine va_iast (n := 2891) (f := μ 0) hx hb hK hP (moD_of hD) hS 1 0 rfl rfl (vp_in_nI hj (by decide)) d (fun H1 locs1 h1 _ h3 => kk H1 locs1 ?_ h3)
  rw [nI_clamp (Nat.lt_trans hj (by decide))] at h1
  exact h1
theorem mo_g1 (hx : p.tables.exec = Jvm.exec) (hb : c.code = cc) (hts : ∀ w ∈ c0 :: W0, w.before args s = true) (hown : s.vm.findClass RX4 = some m.cls) (hK : va_K D vwCl [(cI, .int)] s) (hP : va_P D vwCl (moW cI o a μ hh) H) {v : Int32} (hv : μ 1 0 = v) (d : decode cc pc = .ok (.getfield 22, 3)) (kk : W p l e R s m args below meth c H locs cells slots Q (F0 m (pc + 3) ls (.int v :: rest))) : W p l e R s m args below meth c H locs cells slots Q (F0 m pc ls (.ref o :: rest)) := by
  subst hv
  exact va_get (ci := 4) (C := RX4) (T := TX4) (N := 11) (v := .int (μ 1 0)) hx hb hts (fun w h => List.mem_cons_of_mem _ (inX4 w h)) hown hK hP 0 rfl rfl 1 (by decide) (hts _ (List.mem_cons_of_mem _ mf_X4_22)) (fun _ h => h) rfl d kk
theorem mo_p1 (hx : p.tables.exec = Jvm.exec) (hb : c.code = cc) (hts : ∀ w ∈ c0 :: W0, w.before args s = true) (hown : s.vm.findClass RX4 = some m.cls) (hK : va_K D vwCl [(cI, .int)] s) (hP : va_P D vwCl (moW cI o a μ hh) H) (hD : moD o a) (hS : va_S (moA o a) H0 H locs) {x : Int32} (d : decode cc pc = .ok (.putfield 22, 3)) (kk : ∀ (H1 : Heap) (locs1 : List Loc), va_P D vwCl (moW cI o a (shS μ 1 x) hh) H1 → va_S (moA o a) H0 H1 locs1 → W p l e R s m args below meth c H1 locs1 cells slots Q (F0 m (pc + 3) ls rest)) : W p l e R s m args below meth c H locs cells slots Q (F0 m pc ls (.int x :: .ref o :: rest)) :=
  va_put (ci := 4) (C := RX4) (T := TX4) (N := 11) (v := .int x) (ty := .int) hx hb hts (fun w h => List.mem_cons_of_mem _ (inX4 w h)) tyX4 tyX4_ok nmX4 hown hK hP (moD_of hD) hS 0 rfl rfl 1 (by decide) (hts _ (List.mem_cons_of_mem _ mf_X4_22)) (fun _ h => h) rfl (by decide +kernel) rfl rfl (Nat.le_of_ble_eq_true rfl) d (fun H1 locs1 h1 _ h3 => kk H1 locs1 h1 h3)
theorem mo_g2 (hx : p.tables.exec = Jvm.exec) (hb : c.code = cc) (hts : ∀ w ∈ c0 :: W0, w.before args s = true) (hown : s.vm.findClass RX4 = some m.cls) (hK : va_K D vwCl [(cI, .int)] s) (hP : va_P D vwCl (moW cI o a μ hh) H) (d : decode cc pc = .ok (.getfield 13, 3)) (kk : W p l e R s m args below meth c H locs cells slots Q (F0 m (pc + 3) ls (.ref (a 2) :: rest))) : W p l e R s m args below meth c H locs cells slots Q (F0 m pc ls (.ref o :: rest)) :=
  va_get (ci := 4) (C := RX4) (T := TX4) (N := 11) (v := .ref (a 2)) hx hb hts (fun w h => List.mem_cons_of_mem _ (inX4 w h)) hown hK hP 0 rfl rfl 2 (by decide) (hts _ (List.mem_cons_of_mem _ mf_X4_13)) (fun _ h => h) rfl d kk
theorem mo_r2 (hx : p.tables.exec = Jvm.exec) (hb : c.code = cc) (hK : va_K D vwCl [(cI, .int)] s) (hP : va_P D vwCl (moW cI o a μ hh) H) {i : Int32} (j : Nat) (hi : i = nI j) (hj : j < 4) {v : Int32} (hv : μ 2 j = v) (d : decode cc pc = .ok (.iaload, 1)) (kk : W p l e R s m args below meth c H locs cells slots Q (F0 m (pc + 1) ls (.int v :: rest))) : W p l e R s m args below meth c H locs cells slots Q (F0 m pc ls (.int i :: .ref (a 2) :: rest)) := by
  subst hi; subst hv
  exact va_iald (n := 4) (f := μ 2) hx hb hK hP 2 0 rfl rfl (vp_in_nI hj (by decide)) d (by rw [nI_clamp (Nat.lt_trans hj (by decide))]; exact kk)
theorem mo_w2 (hx : p.tables.exec = Jvm.exec) (hb : c.code = cc) (hK : va_K D vwCl [(cI, .int)] s) (hP : va_P D vwCl (moW cI o a μ hh) H) (hD : moD o a) (hS : va_S (moA o a) H0 H locs) {i x : Int32} (j : Nat) (hi : i = nI j) (hj : j < 4) (d : decode cc pc = .ok (.iastore, 1)) (kk : ∀ (H1 : Heap) (locs1 : List Loc), va_P D vwCl (moW cI o a (shU μ 2 j x) hh) H1 → va_S (moA o a) H0 H1 locs1 → W p l e R s m args below meth c H1 locs1 cells slots Q (F0 m (pc + 1) ls rest)) : W p l e R s m args below meth c H locs cells slots Q (F0 m pc ls (.int x :: .int i :: .ref (a 2) :: rest)) := by
  subst hi
  refine va_iast (n := 4) (f := μ 2) hx hb hK hP (moD_of hD) hS 2 0 rfl rfl (vp_in_nI hj (by decide)) d (fun H1 locs1 h1 _ h3 => kk H1 locs1 ?_ h3)
  rw [nI_clamp (Nat.lt_trans hj (by decide))] at h1
  exact h1
theorem mo_g3 (hx : p.tables.exec = Jvm.exec) (hb : c.code = cc) (hts : ∀ w ∈ c0 :: W0, w.before args s = true) (hown : s.vm.findClass RX4 = some m.cls) (hK : va_K D vwCl [(cI, .int)] s) (hP : va_P D vwCl (moW cI o a μ hh) H) (d : decode cc pc = .ok (.getfield 16, 3)) (kk : W p l e R s m args below meth c H locs cells slots Q (F0 m (pc + 3) ls (.ref (a 3) :: rest))) : W p l e R s m args below meth c H locs cells slots Q (F0 m pc ls (.ref o :: rest)) :=
  va_get (ci := 4) (C := RX4) (T := TX4) (N := 11) (v := .ref (a 3)) hx hb hts (fun w h => List.mem_cons_of_mem _ (inX4 w h)) hown hK hP 0 rfl rfl 3 (by decide) (hts _ (List.mem_cons_of_mem _ mf_X4_16)) (fun _ h => h) rfl d kk
theorem mo_r3 (hx : p.tables.exec = Jvm.exec) (hb : c.code = cc) (hK : va_K D vwCl [(cI, .int)] s) (hP : va_P D vwCl (moW cI o a μ hh) H) {i : Int32} (j : Nat) (hi : i = nI j) (hj : j < 4) {v : Int32} (hv : μ 3 j = v) (d : decode cc pc = .ok (.iaload, 1)) (kk : W p l e R s m args below meth c H locs cells slots Q (F0 m (pc + 1) ls (.int v :: rest))) : W p l e R s m args below meth c H locs cells slots Q (F0 m pc ls (.int i :: .ref (a 3) :: rest)) := by
  subst hi; subst hv
  exact va_iald (n := 4) (f := μ 3) hx hb hK hP 3 0 rfl rfl (vp_in_nI hj (by decide)) d (by rw [nI_clamp (Nat.lt_trans hj (by decide))]; exact kk)
theorem mo_w3 (hx : p.tables.exec = Jvm.exec) (hb : c.code = cc) (hK : va_K D vwCl [(cI, .int)] s) (hP : va_P D vwCl (moW cI o a μ hh) H) (hD : moD o a) (hS : va_S (moA o a) H0 H locs) {i x : Int32} (j : Nat) (hi : i = nI j) (hj : j < 4) (d : decode cc pc = .ok (.iastore, 1)) (kk : ∀ (H1 : Heap) (locs1 : List Loc), va_P D vwCl (moW cI o a (shU μ 3 j x) hh) H1 → va_S (moA o a) H0 H1 locs1 → W p l e R s m args below meth c H1 locs1 cells slots Q (F0 m (pc + 1) ls rest)) : W p l e R s m args below meth c H locs cells slots Q (F0 m pc ls (.int x :: .int i :: .ref (a 3) :: rest)) := by
  subst hi
  refine va_iast (n := 4) (f := μ 3) hx hb hK hP (moD_of hD) hS 3 0 rfl rfl (vp_in_nI hj (by decide)) d (fun H1 locs1 h1 _ h3 => kk H1 locs1 ?_ h3)
  rw [nI_clamp (Nat.lt_trans hj (by decide))] at h1
  exact h1
theorem mo_g4 (hx : p.tables.exec = Jvm.exec) (hb : c.code = cc) (hts : ∀ w ∈ c0 :: W0, w.before args s = true) (hown : s.vm.findClass RX4 = some m.cls) (hK : va_K D vwCl [(cI, .int)] s) (hP : va_P D vwCl (moW cI o a μ hh) H) (d : decode cc pc = .ok (.getfield 19, 3)) (kk : W p l e R s m args below meth c H locs cells slots Q (F0 m (pc + 3) ls (.ref (a 4) :: rest))) : W p l e R s m args below meth c H locs cells slots Q (F0 m pc ls (.ref o :: rest)) :=
  va_get (ci := 4) (C := RX4) (T := TX4) (N := 11) (v := .ref (a 4)) hx hb hts (fun w h => List.mem_cons_of_mem _ (inX4 w h)) hown hK hP 0 rfl rfl 4 (by decide) (hts _ (List.mem_cons_of_mem _ mf_X4_19)) (fun _ h => h) rfl d kk
theorem mo_r4 (hx : p.tables.exec = Jvm.exec) (hb : c.code = cc) (hK : va_K D vwCl [(cI, .int)] s) (hP : va_P D vwCl (moW cI o a μ hh) H) {i : Int32} (j : Nat) (hi : i = nI j) (hj : j < 100) {v : Int32} (hv : μ 4 j = v) (d : decode cc pc = .ok (.iaload, 1)) (kk : W p l e R s m args below meth c H locs cells slots Q (F0 m (pc + 1) ls (.int v :: rest))) : W p l e R s m args below meth c H locs cells slots Q (F0 m pc ls (.int i :: .ref (a 4) :: rest)) := by
  subst hi; subst hv
  exact va_iald (n := 100) (f := μ 4) hx hb hK hP 4 0 rfl rfl (vp_in_nI hj (by decide)) d (by rw [nI_clamp (Nat.lt_trans hj (by decide))]; exact kk)
theorem mo_w4 (hx : p.tables.exec = Jvm.exec) (hb : c.code = cc) (hK : va_K D vwCl [(cI, .int)] s) (hP : va_P D vwCl (moW cI o a μ hh) H) (hD : moD o a) (hS : va_S (moA o a) H0 H locs) {i x : Int32} (j : Nat) (hi : i = nI j) (hj : j < 100) (d : decode cc pc = .ok (.iastore, 1)) (kk : ∀ (H1 : Heap) (locs1 : List Loc), va_P D vwCl (moW cI o a (shU μ 4 j x) hh) H1 → va_S (moA o a) H0 H1 locs1 → W p l e R s m args below meth c H1 locs1 cells slots Q (F0 m (pc + 1) ls rest)) : W p l e R s m args below meth c H locs cells slots Q (F0 m pc ls (.int x :: .int i :: .ref (a 4) :: rest)) := by
  subst hi
  refine va_iast (n := 100) (f := μ 4) hx hb hK hP (moD_of hD) hS 4 0 rfl rfl (vp_in_nI hj (by decide)) d (fun H1 locs1 h1 _ h3 => kk H1 locs1 ?_ h3)
  rw [nI_clamp (Nat.lt_trans hj (by decide))] at h1
  exact h1
theorem mo_g5 (hx : p.tables.exec = Jvm.exec) (hb : c.code = cc) (hts : ∀ w ∈ c0 :: W0, w.before args s = true) (hown : s.vm.findClass RX4 = some m.cls) (hK : va_K D vwCl [(cI, .int)] s) (hP : va_P D vwCl (moW cI o a μ hh) H) {v : Int32} (hv : μ 5 0 = v) (d : decode cc pc = .ok (.getfield 192, 3)) (kk : W p l e R s m args below meth c H locs cells slots Q (F0 m (pc + 3) ls (.int v :: rest))) : W p l e R s m args below meth c H locs cells slots Q (F0 m pc ls (.ref o :: rest)) := by
  subst hv
  exact va_get (ci := 4) (C := RX4) (T := TX4) (N := 11) (v := .int (μ 5 0)) hx hb hts (fun w h => List.mem_cons_of_mem _ (inX4 w h)) hown hK hP 0 rfl rfl 5 (by decide) (hts _ (List.mem_cons_of_mem _ mf_X4_192)) (fun _ h => h) rfl d kk
theorem mo_p5 (hx : p.tables.exec = Jvm.exec) (hb : c.code = cc) (hts : ∀ w ∈ c0 :: W0, w.before args s = true) (hown : s.vm.findClass RX4 = some m.cls) (hK : va_K D vwCl [(cI, .int)] s) (hP : va_P D vwCl (moW cI o a μ hh) H) (hD : moD o a) (hS : va_S (moA o a) H0 H locs) {x : Int32} (d : decode cc pc = .ok (.putfield 192, 3)) (kk : ∀ (H1 : Heap) (locs1 : List Loc), va_P D vwCl (moW cI o a (shS μ 5 x) hh) H1 → va_S (moA o a) H0 H1 locs1 → W p l e R s m args below meth c H1 locs1 cells slots Q (F0 m (pc + 3) ls rest)) : W p l e R s m args below meth c H locs cells slots Q (F0 m pc ls (.int x :: .ref o :: rest)) :=
  va_put (ci := 4) (C := RX4) (T := TX4) (N := 11) (v := .int x) (ty := .int) hx hb hts (fun w h => List.mem_cons_of_mem _ (inX4 w h)) tyX4 tyX4_ok nmX4 hown hK hP (moD_of hD) hS 0 rfl rfl 5 (by decide) (hts _ (List.mem_cons_of_mem _ mf_X4_192)) (fun _ h => h) rfl (by decide +kernel) rfl rfl (Nat.le_of_ble_eq_true rfl) d (fun H1 locs1 h1 _ h3 => kk H1 locs1 h1 h3)
theorem mo_g6 (hx : p.tables.exec = Jvm.exec) (hb : c.code = cc) (hts : ∀ w ∈ c0 :: W0, w.before args s = true) (hown : s.vm.findClass RX4 = some m.cls) (hK : va_K D vwCl [(cI, .int)] s) (hP : va_P D vwCl (moW cI o a μ hh) H) {v : Int32} (hv : μ 6 0 = v) (d : decode cc pc = .ok (.getfield 195, 3)) (kk : W p l e R s m args below meth c H locs cells slots Q (F0 m (pc + 3) ls (.int v :: rest))) : W p l e R s m args below meth c H locs cells slots Q (F0 m pc ls (.ref o :: rest)) := by
  subst hv
  exact va_get (ci := 4) (C := RX4) (T := TX4) (N := 11) (v := .int (μ 6 0)) hx hb hts (fun w h => List.mem_cons_of_mem _ (inX4 w h)) hown hK hP 0 rfl rfl 6 (by decide) (hts _ (List.mem_cons_of_mem _ mf_X4_195)) (fun _ h => h) rfl d kk
theorem mo_p6 (hx : p.tables.exec = Jvm.exec) (hb : c.code = cc) (hts : ∀ w ∈ c0 :: W0, w.before args s = true) (hown : s.vm.findClass RX4 = some m.cls) (hK : va_K D vwCl [(cI, .int)] s) (hP : va_P D vwCl (moW cI o a μ hh) H) (hD : moD o a) (hS : va_S (moA o a) H0 H locs) {x : Int32} (d : decode cc pc = .ok (.putfield 195, 3)) (kk : ∀ (H1 : Heap) (locs1 : List Loc), va_P D vwCl (moW cI o a (shS μ 6 x) hh) H1 → va_S (moA o a) H0 H1 locs1 → W p l e R s m args below meth c H1 locs1 cells slots Q (F0 m (pc + 3) ls rest)) : W p l e R s m args below meth c H locs cells slots Q (F0 m pc ls (.int x :: .ref o :: rest)) :=
  va_put (ci := 4) (C := RX4) (T := TX4) (N := 11) (v := .int x) (ty := .int) hx hb hts (fun w h => List.mem_cons_of_mem _ (inX4 w h)) tyX4 tyX4_ok nmX4 hown hK hP (moD_of hD) hS 0 rfl rfl 6 (by decide) (hts _ (List.mem_cons_of_mem _ mf_X4_195)) (fun _ h => h) rfl (by decide +kernel) rfl rfl (Nat.le_of_ble_eq_true rfl) d (fun H1 locs1 h1 _ h3 => kk H1 locs1 h1 h3)
theorem mo_g7 (hx : p.tables.exec = Jvm.exec) (hb : c.code = cc) (hts : ∀ w ∈ c0 :: W0, w.before args s = true) (hown : s.vm.findClass RX4 = some m.cls) (hK : va_K D vwCl [(cI, .int)] s) (hP : va_P D vwCl (moW cI o a μ hh) H) {v : Int32} (hv : μ 7 0 = v) (d : decode cc pc = .ok (.getfield 202, 3)) (kk : W p l e R s m args below meth c H locs cells slots Q (F0 m (pc + 3) ls (.int v :: rest))) : W p l e R s m args below meth c H locs cells slots Q (F0 m pc ls (.ref o :: rest)) := by
  subst hv
  exact va_get (ci := 4) (C := RX4) (T := TX4) (N := 11) (v := .int (μ 7 0)) hx hb hts (fun w h => List.mem_cons_of_mem _ (inX4 w h)) hown hK hP 0 rfl rfl 7 (by decide) (hts _ (List.mem_cons_of_mem _ mf_X4_202)) (fun _ h => h) rfl d kk
theorem mo_p7 (hx : p.tables.exec = Jvm.exec) (hb : c.code = cc) (hts : ∀ w ∈ c0 :: W0, w.before args s = true) (hown : s.vm.findClass RX4 = some m.cls) (hK : va_K D vwCl [(cI, .int)] s) (hP : va_P D vwCl (moW cI o a μ hh) H) (hD : moD o a) (hS : va_S (moA o a) H0 H locs) {x : Int32} (d : decode cc pc = .ok (.putfield 202, 3)) (kk : ∀ (H1 : Heap) (locs1 : List Loc), va_P D vwCl (moW cI o a (shS μ 7 x) hh) H1 → va_S (moA o a) H0 H1 locs1 → W p l e R s m args below meth c H1 locs1 cells slots Q (F0 m (pc + 3) ls rest)) : W p l e R s m args below meth c H locs cells slots Q (F0 m pc ls (.int x :: .ref o :: rest)) :=
  va_put (ci := 4) (C := RX4) (T := TX4) (N := 11) (v := .int x) (ty := .int) hx hb hts (fun w h => List.mem_cons_of_mem _ (inX4 w h)) tyX4 tyX4_ok nmX4 hown hK hP (moD_of hD) hS 0 rfl rfl 7 (by decide) (hts _ (List.mem_cons_of_mem _ mf_X4_202)) (fun _ h => h) rfl (by decide +kernel) rfl rfl (Nat.le_of_ble_eq_true rfl) d (fun H1 locs1 h1 _ h3 => kk H1 locs1 h1 h3)
theorem mo_g8 (hx : p.tables.exec = Jvm.exec) (hb : c.code = cc) (hts : ∀ w ∈ c0 :: W0, w.before args s = true) (hown : s.vm.findClass RX4 = some m.cls) (hK : va_K D vwCl [(cI, .int)] s) (hP : va_P D vwCl (moW cI o a μ hh) H) {v : Int32} (hv : μ 8 0 = v) (d : decode cc pc = .ok (.getfield 226, 3)) (kk : W p l e R s m args below meth c H locs cells slots Q (F0 m (pc + 3) ls (.int v :: rest))) : W p l e R s m args below meth c H locs cells slots Q (F0 m pc ls (.ref o :: rest)) := by
  subst hv
  exact va_get (ci := 4) (C := RX4) (T := TX4) (N := 11) (v := .int (μ 8 0)) hx hb hts (fun w h => List.mem_cons_of_mem _ (inX4 w h)) hown hK hP 0 rfl rfl 8 (by decide) (hts _ (List.mem_cons_of_mem _ mf_X4_226)) (fun _ h => h) rfl d kk
theorem mo_p8 (hx : p.tables.exec = Jvm.exec) (hb : c.code = cc) (hts : ∀ w ∈ c0 :: W0, w.before args s = true) (hown : s.vm.findClass RX4 = some m.cls) (hK : va_K D vwCl [(cI, .int)] s) (hP : va_P D vwCl (moW cI o a μ hh) H) (hD : moD o a) (hS : va_S (moA o a) H0 H locs) {x : Int32} (d : decode cc pc = .ok (.putfield 226, 3)) (kk : ∀ (H1 : Heap) (locs1 : List Loc), va_P D vwCl (moW cI o a (shS μ 8 x) hh) H1 → va_S (moA o a) H0 H1 locs1 → W p l e R s m args below meth c H1 locs1 cells slots Q (F0 m (pc + 3) ls rest)) : W p l e R s m args below meth c H locs cells slots Q (F0 m pc ls (.int x :: .ref o :: rest)) :=
  va_put (ci := 4) (C := RX4) (T := TX4) (N := 11) (v := .int x) (ty := .int) hx hb hts (fun w h => List.mem_cons_of_mem _ (inX4 w h)) tyX4 tyX4_ok nmX4 hown hK hP (moD_of hD) hS 0 rfl rfl 8 (by decide) (hts _ (List.mem_cons_of_mem _ mf_X4_226)) (fun _ h => h) rfl (by decide +kernel) rfl rfl (Nat.le_of_ble_eq_true rfl) d (fun H1 locs1 h1 _ h3 => kk H1 locs1 h1 h3)
theorem mo_g9 (hx : p.tables.exec = Jvm.exec) (hb : c.code = cc) (hts : ∀ w ∈ c0 :: W0, w.before args s = true) (hown : s.vm.findClass RX4 = some m.cls) (hK : va_K D vwCl [(cI, .int)] s) (hP : va_P D vwCl (moW cI o a μ hh) H) {v : Int32} (hv : μ 9 0 = v) (d : decode cc pc = .ok (.getfield 219, 3)) (kk : W p l e R s m args below meth c H locs cells slots Q (F0 m (pc + 3) ls (.int v :: rest))) : W p l e R s m args below meth c H locs cells slots Q (F0 m pc ls (.ref o :: rest)) := by
  subst hv
  exact va_get (ci := 4) (C := RX4) (T := TX4) (N := 11) (v := .int (μ 9 0)) hx hb hts (fun w h => List.mem_cons_of_mem _ (inX4 w h)) hown hK hP 0 rfl rfl 9 (by decide) (hts _ (List.mem_cons_of_mem _ mf_X4_219)) (fun _ h => h) rfl d kk
theorem mo_p9 (hx : p.tables.exec = Jvm.exec) (hb : c.code = cc) (hts : ∀ w ∈ c0 :: W0, w.before args s = true) (hown : s.vm.findClass RX4 = some m.cls) (hK : va_K D vwCl [(cI, .int)] s) (hP : va_P D vwCl (moW cI o a μ hh) H) (hD : moD o a) (hS : va_S (moA o a) H0 H locs) {x : Int32} (hz : x = 0 ∨ x = 1) (d : decode cc pc = .ok (.putfield 219, 3)) (kk : ∀ (H1 : Heap) (locs1 : List Loc), va_P D vwCl (moW cI o a (shS μ 9 x) hh) H1 → va_S (moA o a) H0 H1 locs1 → W p l e R s m args below meth c H1 locs1 cells slots Q (F0 m (pc + 3) ls rest)) : W p l e R s m args below meth c H locs cells slots Q (F0 m pc ls (.int x :: .ref o :: rest)) :=
  va_put (ci := 4) (C := RX4) (T := TX4) (N := 11) (v := .int x) (ty := .boolean) hx hb hts (fun w h => List.mem_cons_of_mem _ (inX4 w h)) tyX4 tyX4_ok nmX4 hown hK hP (moD_of hD) hS 0 rfl rfl 9 (by decide) (hts _ (List.mem_cons_of_mem _ mf_X4_219)) (fun _ h => h) rfl (by decide +kernel) (nar_z hz) (by rcases hz with rfl | rfl <;> decide) (Nat.le_of_ble_eq_true rfl) d (fun H1 locs1 h1 _ h3 => kk H1 locs1 h1 h3)
theorem mo_g10 (hx : p.tables.exec = Jvm.exec) (hb : c.code = cc) (hts : ∀ w ∈ c0 :: W0, w.before args s = true) (hown : s.vm.findClass RX4 = some m.cls) (hK : va_K D vwCl [(cI, .int)] s) (hP : va_P D vwCl (moW cI o a μ hh) H) {v : Int64} (hv : hh = v) (d : decode cc pc = .ok (.getfield 238, 3)) (kk : W p l e R s m args below meth c H locs cells slots Q (F0 m (pc + 3) ls (.long v :: rest))) : W p l e R s m args below meth c H locs cells slots Q (F0 m pc ls (.ref o :: rest)) := by
  subst hv
  exact va_get (ci := 4) (C := RX4) (T := TX4) (N := 11) (v := .long hh) hx hb hts (fun w h => List.mem_cons_of_mem _ (inX4 w h)) hown hK hP 0 rfl rfl 10 (by decide) (hts _ (List.mem_cons_of_mem _ mf_X4_238)) (fun _ h => h) rfl d kk
theorem mo_p10 (hx : p.tables.exec = Jvm.exec) (hb : c.code = cc) (hts : ∀ w ∈ c0 :: W0, w.before args s = true) (hown : s.vm.findClass RX4 = some m.cls) (hK : va_K D vwCl [(cI, .int)] s) (hP : va_P D vwCl (moW cI o a μ hh) H) (hD : moD o a) (hS : va_S (moA o a) H0 H locs) {x : Int64} (d : decode cc pc = .ok (.putfield 238, 3)) (kk : ∀ (H1 : Heap) (locs1 : List Loc), va_P D vwCl (moW cI o a μ x) H1 → va_S (moA o a) H0 H1 locs1 → W p l e R s m args below meth c H1 locs1 cells slots Q (F0 m (pc + 3) ls rest)) : W p l e R s m args below meth c H locs cells slots Q (F0 m pc ls (.long x :: .ref o :: rest)) :=
  va_put (ci := 4) (C := RX4) (T := TX4) (N := 11) (v := .long x) (ty := .long) hx hb hts (fun w h => List.mem_cons_of_mem _ (inX4 w h)) tyX4 tyX4_ok nmX4 hown hK hP (moD_of hD) hS 0 rfl rfl 10 (by decide) (hts _ (List.mem_cons_of_mem _ mf_X4_238)) (fun _ h => h) rfl (by decide +kernel) rfl rfl (Nat.le_of_ble_eq_true rfl) d (fun H1 locs1 h1 _ h3 => kk H1 locs1 h1 h3)
end MO
/-! ===== world tx: an object of BookRental$OrderText and its rows ===== -/
def txW (cI : ClassId) (o : Nat) (a : Nat → Nat) (τ : Nat → Nat → Int32) : va_W :=
  [(o, .inr (1, [.ref (a 0), .int (τ 1 0), .int (τ 2 0), .int (τ 3 0), .int (τ 4 0), .int (τ 5 0), .int (τ 6 0)])), (a 0, .inl (cI, 100, .inl (τ 0)))]
def txA (o : Nat) (a : Nat → Nat) : Nat → Prop := fun q => q = o ∨ q = a 0
def txD (o : Nat) (a : Nat → Nat) : Prop := va_D (fun _ => True) (txW 0 o a (fun _ _ => 0))
theorem txD_of {cI : ClassId} {o : Nat} {a : Nat → Nat} {τ : Nat → Nat → Int32} (h : txD o a) : va_D (txA o a) (txW cI o a τ) := by
  have h1 : va_D (fun _ => True) (txW cI o a τ) := va_D_fst (ws := txW 0 o a (fun _ _ => 0)) rfl h
  refine ⟨h1.1, fun k q hq => ?_⟩
  match k, hq with
  | 0, hq => cases hq; exact Or.inl rfl
  | 1, hq => cases hq; exact Or.inr (rfl)
  | k + 2, hq => cases hq
def txP (D : va_G) (cI : ClassId) (o : Nat) (a : Nat → Nat) (τ : Nat → Nat → Int32) (U : State) : Prop := va_P D vwCl (txW cI o a τ) U.heap ∧ va_K D vwCl [(cI, .int)] U
def txM (D : va_G) (cI : ClassId) (o : Nat) (a : Nat → Nat) (τ : Nat → Nat → Int32) (U : State) : Prop := txP D cI o a τ U ∧ txD o a
theorem tx_blind {av : List Value} {D : va_G} {cI : ClassId} {o : Nat} {a : Nat → Nat} {τ : Nat → Nat → Int32} : FrameBlind (va_Pc av (txP D cI o a τ)) := fun b U g mk q => ⟨q.1, q.2.1, va_K.moved (u := U) (U := U.calling g mk b) (Vm.Alike.refl U.vm) q.2.2⟩
theorem tx_blindM {av : List Value} {D : va_G} {cI : ClassId} {o : Nat} {a : Nat → Nat} {τ : Nat → Nat → Int32} : FrameBlind (va_Pc av (txM D cI o a τ)) := fun b U g mk q => ⟨q.1, ⟨q.2.1.1, va_K.moved (u := U) (U := U.calling g mk b) (Vm.Alike.refl U.vm) q.2.1.2⟩, q.2.2⟩
/-- the end of a contract that changes the world: an int, or nothing, and the new state -/
def txQ (D : va_G) (cI : ClassId) (o : Nat) (a : Nat → Nat) (w : Int32 × (Nat → Nat → Int32)) : Array Value → State → Outcome → State → Prop := fun _ st oc t => oc = .returned (some (.int w.1)) ∧ txP D cI o a w.2 t ∧ va_F (txA o a) st t
def txV (D : va_G) (cI : ClassId) (o : Nat) (a : Nat → Nat) (w : Nat → Nat → Int32) : Array Value → State → Outcome → State → Prop := fun _ st oc t => oc = .returned none ∧ txP D cI o a w t ∧ va_F (txA o a) st t
section TX
variable {p : Program} {l : Launch} {e : Env} {R : Room} {s : State} {m : MethodId} {args : Array Value} {below : List Frame} {meth : Method} {c : Code} {H : Heap} {locs : List Loc} {cells slots : Nat} {Q : State → Prop} {cc : ByteArray} {maxL nL : Nat} {ret : Option FieldType} {own : String} {c0 : Cond} {pc : Nat} {ls : Array Slot} {rest st0 : List Value} {A0 : Nat → Prop} {H0 : Heap} {free : Addr → Prop} {D : va_G} {cI : ClassId} {o : Nat} {a : Nat → Nat} {τ : Nat → Nat → Int32}
/-- a call on the same object that changes nothing -/
theorem tx_call {y : MethodName} {bytes : ByteArray} {mL n index : Nat} {rt : Option FieldType} {ws : List Cond} {rm : Room} {As : List Value} {v : Int32} (hx : p.tables.exec = Jvm.exec) (hb : c.code = cc) (hml : c.maxLocals = nL) (hown : s.vm.findClass own = some m.cls) (hts : ∀ w ∈ c0 :: W0, w.before args s = true) (hK : va_K D vwCl [(cI, .int)] s) (hP : va_P D vwCl (txW cI o a τ) H)
    (hM : Met l y ws rm (va_Pc (.ref o :: As) (txP D cI o a τ)) (vp_Si (fun r => r = v)) 0 0 (fun _ => False)) (cw : CallW R s args own RX1 index y bytes mL rt ws rm 0 0 n)
    (hn : As.length = n) (hsize : ls.size = nL) (hst : st0 = As.reverse ++ .ref o :: rest) (hW : (rest.map fun v => v.category).sum ≤ 8) (d : decode cc pc = .ok (.invokevirtual index, 3)) (hc : cells ≤ R.cells) (hs : slots ≤ R.slots)
    (kk : W p l e R s m args below meth c H locs cells slots Q (F0 m (pc + 3) ls (.int v :: rest))) : W p l e R s m args below meth c H locs cells slots Q (F0 m pc ls st0) :=
  cl_Si (va_runV (As := As) (rest := rest) ⟨hx, hb, hml, hown, hts⟩ hM cw ⟨tx_blind, va_recv (ci := 1) (q0 := 0) hK hP rfl rfl, fun U hU hW => ⟨rfl, by rw [hU]; exact hP, va_K.moved hW.alike hK⟩⟩ rfl hn hsize hst (lv_room hW) d ⟨hc, hs⟩) kk
/-- a call on the same object that changes it, and answers an int -/
theorem tx_callM {y : MethodName} {bytes : ByteArray} {mL n index : Nat} {rt : Option FieldType} {ws : List Cond} {rm : Room} {As : List Value} {w : Int32 × (Nat → Nat → Int32)} (hx : p.tables.exec = Jvm.exec) (hb : c.code = cc) (hml : c.maxLocals = nL) (hown : s.vm.findClass own = some m.cls) (hts : ∀ w ∈ c0 :: W0, w.before args s = true) (hK : va_K D vwCl [(cI, .int)] s) (hP : va_P D vwCl (txW cI o a τ) H) (hD : txD o a) (hS : va_S (txA o a) H0 H locs)
    (hM : Met l y ws rm (va_Pc (.ref o :: As) (txM D cI o a τ)) (txQ D cI o a w) 0 0 (txA o a)) (cw : CallW R s args own RX1 index y bytes mL rt ws rm 0 0 n)
    (hn : As.length = n) (hsize : ls.size = nL) (hst : st0 = As.reverse ++ .ref o :: rest) (hW : (rest.map fun v => v.category).sum ≤ 8) (d : decode cc pc = .ok (.invokevirtual index, 3)) (hc : cells ≤ R.cells) (hs : slots ≤ R.slots)
    (kk : ∀ (H1 : Heap) (locs1 : List Loc), va_P D vwCl (txW cI o a w.2) H1 → va_S (txA o a) H0 H1 locs1 → W p l e R s m args below meth c H1 locs1 cells slots Q (F0 m (pc + 3) ls (.int w.1 :: rest))) : W p l e R s m args below meth c H locs cells slots Q (F0 m pc ls st0) := by
  have hr := va_runV (As := As) (rest := rest) (locs := locs) (slots := slots) (below := below) (meth := meth) (p := p) (e := e) ⟨hx, hb, hml, hown, hts⟩ hM cw ⟨tx_blindM, va_recv (ci := 1) (q0 := 0) hK hP rfl rfl, fun U hU hW => ⟨rfl, ⟨by rw [hU]; exact hP, va_K.moved hW.alike hK⟩, hD⟩⟩ (g := F0 m pc ls st0) rfl hn hsize hst (lv_room hW) d ⟨hc, hs⟩
  intro T hT X
  obtain ⟨v1, st₀, t, T', L, h0, X', hL, e1, e2, ⟨hv, hp, hF⟩, st⟩ := hr T hT X
  cases hv
  obtain ⟨t2, a1, b1⟩ := kk T'.heap (locs ++ L) (by rw [e1]; exact hp.1) ⟨Nat.le_trans hS.1 (by rw [e1, ← h0]; exact hF.1), fun q h1 h2 => by rw [e1, hF.2 q (by rw [h0]; exact Nat.lt_of_lt_of_le h1 hS.1) h2, h0]; exact hS.2.1 q h1 h2, fun q hq => by
      rcases List.mem_append.mp hq with h | h
      · exact hS.2.2 q h
      · exact hL q h⟩ T' rfl X'
  exact ⟨t2, st t2 a1, b1⟩
theorem tx_callV {y : MethodName} {bytes : ByteArray} {mL n index : Nat} {rt : Option FieldType} {ws : List Cond} {rm : Room} {As : List Value} {w : Nat → Nat → Int32} (hx : p.tables.exec = Jvm.exec) (hb : c.code = cc) (hml : c.maxLocals = nL) (hown : s.vm.findClass own = some m.cls) (hts : ∀ w ∈ c0 :: W0, w.before args s = true) (hK : va_K D vwCl [(cI, .int)] s) (hP : va_P D vwCl (txW cI o a τ) H) (hD : txD o a) (hS : va_S (txA o a) H0 H locs)
    (hM : Met l y ws rm (va_Pc (.ref o :: As) (txM D cI o a τ)) (txV D cI o a w) 0 0 (txA o a)) (cw : CallW R s args own RX1 index y bytes mL rt ws rm 0 0 n)
    (hn : As.length = n) (hsize : ls.size = nL) (hst : st0 = As.reverse ++ .ref o :: rest) (hW : (rest.map fun v => v.category).sum ≤ 8) (d : decode cc pc = .ok (.invokevirtual index, 3)) (hc : cells ≤ R.cells) (hs : slots ≤ R.slots)
    (kk : ∀ (H1 : Heap) (locs1 : List Loc), va_P D vwCl (txW cI o a w) H1 → va_S (txA o a) H0 H1 locs1 → W p l e R s m args below meth c H1 locs1 cells slots Q (F0 m (pc + 3) ls rest)) : W p l e R s m args below meth c H locs cells slots Q (F0 m pc ls st0) := by
  have hr := va_runV (As := As) (rest := rest) (locs := locs) (slots := slots) (below := below) (meth := meth) (p := p) (e := e) ⟨hx, hb, hml, hown, hts⟩ hM cw ⟨tx_blindM, va_recv (ci := 1) (q0 := 0) hK hP rfl rfl, fun U hU hW => ⟨rfl, ⟨by rw [hU]; exact hP, va_K.moved hW.alike hK⟩, hD⟩⟩ (g := F0 m pc ls st0) rfl hn hsize hst (lv_room hW) d ⟨hc, hs⟩
  intro T hT X
  obtain ⟨v1, st₀, t, T', L, h0, X', hL, e1, e2, ⟨hv, hp, hF⟩, st⟩ := hr T hT X
  cases hv
  obtain ⟨t2, a1, b1⟩ := kk T'.heap (locs ++ L) (by rw [e1]; exact hp.1) ⟨Nat.le_trans hS.1 (by rw [e1, ← h0]; exact hF.1), fun q h1 h2 => by rw [e1, hF.2 q (by rw [h0]; exact Nat.lt_of_lt_of_le h1 hS.1) h2, h0]; exact hS.2.1 q h1 h2, fun q hq => by
      rcases List.mem_append.mp hq with h | h
      · exact hS.2.2 q h
      · exact hL q h⟩ T' rfl X'
  exact ⟨t2, st t2 a1, b1⟩
theorem tx_finM {w : Int32 × (Nat → Nat → Int32)} {v : Int32} (hx : p.tables.exec = Jvm.exec) (hb : c.code = cc) (hr : meth.sig.returnType = some .int) (hlk : meth.locks = false) (hK : va_K D vwCl [(cI, .int)] s) (hP : va_P D vwCl (txW cI o a τ) H) (hS : va_S (txA o a) s.heap H locs) (h : (v, τ) = w) (d : decode cc pc = .ok (.ireturn, 1)) :
    W p l e R s m args below meth c H locs 0 0 (MQ below (txQ D cI o a w) args s 0 0 (txA o a)) (F0 m pc ls [.int v]) := by
  subst h
  exact W.iret hx hb hr (fun t ht hW => ⟨rfl, ⟨by rw [ht]; exact hP, va_K.moved hW.alike hK⟩, hS.F ht⟩) hS.2.2 d hlk
theorem tx_finMz {w : Int32 × (Nat → Nat → Int32)} {v : Int32} (hx : p.tables.exec = Jvm.exec) (hb : c.code = cc) (hr : meth.sig.returnType = some .boolean) (hlk : meth.locks = false) (hK : va_K D vwCl [(cI, .int)] s) (hP : va_P D vwCl (txW cI o a τ) H) (hS : va_S (txA o a) s.heap H locs) (hz : v = 0 ∨ v = 1) (h : (v, τ) = w) (d : decode cc pc = .ok (.ireturn, 1)) :
    W p l e R s m args below meth c H locs 0 0 (MQ below (txQ D cI o a w) args s 0 0 (txA o a)) (F0 m pc ls [.int v]) := by
  subst h
  exact W.zret hx hb hr (nar_z hz) (fun t ht hW => ⟨rfl, ⟨by rw [ht]; exact hP, va_K.moved hW.alike hK⟩, hS.F ht⟩) hS.2.2 d hlk
theorem tx_finV {w : Nat → Nat → Int32} (hx : p.tables.exec = Jvm.exec) (hb : c.code = cc) (hr : meth.sig.returnType = none) (hlk : meth.locks = false) (hK : va_K D vwCl [(cI, .int)] s) (hP : va_P D vwCl (txW cI o a τ) H) (hS : va_S (txA o a) s.heap H locs) (h : τ = w) (d : decode cc pc = .ok (.return_, 1)) :
    W p l e R s m args below meth c H locs 0 0 (MQ below (txV D cI o a w) args s 0 0 (txA o a)) (F0 m pc ls []) := by
  subst h
  exact W.vret hx hb hr (fun t ht hW => ⟨rfl, ⟨by rw [ht]; exact hP, va_K.moved hW.alike hK⟩, hS.F ht⟩) hS.2.2 d hlk
theorem tx_g0 (hx : p.tables.exec = Jvm.exec) (hb : c.code = cc) (hts : ∀ w ∈ c0 :: W0, w.before args s = true) (hown : s.vm.findClass RX1 = some m.cls) (hK : va_K D vwCl [(cI, .int)] s) (hP : va_P D vwCl (txW cI o a τ) H) (d : decode cc pc = .ok (.getfield 11, 3)) (kk : W p l e R s m args below meth c H locs cells slots Q (F0 m (pc + 3) ls (.ref (a 0) :: rest))) : W p l e R s m args below meth c H locs cells slots Q (F0 m pc ls (.ref o :: rest)) :=
  va_get (ci := 1) (C := RX1) (T := TX1) (N := 7) (v := .ref (a 0)) hx hb hts (fun w h => List.mem_cons_of_mem _ (inX1 w h)) hown hK hP 0 rfl rfl 0 (by decide) (hts _ (List.mem_cons_of_mem _ mf_X1_11)) (fun _ h => h) rfl d kk
theorem tx_r0 (hx : p.tables.exec = Jvm.exec) (hb : c.code = cc) (hK : va_K D vwCl [(cI, .int)] s) (hP : va_P D vwCl (txW cI o a τ) H) {i : Int32} (j : Nat) (hi : i = nI j) (hj : j < 100) {v : Int32} (hv : τ 0 j = v) (d : decode cc pc = .ok (.iaload, 1)) (kk : W p l e R s m args below meth c H locs cells slots Q (F0 m (pc + 1) ls (.int v :: rest))) : W p l e R s m args below meth c H locs cells slots Q (F0 m pc ls (.int i :: .ref (a 0) :: rest)) := by
  subst hi; subst hv
  exact va_iald (n := 100) (f := τ 0) hx hb hK hP 1 0 rfl rfl (vp_in_nI hj (by decide)) d (by rw [nI_clamp (Nat.lt_trans hj (by decide))]; exact kk)
theorem tx_w0 (hx : p.tables.exec = Jvm.exec) (hb : c.code = cc) (hK : va_K D vwCl [(cI, .int)] s) (hP : va_P D vwCl (txW cI o a τ) H) (hD : txD o a) (hS : va_S (txA o a) H0 H locs) {i x : Int32} (j : Nat) (hi : i = nI j) (hj : j < 100) (d : decode cc pc = .ok (.iastore, 1)) (kk : ∀ (H1 : Heap) (locs1 : List Loc), va_P D vwCl (txW cI o a (shU τ 0 j x)) H1 → va_S (txA o a) H0 H1 locs1 → W p l e R s m args below meth c H1 locs1 cells slots Q (F0 m (pc + 1) ls rest)) : W p l e R s m args below meth c H locs cells slots Q (F0 m pc ls (.int x :: .int i :: .ref (a 0) :: rest)) := by
  subst hi
  refine va_iast (n := 100) (f := τ 0) hx hb hK hP (txD_of hD) hS 1 0 rfl rfl (vp_in_nI hj (by decide)) d (fun H1 locs1 h1 _ h3 => kk H1 locs1 ?_ h3)
  rw [nI_clamp (Nat.lt_trans hj (by decide))] at h1
  exact h1
theorem tx_g1 (hx : p.tables.exec = Jvm.exec) (hb : c.code = cc) (hts : ∀ w ∈ c0 :: W0, w.before args s = true) (hown : s.vm.findClass RX1 = some m.cls) (hK : va_K D vwCl [(cI, .int)] s) (hP : va_P D vwCl (txW cI o a τ) H) {v : Int32} (hv : τ 1 0 = v) (d : decode cc pc = .ok (.getfield 15, 3)) (kk : W p l e R s m args below meth c H locs cells slots Q (F0 m (pc + 3) ls (.int v :: rest))) : W p l e R s m args below meth c H locs cells slots Q (F0 m pc ls (.ref o :: rest)) := by
  subst hv
  exact va_get (ci := 1) (C := RX1) (T := TX1) (N := 7) (v := .int (τ 1 0)) hx hb hts (fun w h => List.mem_cons_of_mem _ (inX1 w h)) hown hK hP 0 rfl rfl 1 (by decide) (hts _ (List.mem_cons_of_mem _ mf_X1_15)) (fun _ h => h) rfl d kk
theorem tx_p1 (hx : p.tables.exec = Jvm.exec) (hb : c.code = cc) (hts : ∀ w ∈ c0 :: W0, w.before args s = true) (hown : s.vm.findClass RX1 = some m.cls) (hK : va_K D vwCl [(cI, .int)] s) (hP : va_P D vwCl (txW cI o a τ) H) (hD : txD o a) (hS : va_S (txA o a) H0 H locs) {x : Int32} (d : decode cc pc = .ok (.putfield 15, 3)) (kk : ∀ (H1 : Heap) (locs1 : List Loc), va_P D vwCl (txW cI o a (shS τ 1 x)) H1 → va_S (txA o a) H0 H1 locs1 → W p l e R s m args below meth c H1 locs1 cells slots Q (F0 m (pc + 3) ls rest)) : W p l e R s m args below meth c H locs cells slots Q (F0 m pc ls (.int x :: .ref o :: rest)) :=
  va_put (ci := 1) (C := RX1) (T := TX1) (N := 7) (v := .int x) (ty := .int) hx hb hts (fun w h => List.mem_cons_of_mem _ (inX1 w h)) tyX1 tyX1_ok nmX1 hown hK hP (txD_of hD) hS 0 rfl rfl 1 (by decide) (hts _ (List.mem_cons_of_mem _ mf_X1_15)) (fun _ h => h) rfl (by decide +kernel) rfl rfl (Nat.le_of_ble_eq_true rfl) d (fun H1 locs1 h1 _ h3 => kk H1 locs1 h1 h3)
theorem tx_g2 (hx : p.tables.exec = Jvm.exec) (hb : c.code = cc) (hts : ∀ w ∈ c0 :: W0, w.before args s = true) (hown : s.vm.findClass RX1 = some m.cls) (hK : va_K D vwCl [(cI, .int)] s) (hP : va_P D vwCl (txW cI o a τ) H) {v : Int32} (hv : τ 2 0 = v) (d : decode cc pc = .ok (.getfield 19, 3)) (kk : W p l e R s m args below meth c H locs cells slots Q (F0 m (pc + 3) ls (.int v :: rest))) : W p l e R s m args below meth c H locs cells slots Q (F0 m pc ls (.ref o :: rest)) := by
  subst hv
  exact va_get (ci := 1) (C := RX1) (T := TX1) (N := 7) (v := .int (τ 2 0)) hx hb hts (fun w h => List.mem_cons_of_mem _ (inX1 w h)) hown hK hP 0 rfl rfl 2 (by decide) (hts _ (List.mem_cons_of_mem _ mf_X1_19)) (fun _ h => h) rfl d kk
theorem tx_p2 (hx : p.tables.exec = Jvm.exec) (hb : c.code = cc) (hts : ∀ w ∈ c0 :: W0, w.before args s = true) (hown : s.vm.findClass RX1 = some m.cls) (hK : va_K D vwCl [(cI, .int)] s) (hP : va_P D vwCl (txW cI o a τ) H) (hD : txD o a) (hS : va_S (txA o a) H0 H locs) {x : Int32} (d : decode cc pc = .ok (.putfield 19, 3)) (kk : ∀ (H1 : Heap) (locs1 : List Loc), va_P D vwCl (txW cI o a (shS τ 2 x)) H1 → va_S (txA o a) H0 H1 locs1 → W p l e R s m args below meth c H1 locs1 cells slots Q (F0 m (pc + 3) ls rest)) : W p l e R s m args below meth c H locs cells slots Q (F0 m pc ls (.int x :: .ref o :: rest)) :=
  va_put (ci := 1) (C := RX1) (T := TX1) (N := 7) (v := .int x) (ty := .int) hx hb hts (fun w h => List.mem_cons_of_mem _ (inX1 w h)) tyX1 tyX1_ok nmX1 hown hK hP (txD_of hD) hS 0 rfl rfl 2 (by decide) (hts _ (List.mem_cons_of_mem _ mf_X1_19)) (fun _ h => h) rfl (by decide +kernel) rfl rfl (Nat.le_of_ble_eq_true rfl) d (fun H1 locs1 h1 _ h3 => kk H1 locs1 h1 h3)
theorem tx_g3 (hx : p.tables.exec = Jvm.exec) (hb : c.code = cc) (hts : ∀ w ∈ c0 :: W0, w.before args s = true) (hown : s.vm.findClass RX1 = some m.cls) (hK : va_K D vwCl [(cI, .int)] s) (hP : va_P D vwCl (txW cI o a τ) H) {v : Int32} (hv : τ 3 0 = v) (d : decode cc pc = .ok (.getfield 22, 3)) (kk : W p l e R s m args below meth c H locs cells slots Q (F0 m (pc + 3) ls (.int v :: rest))) : W p l e R s m args below meth c H locs cells slots Q (F0 m pc ls (.ref o :: rest)) := by
  subst hv
  exact va_get (ci := 1) (C := RX1) (T := TX1) (N := 7) (v := .int (τ 3 0)) hx hb hts (fun w h => List.mem_cons_of_mem _ (inX1 w h)) hown hK hP 0 rfl rfl 3 (by decide) (hts _ (List.mem_cons_of_mem _ mf_X1_22)) (fun _ h => h) rfl d kk
theorem tx_p3 (hx : p.tables.exec = Jvm.exec) (hb : c.code = cc) (hts : ∀ w ∈ c0 :: W0, w.before args s = true) (hown : s.vm.findClass RX1 = some m.cls) (hK : va_K D vwCl [(cI, .int)] s) (hP : va_P D vwCl (txW cI o a τ) H) (hD : txD o a) (hS : va_S (txA o a) H0 H locs) {x : Int32} (hz : x = 0 ∨ x = 1) (d : decode cc pc = .ok (.putfield 22, 3)) (kk : ∀ (H1 : Heap) (locs1 : List Loc), va_P D vwCl (txW cI o a (shS τ 3 x)) H1 → va_S (txA o a) H0 H1 locs1 → W p l e R s m args below meth c H1 locs1 cells slots Q (F0 m (pc + 3) ls rest)) : W p l e R s m args below meth c H locs cells slots Q (F0 m pc ls (.int x :: .ref o :: rest)) :=
  va_put (ci := 1) (C := RX1) (T := TX1) (N := 7) (v := .int x) (ty := .boolean) hx hb hts (fun w h => List.mem_cons_of_mem _ (inX1 w h)) tyX1 tyX1_ok nmX1 hown hK hP (txD_of hD) hS 0 rfl rfl 3 (by decide) (hts _ (List.mem_cons_of_mem _ mf_X1_22)) (fun _ h => h) rfl (by decide +kernel) (nar_z hz) (by rcases hz with rfl | rfl <;> decide) (Nat.le_of_ble_eq_true rfl) d (fun H1 locs1 h1 _ h3 => kk H1 locs1 h1 h3)
theorem tx_g4 (hx : p.tables.exec = Jvm.exec) (hb : c.code = cc) (hts : ∀ w ∈ c0 :: W0, w.before args s = true) (hown : s.vm.findClass RX1 = some m.cls) (hK : va_K D vwCl [(cI, .int)] s) (hP : va_P D vwCl (txW cI o a τ) H) {v : Int32} (hv : τ 4 0 = v) (d : decode cc pc = .ok (.getfield 26, 3)) (kk : W p l e R s m args below meth c H locs cells slots Q (F0 m (pc + 3) ls (.int v :: rest))) : W p l e R s m args below meth c H locs cells slots Q (F0 m pc ls (.ref o :: rest)) := by
  subst hv
  exact va_get (ci := 1) (C := RX1) (T := TX1) (N := 7) (v := .int (τ 4 0)) hx hb hts (fun w h => List.mem_cons_of_mem _ (inX1 w h)) hown hK hP 0 rfl rfl 4 (by decide) (hts _ (List.mem_cons_of_mem _ mf_X1_26)) (fun _ h => h) rfl d kk
theorem tx_p4 (hx : p.tables.exec = Jvm.exec) (hb : c.code = cc) (hts : ∀ w ∈ c0 :: W0, w.before args s = true) (hown : s.vm.findClass RX1 = some m.cls) (hK : va_K D vwCl [(cI, .int)] s) (hP : va_P D vwCl (txW cI o a τ) H) (hD : txD o a) (hS : va_S (txA o a) H0 H locs) {x : Int32} (d : decode cc pc = .ok (.putfield 26, 3)) (kk : ∀ (H1 : Heap) (locs1 : List Loc), va_P D vwCl (txW cI o a (shS τ 4 x)) H1 → va_S (txA o a) H0 H1 locs1 → W p l e R s m args below meth c H1 locs1 cells slots Q (F0 m (pc + 3) ls rest)) : W p l e R s m args below meth c H locs cells slots Q (F0 m pc ls (.int x :: .ref o :: rest)) :=
  va_put (ci := 1) (C := RX1) (T := TX1) (N := 7) (v := .int x) (ty := .int) hx hb hts (fun w h => List.mem_cons_of_mem _ (inX1 w h)) tyX1 tyX1_ok nmX1 hown hK hP (txD_of hD) hS 0 rfl rfl 4 (by decide) (hts _ (List.mem_cons_of_mem _ mf_X1_26)) (fun _ h => h) rfl (by decide +kernel) rfl rfl (Nat.le_of_ble_eq_true rfl) d (fun H1 locs1 h1 _ h3 => kk H1 locs1 h1 h3)
theorem tx_g5 (hx : p.tables.exec = Jvm.exec) (hb : c.code = cc) (hts : ∀ w ∈ c0 :: W0, w.before args s = true) (hown : s.vm.findClass RX1 = some m.cls) (hK : va_K D vwCl [(cI, .int)] s) (hP : va_P D vwCl (txW cI o a τ) H) {v : Int32} (hv : τ 5 0 = v) (d : decode cc pc = .ok (.getfield 29, 3)) (kk : W p l e R s m args below meth c H locs cells slots Q (F0 m (pc + 3) ls (.int v :: rest))) : W p l e R s m args below meth c H locs cells slots Q (F0 m pc ls (.ref o :: rest)) := by
  subst hv
  exact va_get (ci := 1) (C := RX1) (T := TX1) (N := 7) (v := .int (τ 5 0)) hx hb hts (fun w h => List.mem_cons_of_mem _ (inX1 w h)) hown hK hP 0 rfl rfl 5 (by decide) (hts _ (List.mem_cons_of_mem _ mf_X1_29)) (fun _ h => h) rfl d kk
theorem tx_p5 (hx : p.tables.exec = Jvm.exec) (hb : c.code = cc) (hts : ∀ w ∈ c0 :: W0, w.before args s = true) (hown : s.vm.findClass RX1 = some m.cls) (hK : va_K D vwCl [(cI, .int)] s) (hP : va_P D vwCl (txW cI o a τ) H) (hD : txD o a) (hS : va_S (txA o a) H0 H locs) {x : Int32} (d : decode cc pc = .ok (.putfield 29, 3)) (kk : ∀ (H1 : Heap) (locs1 : List Loc), va_P D vwCl (txW cI o a (shS τ 5 x)) H1 → va_S (txA o a) H0 H1 locs1 → W p l e R s m args below meth c H1 locs1 cells slots Q (F0 m (pc + 3) ls rest)) : W p l e R s m args below meth c H locs cells slots Q (F0 m pc ls (.int x :: .ref o :: rest)) :=
  va_put (ci := 1) (C := RX1) (T := TX1) (N := 7) (v := .int x) (ty := .int) hx hb hts (fun w h => List.mem_cons_of_mem _ (inX1 w h)) tyX1 tyX1_ok nmX1 hown hK hP (txD_of hD) hS 0 rfl rfl 5 (by decide) (hts _ (List.mem_cons_of_mem _ mf_X1_29)) (fun _ h => h) rfl (by decide +kernel) rfl rfl (Nat.le_of_ble_eq_true rfl) d (fun H1 locs1 h1 _ h3 => kk H1 locs1 h1 h3)
theorem tx_g6 (hx : p.tables.exec = Jvm.exec) (hb : c.code = cc) (hts : ∀ w ∈ c0 :: W0, w.before args s = true) (hown : s.vm.findClass RX1 = some m.cls) (hK : va_K D vwCl [(cI, .int)] s) (hP : va_P D vwCl (txW cI o a τ) H) {v : Int32} (hv : τ 6 0 = v) (d : decode cc pc = .ok (.getfield 32, 3)) (kk : W p l e R s m args below meth c H locs cells slots Q (F0 m (pc + 3) ls (.int v :: rest))) : W p l e R s m args below meth c H locs cells slots Q (F0 m pc ls (.ref o :: rest)) := by
  subst hv
  exact va_get (ci := 1) (C := RX1) (T := TX1) (N := 7) (v := .int (τ 6 0)) hx hb hts (fun w h => List.mem_cons_of_mem _ (inX1 w h)) hown hK hP 0 rfl rfl 6 (by decide) (hts _ (List.mem_cons_of_mem _ mf_X1_32)) (fun _ h => h) rfl d kk
theorem tx_p6 (hx : p.tables.exec = Jvm.exec) (hb : c.code = cc) (hts : ∀ w ∈ c0 :: W0, w.before args s = true) (hown : s.vm.findClass RX1 = some m.cls) (hK : va_K D vwCl [(cI, .int)] s) (hP : va_P D vwCl (txW cI o a τ) H) (hD : txD o a) (hS : va_S (txA o a) H0 H locs) {x : Int32} (d : decode cc pc = .ok (.putfield 32, 3)) (kk : ∀ (H1 : Heap) (locs1 : List Loc), va_P D vwCl (txW cI o a (shS τ 6 x)) H1 → va_S (txA o a) H0 H1 locs1 → W p l e R s m args below meth c H1 locs1 cells slots Q (F0 m (pc + 3) ls rest)) : W p l e R s m args below meth c H locs cells slots Q (F0 m pc ls (.int x :: .ref o :: rest)) :=
  va_put (ci := 1) (C := RX1) (T := TX1) (N := 7) (v := .int x) (ty := .int) hx hb hts (fun w h => List.mem_cons_of_mem _ (inX1 w h)) tyX1 tyX1_ok nmX1 hown hK hP (txD_of hD) hS 0 rfl rfl 6 (by decide) (hts _ (List.mem_cons_of_mem _ mf_X1_32)) (fun _ h => h) rfl (by decide +kernel) rfl rfl (Nat.le_of_ble_eq_true rfl) d (fun H1 locs1 h1 _ h3 => kk H1 locs1 h1 h3)
end TX
end
section
theorem zz_last : True := trivial
end
