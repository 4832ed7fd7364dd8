section
-- ===== PART A: goes FIRST, ahead of the names: the tables' words, and 'selects' of the private methods out of them =====
/-- a private method of a class that the tables say can be made, by its rows of tables_1 -/
def lw_okq (q : MethodName × Nat) : Prop := (q.1.cls ≠ "java/lang/invoke/MethodHandle" ∧ q.1.cls ≠ "java/lang/invoke/VarHandle") ∧ Cond.instantiable q.1.cls q.2 ∈ tables_1 ∧ Cond.privateMethod q.1 ∈ tables_1 ∧ Cond.instanceMethod q.1 ∈ tables_1
theorem lw_p0 : lw_okq (⟨"StampTales", "append", "(I)V"⟩, 8) := ⟨⟨by decide +kernel, by decide +kernel⟩, List.mem_of_getElem? (i := 17) (by decide +kernel), List.mem_of_getElem? (i := 343) (by decide +kernel), List.mem_of_getElem? (i := 344) (by decide +kernel)⟩
theorem lw_p1 : lw_okq (⟨"StampTales$Reader", "next", "()V"⟩, 10) := ⟨⟨by decide +kernel, by decide +kernel⟩, List.mem_of_getElem? (i := 104) (by decide +kernel), List.mem_of_getElem? (i := 366) (by decide +kernel), List.mem_of_getElem? (i := 367) (by decide +kernel)⟩
theorem lw_p2 : lw_okq (⟨"StampTales$Reader", "isLetter", "(I)Z"⟩, 10) := ⟨⟨by decide +kernel, by decide +kernel⟩, List.mem_of_getElem? (i := 104) (by decide +kernel), List.mem_of_getElem? (i := 370) (by decide +kernel), List.mem_of_getElem? (i := 371) (by decide +kernel)⟩
theorem lw_p3 : lw_okq (⟨"StampTales$Reader", "takeWord", "()V"⟩, 10) := ⟨⟨by decide +kernel, by decide +kernel⟩, List.mem_of_getElem? (i := 104) (by decide +kernel), List.mem_of_getElem? (i := 374) (by decide +kernel), List.mem_of_getElem? (i := 375) (by decide +kernel)⟩
theorem lw_p4 : lw_okq (⟨"StampTales$Reader", "isDigit", "(I)Z"⟩, 10) := ⟨⟨by decide +kernel, by decide +kernel⟩, List.mem_of_getElem? (i := 104) (by decide +kernel), List.mem_of_getElem? (i := 379) (by decide +kernel), List.mem_of_getElem? (i := 380) (by decide +kernel)⟩
theorem lw_p5 : lw_okq (⟨"StampTales$Reader", "takeNumber", "()V"⟩, 10) := ⟨⟨by decide +kernel, by decide +kernel⟩, List.mem_of_getElem? (i := 104) (by decide +kernel), List.mem_of_getElem? (i := 383) (by decide +kernel), List.mem_of_getElem? (i := 384) (by decide +kernel)⟩
theorem lw_p6 : lw_okq (⟨"StampTales$Reader", "readLine", "()Z"⟩, 10) := ⟨⟨by decide +kernel, by decide +kernel⟩, List.mem_of_getElem? (i := 104) (by decide +kernel), List.mem_of_getElem? (i := 387) (by decide +kernel), List.mem_of_getElem? (i := 388) (by decide +kernel)⟩
theorem lw_p7 : lw_okq (⟨"StampTales$Reader", "isWord", "(Ljava/lang/String;)Z"⟩, 10) := ⟨⟨by decide +kernel, by decide +kernel⟩, List.mem_of_getElem? (i := 104) (by decide +kernel), List.mem_of_getElem? (i := 392) (by decide +kernel), List.mem_of_getElem? (i := 393) (by decide +kernel)⟩
theorem lw_p8 : lw_okq (⟨"StampTales$Reader", "readLand", "()Z"⟩, 10) := ⟨⟨by decide +kernel, by decide +kernel⟩, List.mem_of_getElem? (i := 104) (by decide +kernel), List.mem_of_getElem? (i := 444) (by decide +kernel), List.mem_of_getElem? (i := 445) (by decide +kernel)⟩
theorem lw_p9 : lw_okq (⟨"StampTales$Reader", "isNewName", "()Z"⟩, 10) := ⟨⟨by decide +kernel, by decide +kernel⟩, List.mem_of_getElem? (i := 104) (by decide +kernel), List.mem_of_getElem? (i := 448) (by decide +kernel), List.mem_of_getElem? (i := 449) (by decide +kernel)⟩
theorem lw_p10 : lw_okq (⟨"StampTales$Reader", "isKept", "()Z"⟩, 10) := ⟨⟨by decide +kernel, by decide +kernel⟩, List.mem_of_getElem? (i := 104) (by decide +kernel), List.mem_of_getElem? (i := 452) (by decide +kernel), List.mem_of_getElem? (i := 453) (by decide +kernel)⟩
theorem lw_p11 : lw_okq (⟨"StampTales$Reader", "landOfWord", "()I"⟩, 10) := ⟨⟨by decide +kernel, by decide +kernel⟩, List.mem_of_getElem? (i := 104) (by decide +kernel), List.mem_of_getElem? (i := 469) (by decide +kernel), List.mem_of_getElem? (i := 470) (by decide +kernel)⟩
theorem lw_p12 : lw_okq (⟨"StampTales$Reader", "placeOfName", "([JI)I"⟩, 10) := ⟨⟨by decide +kernel, by decide +kernel⟩, List.mem_of_getElem? (i := 104) (by decide +kernel), List.mem_of_getElem? (i := 473) (by decide +kernel), List.mem_of_getElem? (i := 474) (by decide +kernel)⟩
theorem lw_p13 : lw_okq (⟨"StampTales$Reader", "townOfWord", "()I"⟩, 10) := ⟨⟨by decide +kernel, by decide +kernel⟩, List.mem_of_getElem? (i := 104) (by decide +kernel), List.mem_of_getElem? (i := 477) (by decide +kernel), List.mem_of_getElem? (i := 478) (by decide +kernel)⟩
theorem lw_p14 : lw_okq (⟨"StampTales$Reader", "howOfWord", "()I"⟩, 10) := ⟨⟨by decide +kernel, by decide +kernel⟩, List.mem_of_getElem? (i := 104) (by decide +kernel), List.mem_of_getElem? (i := 481) (by decide +kernel), List.mem_of_getElem? (i := 482) (by decide +kernel)⟩
theorem lw_p15 : lw_okq (⟨"StampTales$Reader", "readTown", "()Z"⟩, 10) := ⟨⟨by decide +kernel, by decide +kernel⟩, List.mem_of_getElem? (i := 104) (by decide +kernel), List.mem_of_getElem? (i := 489) (by decide +kernel), List.mem_of_getElem? (i := 490) (by decide +kernel)⟩
def lw_privs_1 : List (MethodName × Nat) := [(⟨"StampTales", "append", "(I)V"⟩, 8), (⟨"StampTales$Reader", "next", "()V"⟩, 10), (⟨"StampTales$Reader", "isLetter", "(I)Z"⟩, 10), (⟨"StampTales$Reader", "takeWord", "()V"⟩, 10), (⟨"StampTales$Reader", "isDigit", "(I)Z"⟩, 10), (⟨"StampTales$Reader", "takeNumber", "()V"⟩, 10), (⟨"StampTales$Reader", "readLine", "()Z"⟩, 10), (⟨"StampTales$Reader", "isWord", "(Ljava/lang/String;)Z"⟩, 10), (⟨"StampTales$Reader", "readLand", "()Z"⟩, 10), (⟨"StampTales$Reader", "isNewName", "()Z"⟩, 10), (⟨"StampTales$Reader", "isKept", "()Z"⟩, 10), (⟨"StampTales$Reader", "landOfWord", "()I"⟩, 10), (⟨"StampTales$Reader", "placeOfName", "([JI)I"⟩, 10), (⟨"StampTales$Reader", "townOfWord", "()I"⟩, 10), (⟨"StampTales$Reader", "howOfWord", "()I"⟩, 10), (⟨"StampTales$Reader", "readTown", "()Z"⟩, 10)]
theorem lw_r1 : ∀ q ∈ lw_privs_1, lw_okq q := List.forall_mem_cons.mpr ⟨lw_p0, List.forall_mem_cons.mpr ⟨lw_p1, List.forall_mem_cons.mpr ⟨lw_p2, List.forall_mem_cons.mpr ⟨lw_p3, List.forall_mem_cons.mpr ⟨lw_p4, List.forall_mem_cons.mpr ⟨lw_p5, List.forall_mem_cons.mpr ⟨lw_p6, List.forall_mem_cons.mpr ⟨lw_p7, List.forall_mem_cons.mpr ⟨lw_p8, List.forall_mem_cons.mpr ⟨lw_p9, List.forall_mem_cons.mpr ⟨lw_p10, List.forall_mem_cons.mpr ⟨lw_p11, List.forall_mem_cons.mpr ⟨lw_p12, List.forall_mem_cons.mpr ⟨lw_p13, List.forall_mem_cons.mpr ⟨lw_p14, List.forall_mem_cons.mpr ⟨lw_p15, fun _ h => absurd h List.not_mem_nil⟩⟩⟩⟩⟩⟩⟩⟩⟩⟩⟩⟩⟩⟩⟩⟩
theorem lw_p16 : lw_okq (⟨"StampTales$Reader", "passWord", "(Ljava/lang/String;)Z"⟩, 10) := ⟨⟨by decide +kernel, by decide +kernel⟩, List.mem_of_getElem? (i := 104) (by decide +kernel), List.mem_of_getElem? (i := 493) (by decide +kernel), List.mem_of_getElem? (i := 494) (by decide +kernel)⟩
theorem lw_p17 : lw_okq (⟨"StampTales$Reader", "isNumber", "(II)Z"⟩, 10) := ⟨⟨by decide +kernel, by decide +kernel⟩, List.mem_of_getElem? (i := 104) (by decide +kernel), List.mem_of_getElem? (i := 497) (by decide +kernel), List.mem_of_getElem? (i := 498) (by decide +kernel)⟩
theorem lw_p18 : lw_okq (⟨"StampTales$Reader", "readLink", "(Z)Z"⟩, 10) := ⟨⟨by decide +kernel, by decide +kernel⟩, List.mem_of_getElem? (i := 104) (by decide +kernel), List.mem_of_getElem? (i := 505) (by decide +kernel), List.mem_of_getElem? (i := 506) (by decide +kernel)⟩
theorem lw_p19 : lw_okq (⟨"StampTales$Atlas", "stampingLand", "(III)I"⟩, 14) := ⟨⟨by decide +kernel, by decide +kernel⟩, List.mem_of_getElem? (i := 25) (by decide +kernel), List.mem_of_getElem? (i := 513) (by decide +kernel), List.mem_of_getElem? (i := 514) (by decide +kernel)⟩
theorem lw_p20 : lw_okq (⟨"StampTales", "isMan", "(I)Z"⟩, 8) := ⟨⟨by decide +kernel, by decide +kernel⟩, List.mem_of_getElem? (i := 17) (by decide +kernel), List.mem_of_getElem? (i := 540) (by decide +kernel), List.mem_of_getElem? (i := 541) (by decide +kernel)⟩
theorem lw_p21 : lw_okq (⟨"StampTales", "searchOf", "(I)LStampTales$Search;"⟩, 8) := ⟨⟨by decide +kernel, by decide +kernel⟩, List.mem_of_getElem? (i := 17) (by decide +kernel), List.mem_of_getElem? (i := 548) (by decide +kernel), List.mem_of_getElem? (i := 549) (by decide +kernel)⟩
theorem lw_p22 : lw_okq (⟨"StampTales$Man", "howMany", "(I)I"⟩, 11) := ⟨⟨by decide +kernel, by decide +kernel⟩, List.mem_of_getElem? (i := 145) (by decide +kernel), List.mem_of_getElem? (i := 565) (by decide +kernel), List.mem_of_getElem? (i := 566) (by decide +kernel)⟩
theorem lw_p23 : lw_okq (⟨"StampTales$Search", "learnWhere", "()V"⟩, 13) := ⟨⟨by decide +kernel, by decide +kernel⟩, List.mem_of_getElem? (i := 143) (by decide +kernel), List.mem_of_getElem? (i := 628) (by decide +kernel), List.mem_of_getElem? (i := 629) (by decide +kernel)⟩
theorem lw_p24 : lw_okq (⟨"StampTales$Search", "mustLearn", "(I)Z"⟩, 13) := ⟨⟨by decide +kernel, by decide +kernel⟩, List.mem_of_getElem? (i := 143) (by decide +kernel), List.mem_of_getElem? (i := 632) (by decide +kernel), List.mem_of_getElem? (i := 633) (by decide +kernel)⟩
theorem lw_p25 : lw_okq (⟨"StampTales$Search", "prepare", "(I)V"⟩, 13) := ⟨⟨by decide +kernel, by decide +kernel⟩, List.mem_of_getElem? (i := 143) (by decide +kernel), List.mem_of_getElem? (i := 636) (by decide +kernel), List.mem_of_getElem? (i := 637) (by decide +kernel)⟩
theorem lw_p26 : lw_okq (⟨"StampTales$Search", "linksLeaving", "(I)I"⟩, 13) := ⟨⟨by decide +kernel, by decide +kernel⟩, List.mem_of_getElem? (i := 143) (by decide +kernel), List.mem_of_getElem? (i := 644) (by decide +kernel), List.mem_of_getElem? (i := 645) (by decide +kernel)⟩
theorem lw_p27 : lw_okq (⟨"StampTales$Search", "listCells", "()V"⟩, 13) := ⟨⟨by decide +kernel, by decide +kernel⟩, List.mem_of_getElem? (i := 143) (by decide +kernel), List.mem_of_getElem? (i := 652) (by decide +kernel), List.mem_of_getElem? (i := 653) (by decide +kernel)⟩
theorem lw_p28 : lw_okq (⟨"StampTales$Search", "fill", "(I)V"⟩, 13) := ⟨⟨by decide +kernel, by decide +kernel⟩, List.mem_of_getElem? (i := 143) (by decide +kernel), List.mem_of_getElem? (i := 659) (by decide +kernel), List.mem_of_getElem? (i := 660) (by decide +kernel)⟩
theorem lw_p29 : lw_okq (⟨"StampTales$Search", "mostSlept", "(I)I"⟩, 13) := ⟨⟨by decide +kernel, by decide +kernel⟩, List.mem_of_getElem? (i := 143) (by decide +kernel), List.mem_of_getElem? (i := 663) (by decide +kernel), List.mem_of_getElem? (i := 664) (by decide +kernel)⟩
theorem lw_p30 : lw_okq (⟨"StampTales$Search", "valueOf", "(II)I"⟩, 13) := ⟨⟨by decide +kernel, by decide +kernel⟩, List.mem_of_getElem? (i := 143) (by decide +kernel), List.mem_of_getElem? (i := 674) (by decide +kernel), List.mem_of_getElem? (i := 675) (by decide +kernel)⟩
theorem lw_p31 : lw_okq (⟨"StampTales$Search", "valueAtEnd", "(I)I"⟩, 13) := ⟨⟨by decide +kernel, by decide +kernel⟩, List.mem_of_getElem? (i := 143) (by decide +kernel), List.mem_of_getElem? (i := 678) (by decide +kernel), List.mem_of_getElem? (i := 679) (by decide +kernel)⟩
def lw_privs_2 : List (MethodName × Nat) := [(⟨"StampTales$Reader", "passWord", "(Ljava/lang/String;)Z"⟩, 10), (⟨"StampTales$Reader", "isNumber", "(II)Z"⟩, 10), (⟨"StampTales$Reader", "readLink", "(Z)Z"⟩, 10), (⟨"StampTales$Atlas", "stampingLand", "(III)I"⟩, 14), (⟨"StampTales", "isMan", "(I)Z"⟩, 8), (⟨"StampTales", "searchOf", "(I)LStampTales$Search;"⟩, 8), (⟨"StampTales$Man", "howMany", "(I)I"⟩, 11), (⟨"StampTales$Search", "learnWhere", "()V"⟩, 13), (⟨"StampTales$Search", "mustLearn", "(I)Z"⟩, 13), (⟨"StampTales$Search", "prepare", "(I)V"⟩, 13), (⟨"StampTales$Search", "linksLeaving", "(I)I"⟩, 13), (⟨"StampTales$Search", "listCells", "()V"⟩, 13), (⟨"StampTales$Search", "fill", "(I)V"⟩, 13), (⟨"StampTales$Search", "mostSlept", "(I)I"⟩, 13), (⟨"StampTales$Search", "valueOf", "(II)I"⟩, 13), (⟨"StampTales$Search", "valueAtEnd", "(I)I"⟩, 13)]
theorem lw_r2 : ∀ q ∈ lw_privs_2, lw_okq q := List.forall_mem_cons.mpr ⟨lw_p16, List.forall_mem_cons.mpr ⟨lw_p17, List.forall_mem_cons.mpr ⟨lw_p18, List.forall_mem_cons.mpr ⟨lw_p19, List.forall_mem_cons.mpr ⟨lw_p20, List.forall_mem_cons.mpr ⟨lw_p21, List.forall_mem_cons.mpr ⟨lw_p22, List.forall_mem_cons.mpr ⟨lw_p23, List.forall_mem_cons.mpr ⟨lw_p24, List.forall_mem_cons.mpr ⟨lw_p25, List.forall_mem_cons.mpr ⟨lw_p26, List.forall_mem_cons.mpr ⟨lw_p27, List.forall_mem_cons.mpr ⟨lw_p28, List.forall_mem_cons.mpr ⟨lw_p29, List.forall_mem_cons.mpr ⟨lw_p30, List.forall_mem_cons.mpr ⟨lw_p31, fun _ h => absurd h List.not_mem_nil⟩⟩⟩⟩⟩⟩⟩⟩⟩⟩⟩⟩⟩⟩⟩⟩
theorem lw_p32 : lw_okq (⟨"StampTales$Search", "charge", "(II)I"⟩, 13) := ⟨⟨by decide +kernel, by decide +kernel⟩, List.mem_of_getElem? (i := 143) (by decide +kernel), List.mem_of_getElem? (i := 685) (by decide +kernel), List.mem_of_getElem? (i := 686) (by decide +kernel)⟩
theorem lw_p33 : lw_okq (⟨"StampTales$Search", "valueByStay", "(II)I"⟩, 13) := ⟨⟨by decide +kernel, by decide +kernel⟩, List.mem_of_getElem? (i := 143) (by decide +kernel), List.mem_of_getElem? (i := 695) (by decide +kernel), List.mem_of_getElem? (i := 696) (by decide +kernel)⟩
theorem lw_p34 : lw_okq (⟨"StampTales$Search", "afterStay", "(II)I"⟩, 13) := ⟨⟨by decide +kernel, by decide +kernel⟩, List.mem_of_getElem? (i := 143) (by decide +kernel), List.mem_of_getElem? (i := 699) (by decide +kernel), List.mem_of_getElem? (i := 700) (by decide +kernel)⟩
theorem lw_p35 : lw_okq (⟨"StampTales$Search", "seenAt", "(II)I"⟩, 13) := ⟨⟨by decide +kernel, by decide +kernel⟩, List.mem_of_getElem? (i := 143) (by decide +kernel), List.mem_of_getElem? (i := 706) (by decide +kernel), List.mem_of_getElem? (i := 707) (by decide +kernel)⟩
theorem lw_p36 : lw_okq (⟨"StampTales$Search", "canTake", "(III)Z"⟩, 13) := ⟨⟨by decide +kernel, by decide +kernel⟩, List.mem_of_getElem? (i := 143) (by decide +kernel), List.mem_of_getElem? (i := 710) (by decide +kernel), List.mem_of_getElem? (i := 711) (by decide +kernel)⟩
theorem lw_p37 : lw_okq (⟨"StampTales$Search", "valueByLink", "(III)I"⟩, 13) := ⟨⟨by decide +kernel, by decide +kernel⟩, List.mem_of_getElem? (i := 143) (by decide +kernel), List.mem_of_getElem? (i := 714) (by decide +kernel), List.mem_of_getElem? (i := 715) (by decide +kernel)⟩
theorem lw_p38 : lw_okq (⟨"StampTales$Search", "papersBetween", "(II)I"⟩, 13) := ⟨⟨by decide +kernel, by decide +kernel⟩, List.mem_of_getElem? (i := 143) (by decide +kernel), List.mem_of_getElem? (i := 718) (by decide +kernel), List.mem_of_getElem? (i := 719) (by decide +kernel)⟩
theorem lw_p39 : lw_okq (⟨"StampTales$Search", "afterLink", "(IIII)I"⟩, 13) := ⟨⟨by decide +kernel, by decide +kernel⟩, List.mem_of_getElem? (i := 143) (by decide +kernel), List.mem_of_getElem? (i := 722) (by decide +kernel), List.mem_of_getElem? (i := 723) (by decide +kernel)⟩
theorem lw_p40 : lw_okq (⟨"StampTales$Search", "sleptAfter", "(III)I"⟩, 13) := ⟨⟨by decide +kernel, by decide +kernel⟩, List.mem_of_getElem? (i := 143) (by decide +kernel), List.mem_of_getElem? (i := 726) (by decide +kernel), List.mem_of_getElem? (i := 727) (by decide +kernel)⟩
theorem lw_p41 : lw_okq (⟨"StampTales$Search", "join", "(II)I"⟩, 13) := ⟨⟨by decide +kernel, by decide +kernel⟩, List.mem_of_getElem? (i := 143) (by decide +kernel), List.mem_of_getElem? (i := 738) (by decide +kernel), List.mem_of_getElem? (i := 739) (by decide +kernel)⟩
theorem lw_p42 : lw_okq (⟨"StampTales$Search", "weightOf", "(I)I"⟩, 13) := ⟨⟨by decide +kernel, by decide +kernel⟩, List.mem_of_getElem? (i := 143) (by decide +kernel), List.mem_of_getElem? (i := 743) (by decide +kernel), List.mem_of_getElem? (i := 744) (by decide +kernel)⟩
theorem lw_p43 : lw_okq (⟨"StampTales$Search", "papersMissed", "(II)I"⟩, 13) := ⟨⟨by decide +kernel, by decide +kernel⟩, List.mem_of_getElem? (i := 143) (by decide +kernel), List.mem_of_getElem? (i := 747) (by decide +kernel), List.mem_of_getElem? (i := 748) (by decide +kernel)⟩
theorem lw_p44 : lw_okq (⟨"StampTales$Search", "valueAtStart", "()I"⟩, 13) := ⟨⟨by decide +kernel, by decide +kernel⟩, List.mem_of_getElem? (i := 143) (by decide +kernel), List.mem_of_getElem? (i := 751) (by decide +kernel), List.mem_of_getElem? (i := 752) (by decide +kernel)⟩
theorem lw_p45 : lw_okq (⟨"StampTales$Search", "startCell", "()I"⟩, 13) := ⟨⟨by decide +kernel, by decide +kernel⟩, List.mem_of_getElem? (i := 143) (by decide +kernel), List.mem_of_getElem? (i := 755) (by decide +kernel), List.mem_of_getElem? (i := 756) (by decide +kernel)⟩
theorem lw_p46 : lw_okq (⟨"StampTales$Search", "reach", "(II)Z"⟩, 13) := ⟨⟨by decide +kernel, by decide +kernel⟩, List.mem_of_getElem? (i := 143) (by decide +kernel), List.mem_of_getElem? (i := 759) (by decide +kernel), List.mem_of_getElem? (i := 760) (by decide +kernel)⟩
theorem lw_p47 : lw_okq (⟨"StampTales$Search", "goOnFrom", "(II)V"⟩, 13) := ⟨⟨by decide +kernel, by decide +kernel⟩, List.mem_of_getElem? (i := 143) (by decide +kernel), List.mem_of_getElem? (i := 764) (by decide +kernel), List.mem_of_getElem? (i := 765) (by decide +kernel)⟩
def lw_privs_3 : List (MethodName × Nat) := [(⟨"StampTales$Search", "charge", "(II)I"⟩, 13), (⟨"StampTales$Search", "valueByStay", "(II)I"⟩, 13), (⟨"StampTales$Search", "afterStay", "(II)I"⟩, 13), (⟨"StampTales$Search", "seenAt", "(II)I"⟩, 13), (⟨"StampTales$Search", "canTake", "(III)Z"⟩, 13), (⟨"StampTales$Search", "valueByLink", "(III)I"⟩, 13), (⟨"StampTales$Search", "papersBetween", "(II)I"⟩, 13), (⟨"StampTales$Search", "afterLink", "(IIII)I"⟩, 13), (⟨"StampTales$Search", "sleptAfter", "(III)I"⟩, 13), (⟨"StampTales$Search", "join", "(II)I"⟩, 13), (⟨"StampTales$Search", "weightOf", "(I)I"⟩, 13), (⟨"StampTales$Search", "papersMissed", "(II)I"⟩, 13), (⟨"StampTales$Search", "valueAtStart", "()I"⟩, 13), (⟨"StampTales$Search", "startCell", "()I"⟩, 13), (⟨"StampTales$Search", "reach", "(II)Z"⟩, 13), (⟨"StampTales$Search", "goOnFrom", "(II)V"⟩, 13)]
theorem lw_r3 : ∀ q ∈ lw_privs_3, lw_okq q := List.forall_mem_cons.mpr ⟨lw_p32, List.forall_mem_cons.mpr ⟨lw_p33, List.forall_mem_cons.mpr ⟨lw_p34, List.forall_mem_cons.mpr ⟨lw_p35, List.forall_mem_cons.mpr ⟨lw_p36, List.forall_mem_cons.mpr ⟨lw_p37, List.forall_mem_cons.mpr ⟨lw_p38, List.forall_mem_cons.mpr ⟨lw_p39, List.forall_mem_cons.mpr ⟨lw_p40, List.forall_mem_cons.mpr ⟨lw_p41, List.forall_mem_cons.mpr ⟨lw_p42, List.forall_mem_cons.mpr ⟨lw_p43, List.forall_mem_cons.mpr ⟨lw_p44, List.forall_mem_cons.mpr ⟨lw_p45, List.forall_mem_cons.mpr ⟨lw_p46, List.forall_mem_cons.mpr ⟨lw_p47, fun _ h => absurd h List.not_mem_nil⟩⟩⟩⟩⟩⟩⟩⟩⟩⟩⟩⟩⟩⟩⟩⟩
theorem lw_p48 : lw_okq (⟨"StampTales", "isTimeOf", "(II)Z"⟩, 8) := ⟨⟨by decide +kernel, by decide +kernel⟩, List.mem_of_getElem? (i := 17) (by decide +kernel), List.mem_of_getElem? (i := 772) (by decide +kernel), List.mem_of_getElem? (i := 773) (by decide +kernel)⟩
theorem lw_p49 : lw_okq (⟨"StampTales$Search", "followTale", "()V"⟩, 13) := ⟨⟨by decide +kernel, by decide +kernel⟩, List.mem_of_getElem? (i := 143) (by decide +kernel), List.mem_of_getElem? (i := 808) (by decide +kernel), List.mem_of_getElem? (i := 809) (by decide +kernel)⟩
theorem lw_p50 : lw_okq (⟨"StampTales$Search", "firstMove", "(II)I"⟩, 13) := ⟨⟨by decide +kernel, by decide +kernel⟩, List.mem_of_getElem? (i := 143) (by decide +kernel), List.mem_of_getElem? (i := 812) (by decide +kernel), List.mem_of_getElem? (i := 813) (by decide +kernel)⟩
theorem lw_p51 : lw_okq (⟨"StampTales$Story", "wrongLeg", "(LStampTales$Man;)I"⟩, 6) := ⟨⟨by decide +kernel, by decide +kernel⟩, List.mem_of_getElem? (i := 288) (by decide +kernel), List.mem_of_getElem? (i := 856) (by decide +kernel), List.mem_of_getElem? (i := 857) (by decide +kernel)⟩
theorem lw_p52 : lw_okq (⟨"StampTales$Story", "stay", "(III)V"⟩, 6) := ⟨⟨by decide +kernel, by decide +kernel⟩, List.mem_of_getElem? (i := 288) (by decide +kernel), List.mem_of_getElem? (i := 861) (by decide +kernel), List.mem_of_getElem? (i := 862) (by decide +kernel)⟩
theorem lw_p53 : lw_okq (⟨"StampTales$Story", "sleeplessDay", "(LStampTales$Man;)I"⟩, 6) := ⟨⟨by decide +kernel, by decide +kernel⟩, List.mem_of_getElem? (i := 288) (by decide +kernel), List.mem_of_getElem? (i := 865) (by decide +kernel), List.mem_of_getElem? (i := 866) (by decide +kernel)⟩
theorem lw_p54 : lw_okq (⟨"StampTales$Story", "wrongStamp", "(LStampTales$Man;)I"⟩, 6) := ⟨⟨by decide +kernel, by decide +kernel⟩, List.mem_of_getElem? (i := 288) (by decide +kernel), List.mem_of_getElem? (i := 869) (by decide +kernel), List.mem_of_getElem? (i := 870) (by decide +kernel)⟩
theorem lw_p55 : lw_okq (⟨"StampTales$Story", "missedPaper", "(LStampTales$Man;)I"⟩, 6) := ⟨⟨by decide +kernel, by decide +kernel⟩, List.mem_of_getElem? (i := 288) (by decide +kernel), List.mem_of_getElem? (i := 879) (by decide +kernel), List.mem_of_getElem? (i := 880) (by decide +kernel)⟩
theorem lw_p56 : lw_okq (⟨"StampTales$Story", "missedLook", "(LStampTales$Man;)I"⟩, 6) := ⟨⟨by decide +kernel, by decide +kernel⟩, List.mem_of_getElem? (i := 288) (by decide +kernel), List.mem_of_getElem? (i := 883) (by decide +kernel), List.mem_of_getElem? (i := 884) (by decide +kernel)⟩
theorem lw_p57 : lw_okq (⟨"StampTales$Story", "isSeen", "(LStampTales$Man;I)Z"⟩, 6) := ⟨⟨by decide +kernel, by decide +kernel⟩, List.mem_of_getElem? (i := 288) (by decide +kernel), List.mem_of_getElem? (i := 887) (by decide +kernel), List.mem_of_getElem? (i := 888) (by decide +kernel)⟩
theorem lw_p58 : lw_okq (⟨"StampTalesModel", "next", "()V"⟩, 50) := ⟨⟨by decide +kernel, by decide +kernel⟩, List.mem_of_getElem? (i := 896) (by decide +kernel), List.mem_of_getElem? (i := 1069) (by decide +kernel), List.mem_of_getElem? (i := 1070) (by decide +kernel)⟩
theorem lw_p59 : lw_okq (⟨"StampTalesModel", "line", "()Z"⟩, 50) := ⟨⟨by decide +kernel, by decide +kernel⟩, List.mem_of_getElem? (i := 896) (by decide +kernel), List.mem_of_getElem? (i := 1082) (by decide +kernel), List.mem_of_getElem? (i := 1083) (by decide +kernel)⟩
theorem lw_p60 : lw_okq (⟨"StampTalesModel", "isWord", "(Ljava/lang/String;)Z"⟩, 50) := ⟨⟨by decide +kernel, by decide +kernel⟩, List.mem_of_getElem? (i := 896) (by decide +kernel), List.mem_of_getElem? (i := 1087) (by decide +kernel), List.mem_of_getElem? (i := 1088) (by decide +kernel)⟩
theorem lw_p61 : lw_okq (⟨"StampTalesModel", "landLine", "()Z"⟩, 50) := ⟨⟨by decide +kernel, by decide +kernel⟩, List.mem_of_getElem? (i := 896) (by decide +kernel), List.mem_of_getElem? (i := 1096) (by decide +kernel), List.mem_of_getElem? (i := 1097) (by decide +kernel)⟩
theorem lw_p62 : lw_okq (⟨"StampTalesModel", "isNew", "()Z"⟩, 50) := ⟨⟨by decide +kernel, by decide +kernel⟩, List.mem_of_getElem? (i := 896) (by decide +kernel), List.mem_of_getElem? (i := 1100) (by decide +kernel), List.mem_of_getElem? (i := 1101) (by decide +kernel)⟩
theorem lw_p63 : lw_okq (⟨"StampTalesModel", "isName", "()Z"⟩, 50) := ⟨⟨by decide +kernel, by decide +kernel⟩, List.mem_of_getElem? (i := 896) (by decide +kernel), List.mem_of_getElem? (i := 1104) (by decide +kernel), List.mem_of_getElem? (i := 1105) (by decide +kernel)⟩
def lw_privs_4 : List (MethodName × Nat) := [(⟨"StampTales", "isTimeOf", "(II)Z"⟩, 8), (⟨"StampTales$Search", "followTale", "()V"⟩, 13), (⟨"StampTales$Search", "firstMove", "(II)I"⟩, 13), (⟨"StampTales$Story", "wrongLeg", "(LStampTales$Man;)I"⟩, 6), (⟨"StampTales$Story", "stay", "(III)V"⟩, 6), (⟨"StampTales$Story", "sleeplessDay", "(LStampTales$Man;)I"⟩, 6), (⟨"StampTales$Story", "wrongStamp", "(LStampTales$Man;)I"⟩, 6), (⟨"StampTales$Story", "missedPaper", "(LStampTales$Man;)I"⟩, 6), (⟨"StampTales$Story", "missedLook", "(LStampTales$Man;)I"⟩, 6), (⟨"StampTales$Story", "isSeen", "(LStampTales$Man;I)Z"⟩, 6), (⟨"StampTalesModel", "next", "()V"⟩, 50), (⟨"StampTalesModel", "line", "()Z"⟩, 50), (⟨"StampTalesModel", "isWord", "(Ljava/lang/String;)Z"⟩, 50), (⟨"StampTalesModel", "landLine", "()Z"⟩, 50), (⟨"StampTalesModel", "isNew", "()Z"⟩, 50), (⟨"StampTalesModel", "isName", "()Z"⟩, 50)]
theorem lw_r4 : ∀ q ∈ lw_privs_4, lw_okq q := List.forall_mem_cons.mpr ⟨lw_p48, List.forall_mem_cons.mpr ⟨lw_p49, List.forall_mem_cons.mpr ⟨lw_p50, List.forall_mem_cons.mpr ⟨lw_p51, List.forall_mem_cons.mpr ⟨lw_p52, List.forall_mem_cons.mpr ⟨lw_p53, List.forall_mem_cons.mpr ⟨lw_p54, List.forall_mem_cons.mpr ⟨lw_p55, List.forall_mem_cons.mpr ⟨lw_p56, List.forall_mem_cons.mpr ⟨lw_p57, List.forall_mem_cons.mpr ⟨lw_p58, List.forall_mem_cons.mpr ⟨lw_p59, List.forall_mem_cons.mpr ⟨lw_p60, List.forall_mem_cons.mpr ⟨lw_p61, List.forall_mem_cons.mpr ⟨lw_p62, List.forall_mem_cons.mpr ⟨lw_p63, fun _ h => absurd h List.not_mem_nil⟩⟩⟩⟩⟩⟩⟩⟩⟩⟩⟩⟩⟩⟩⟩⟩
theorem lw_p64 : lw_okq (⟨"StampTalesModel", "landHere", "()I"⟩, 50) := ⟨⟨by decide +kernel, by decide +kernel⟩, List.mem_of_getElem? (i := 896) (by decide +kernel), List.mem_of_getElem? (i := 1121) (by decide +kernel), List.mem_of_getElem? (i := 1122) (by decide +kernel)⟩
theorem lw_p65 : lw_okq (⟨"StampTalesModel", "townHere", "()I"⟩, 50) := ⟨⟨by decide +kernel, by decide +kernel⟩, List.mem_of_getElem? (i := 896) (by decide +kernel), List.mem_of_getElem? (i := 1125) (by decide +kernel), List.mem_of_getElem? (i := 1126) (by decide +kernel)⟩
theorem lw_p66 : lw_okq (⟨"StampTalesModel", "closes", "()Z"⟩, 50) := ⟨⟨by decide +kernel, by decide +kernel⟩, List.mem_of_getElem? (i := 896) (by decide +kernel), List.mem_of_getElem? (i := 1129) (by decide +kernel), List.mem_of_getElem? (i := 1130) (by decide +kernel)⟩
theorem lw_p67 : lw_okq (⟨"StampTalesModel", "townLine", "()Z"⟩, 50) := ⟨⟨by decide +kernel, by decide +kernel⟩, List.mem_of_getElem? (i := 896) (by decide +kernel), List.mem_of_getElem? (i := 1133) (by decide +kernel), List.mem_of_getElem? (i := 1134) (by decide +kernel)⟩
theorem lw_p68 : lw_okq (⟨"StampTalesModel", "word", "(Ljava/lang/String;)Z"⟩, 50) := ⟨⟨by decide +kernel, by decide +kernel⟩, List.mem_of_getElem? (i := 896) (by decide +kernel), List.mem_of_getElem? (i := 1137) (by decide +kernel), List.mem_of_getElem? (i := 1138) (by decide +kernel)⟩
theorem lw_p69 : lw_okq (⟨"StampTalesModel", "number", "(II)Z"⟩, 50) := ⟨⟨by decide +kernel, by decide +kernel⟩, List.mem_of_getElem? (i := 896) (by decide +kernel), List.mem_of_getElem? (i := 1141) (by decide +kernel), List.mem_of_getElem? (i := 1142) (by decide +kernel)⟩
theorem lw_p70 : lw_okq (⟨"StampTalesModel", "linkLine", "(Z)Z"⟩, 50) := ⟨⟨by decide +kernel, by decide +kernel⟩, List.mem_of_getElem? (i := 896) (by decide +kernel), List.mem_of_getElem? (i := 1145) (by decide +kernel), List.mem_of_getElem? (i := 1146) (by decide +kernel)⟩
theorem lw_p71 : lw_okq (⟨"StampTalesModel", "isMan", "(I)Z"⟩, 50) := ⟨⟨by decide +kernel, by decide +kernel⟩, List.mem_of_getElem? (i := 896) (by decide +kernel), List.mem_of_getElem? (i := 1158) (by decide +kernel), List.mem_of_getElem? (i := 1159) (by decide +kernel)⟩
theorem lw_p72 : lw_okq (⟨"StampTalesModel", "isTown", "(I)Z"⟩, 50) := ⟨⟨by decide +kernel, by decide +kernel⟩, List.mem_of_getElem? (i := 896) (by decide +kernel), List.mem_of_getElem? (i := 1162) (by decide +kernel), List.mem_of_getElem? (i := 1163) (by decide +kernel)⟩
theorem lw_p73 : lw_okq (⟨"StampTalesModel", "many", "(II)I"⟩, 50) := ⟨⟨by decide +kernel, by decide +kernel⟩, List.mem_of_getElem? (i := 896) (by decide +kernel), List.mem_of_getElem? (i := 1170) (by decide +kernel), List.mem_of_getElem? (i := 1171) (by decide +kernel)⟩
theorem lw_p74 : lw_okq (⟨"StampTalesModel", "left", "(IIIIII)I"⟩, 50) := ⟨⟨by decide +kernel, by decide +kernel⟩, List.mem_of_getElem? (i := 896) (by decide +kernel), List.mem_of_getElem? (i := 1174) (by decide +kernel), List.mem_of_getElem? (i := 1175) (by decide +kernel)⟩
theorem lw_p75 : lw_okq (⟨"StampTalesModel", "isTrace", "(II)Z"⟩, 50) := ⟨⟨by decide +kernel, by decide +kernel⟩, List.mem_of_getElem? (i := 896) (by decide +kernel), List.mem_of_getElem? (i := 1190) (by decide +kernel), List.mem_of_getElem? (i := 1191) (by decide +kernel)⟩
theorem lw_p76 : lw_okq (⟨"StampTalesModel", "isLink", "(I)Z"⟩, 50) := ⟨⟨by decide +kernel, by decide +kernel⟩, List.mem_of_getElem? (i := 896) (by decide +kernel), List.mem_of_getElem? (i := 1202) (by decide +kernel), List.mem_of_getElem? (i := 1203) (by decide +kernel)⟩
theorem lw_p77 : lw_okq (⟨"StampTalesModel", "ofLink", "(II)I"⟩, 50) := ⟨⟨by decide +kernel, by decide +kernel⟩, List.mem_of_getElem? (i := 896) (by decide +kernel), List.mem_of_getElem? (i := 1206) (by decide +kernel), List.mem_of_getElem? (i := 1207) (by decide +kernel)⟩
theorem lw_p78 : lw_okq (⟨"StampTalesModel", "sets", "(II)V"⟩, 50) := ⟨⟨by decide +kernel, by decide +kernel⟩, List.mem_of_getElem? (i := 896) (by decide +kernel), List.mem_of_getElem? (i := 1222) (by decide +kernel), List.mem_of_getElem? (i := 1223) (by decide +kernel)⟩
theorem lw_p79 : lw_okq (⟨"StampTalesModel", "counts", "()I"⟩, 50) := ⟨⟨by decide +kernel, by decide +kernel⟩, List.mem_of_getElem? (i := 896) (by decide +kernel), List.mem_of_getElem? (i := 1226) (by decide +kernel), List.mem_of_getElem? (i := 1227) (by decide +kernel)⟩
def lw_privs_5 : List (MethodName × Nat) := [(⟨"StampTalesModel", "landHere", "()I"⟩, 50), (⟨"StampTalesModel", "townHere", "()I"⟩, 50), (⟨"StampTalesModel", "closes", "()Z"⟩, 50), (⟨"StampTalesModel", "townLine", "()Z"⟩, 50), (⟨"StampTalesModel", "word", "(Ljava/lang/String;)Z"⟩, 50), (⟨"StampTalesModel", "number", "(II)Z"⟩, 50), (⟨"StampTalesModel", "linkLine", "(Z)Z"⟩, 50), (⟨"StampTalesModel", "isMan", "(I)Z"⟩, 50), (⟨"StampTalesModel", "isTown", "(I)Z"⟩, 50), (⟨"StampTalesModel", "many", "(II)I"⟩, 50), (⟨"StampTalesModel", "left", "(IIIIII)I"⟩, 50), (⟨"StampTalesModel", "isTrace", "(II)Z"⟩, 50), (⟨"StampTalesModel", "isLink", "(I)Z"⟩, 50), (⟨"StampTalesModel", "ofLink", "(II)I"⟩, 50), (⟨"StampTalesModel", "sets", "(II)V"⟩, 50), (⟨"StampTalesModel", "counts", "()I"⟩, 50)]
theorem lw_r5 : ∀ q ∈ lw_privs_5, lw_okq q := List.forall_mem_cons.mpr ⟨lw_p64, List.forall_mem_cons.mpr ⟨lw_p65, List.forall_mem_cons.mpr ⟨lw_p66, List.forall_mem_cons.mpr ⟨lw_p67, List.forall_mem_cons.mpr ⟨lw_p68, List.forall_mem_cons.mpr ⟨lw_p69, List.forall_mem_cons.mpr ⟨lw_p70, List.forall_mem_cons.mpr ⟨lw_p71, List.forall_mem_cons.mpr ⟨lw_p72, List.forall_mem_cons.mpr ⟨lw_p73, List.forall_mem_cons.mpr ⟨lw_p74, List.forall_mem_cons.mpr ⟨lw_p75, List.forall_mem_cons.mpr ⟨lw_p76, List.forall_mem_cons.mpr ⟨lw_p77, List.forall_mem_cons.mpr ⟨lw_p78, List.forall_mem_cons.mpr ⟨lw_p79, fun _ h => absurd h List.not_mem_nil⟩⟩⟩⟩⟩⟩⟩⟩⟩⟩⟩⟩⟩⟩⟩⟩
theorem lw_p80 : lw_okq (⟨"StampTalesModel", "finds", "()Z"⟩, 50) := ⟨⟨by decide +kernel, by decide +kernel⟩, List.mem_of_getElem? (i := 896) (by decide +kernel), List.mem_of_getElem? (i := 1230) (by decide +kernel), List.mem_of_getElem? (i := 1231) (by decide +kernel)⟩
theorem lw_p81 : lw_okq (⟨"StampTalesModel", "start", "()I"⟩, 50) := ⟨⟨by decide +kernel, by decide +kernel⟩, List.mem_of_getElem? (i := 896) (by decide +kernel), List.mem_of_getElem? (i := 1234) (by decide +kernel), List.mem_of_getElem? (i := 1235) (by decide +kernel)⟩
theorem lw_p82 : lw_okq (⟨"StampTalesModel", "comesTo", "(IIIII)I"⟩, 50) := ⟨⟨by decide +kernel, by decide +kernel⟩, List.mem_of_getElem? (i := 896) (by decide +kernel), List.mem_of_getElem? (i := 1238) (by decide +kernel), List.mem_of_getElem? (i := 1239) (by decide +kernel)⟩
theorem lw_p83 : lw_okq (⟨"StampTalesModel", "goes", "(III)I"⟩, 50) := ⟨⟨by decide +kernel, by decide +kernel⟩, List.mem_of_getElem? (i := 896) (by decide +kernel), List.mem_of_getElem? (i := 1245) (by decide +kernel), List.mem_of_getElem? (i := 1246) (by decide +kernel)⟩
theorem lw_p84 : lw_okq (⟨"StampTalesModel", "stamped", "(IIIII)I"⟩, 50) := ⟨⟨by decide +kernel, by decide +kernel⟩, List.mem_of_getElem? (i := 896) (by decide +kernel), List.mem_of_getElem? (i := 1249) (by decide +kernel), List.mem_of_getElem? (i := 1250) (by decide +kernel)⟩
theorem lw_p85 : lw_okq (⟨"StampTalesModel", "ends", "(I)Z"⟩, 50) := ⟨⟨by decide +kernel, by decide +kernel⟩, List.mem_of_getElem? (i := 896) (by decide +kernel), List.mem_of_getElem? (i := 1256) (by decide +kernel), List.mem_of_getElem? (i := 1257) (by decide +kernel)⟩
theorem lw_p86 : lw_okq (⟨"StampTalesModel", "mayBits", "(II)I"⟩, 50) := ⟨⟨by decide +kernel, by decide +kernel⟩, List.mem_of_getElem? (i := 896) (by decide +kernel), List.mem_of_getElem? (i := 1265) (by decide +kernel), List.mem_of_getElem? (i := 1266) (by decide +kernel)⟩
theorem lw_p87 : lw_okq (⟨"StampTalesModel", "leasts", "(ZI)I"⟩, 50) := ⟨⟨by decide +kernel, by decide +kernel⟩, List.mem_of_getElem? (i := 896) (by decide +kernel), List.mem_of_getElem? (i := 1280) (by decide +kernel), List.mem_of_getElem? (i := 1281) (by decide +kernel)⟩
theorem lw_p88 : lw_okq (⟨"StampTalesModel", "price", "(IZ)I"⟩, 50) := ⟨⟨by decide +kernel, by decide +kernel⟩, List.mem_of_getElem? (i := 896) (by decide +kernel), List.mem_of_getElem? (i := 1285) (by decide +kernel), List.mem_of_getElem? (i := 1286) (by decide +kernel)⟩
theorem lw_p89 : lw_okq (⟨"StampTalesModel", "follows", "()I"⟩, 50) := ⟨⟨by decide +kernel, by decide +kernel⟩, List.mem_of_getElem? (i := 896) (by decide +kernel), List.mem_of_getElem? (i := 1318) (by decide +kernel), List.mem_of_getElem? (i := 1319) (by decide +kernel)⟩
theorem lw_p90 : lw_okq (⟨"StampTalesModel", "sleepless", "()I"⟩, 50) := ⟨⟨by decide +kernel, by decide +kernel⟩, List.mem_of_getElem? (i := 896) (by decide +kernel), List.mem_of_getElem? (i := 1322) (by decide +kernel), List.mem_of_getElem? (i := 1323) (by decide +kernel)⟩
theorem lw_p91 : lw_okq (⟨"StampTalesModel", "wrongStamp", "()I"⟩, 50) := ⟨⟨by decide +kernel, by decide +kernel⟩, List.mem_of_getElem? (i := 896) (by decide +kernel), List.mem_of_getElem? (i := 1326) (by decide +kernel), List.mem_of_getElem? (i := 1327) (by decide +kernel)⟩
def lw_privs_6 : List (MethodName × Nat) := [(⟨"StampTalesModel", "finds", "()Z"⟩, 50), (⟨"StampTalesModel", "start", "()I"⟩, 50), (⟨"StampTalesModel", "comesTo", "(IIIII)I"⟩, 50), (⟨"StampTalesModel", "goes", "(III)I"⟩, 50), (⟨"StampTalesModel", "stamped", "(IIIII)I"⟩, 50), (⟨"StampTalesModel", "ends", "(I)Z"⟩, 50), (⟨"StampTalesModel", "mayBits", "(II)I"⟩, 50), (⟨"StampTalesModel", "leasts", "(ZI)I"⟩, 50), (⟨"StampTalesModel", "price", "(IZ)I"⟩, 50), (⟨"StampTalesModel", "follows", "()I"⟩, 50), (⟨"StampTalesModel", "sleepless", "()I"⟩, 50), (⟨"StampTalesModel", "wrongStamp", "()I"⟩, 50)]
theorem lw_r6 : ∀ q ∈ lw_privs_6, lw_okq q := List.forall_mem_cons.mpr ⟨lw_p80, List.forall_mem_cons.mpr ⟨lw_p81, List.forall_mem_cons.mpr ⟨lw_p82, List.forall_mem_cons.mpr ⟨lw_p83, List.forall_mem_cons.mpr ⟨lw_p84, List.forall_mem_cons.mpr ⟨lw_p85, List.forall_mem_cons.mpr ⟨lw_p86, List.forall_mem_cons.mpr ⟨lw_p87, List.forall_mem_cons.mpr ⟨lw_p88, List.forall_mem_cons.mpr ⟨lw_p89, List.forall_mem_cons.mpr ⟨lw_p90, List.forall_mem_cons.mpr ⟨lw_p91, fun _ h => absurd h List.not_mem_nil⟩⟩⟩⟩⟩⟩⟩⟩⟩⟩⟩⟩
def lw_privs : List (MethodName × Nat) := lw_privs_1 ++ (lw_privs_2 ++ (lw_privs_3 ++ (lw_privs_4 ++ (lw_privs_5 ++ (lw_privs_6)))))
def lw_tbl : List Cond := k2_sels lw_privs ++ tables_1
theorem lw_privs_ok : ∀ q ∈ lw_privs, lw_okq q := by
  show ∀ q ∈ lw_privs_1 ++ (lw_privs_2 ++ (lw_privs_3 ++ (lw_privs_4 ++ (lw_privs_5 ++ (lw_privs_6))))), lw_okq q
  exact List.forall_mem_append.mpr ⟨lw_r1, List.forall_mem_append.mpr ⟨lw_r2, List.forall_mem_append.mpr ⟨lw_r3, List.forall_mem_append.mpr ⟨lw_r4, List.forall_mem_append.mpr ⟨lw_r5, lw_r6⟩⟩⟩⟩⟩
end
section
def RX0 : String := "StampTales$Atlas"
def TX0 : u_T := fun k => match k with
  | 0 => ("StampTales$Atlas", "lands", "I", false)
  | 1 => ("StampTales$Atlas", "towns", "I", false)
  | 2 => ("StampTales$Atlas", "links", "I", false)
  | 3 => ("StampTales$Atlas", "stamping", "[I", true)
  | 4 => ("StampTales$Atlas", "landOf", "[I", true)
  | 5 => ("StampTales$Atlas", "clock", "[I", true)
  | 6 => ("StampTales$Atlas", "from", "[I", true)
  | 7 => ("StampTales$Atlas", "to", "[I", true)
  | 8 => ("StampTales$Atlas", "hour", "[I", true)
  | 9 => ("StampTales$Atlas", "lasts", "[I", true)
  | 10 => ("StampTales$Atlas", "price", "[I", true)
  | 11 => ("StampTales$Atlas", "daily", "[Z", true)
  | 12 => ("StampTales$Atlas", "outLand", "[I", true)
  | _ => ("StampTales$Atlas", "inLand", "[I", true)
def tyX0 : Nat → FieldType := fun k => match k with
  | 0 => .int
  | 1 => .int
  | 2 => .int
  | 3 => .array .int
  | 4 => .array .int
  | 5 => .array .int
  | 6 => .array .int
  | 7 => .array .int
  | 8 => .array .int
  | 9 => .array .int
  | 10 => .array .int
  | 11 => .array .boolean
  | 12 => .array .int
  | _ => .array .int
theorem nmX0 : ∀ a, a < 14 → ∀ b, b < 14 → a ≠ b → (TX0 a).2.1 ≠ (TX0 b).2.1 := by decide +kernel
theorem tyX0_ok : ∀ k, k < 14 → parseFieldDescriptor (TX0 k).2.2.1 = some (tyX0 k) := by decide +kernel
abbrev cX0_init : ByteArray := prog_2_method_1_code
def yX0_init : MethodName := ⟨RX0, "<init>", "()V"⟩
abbrev cX0_clear : ByteArray := prog_2_method_2_code
def yX0_clear : MethodName := ⟨RX0, "clear", "()V"⟩
abbrev cX0_takeOver : ByteArray := prog_2_method_3_code
def yX0_takeOver : MethodName := ⟨RX0, "takeOver", "(LStampTales$Atlas;)V"⟩
abbrev cX0_addLand : ByteArray := prog_2_method_4_code
def yX0_addLand : MethodName := ⟨RX0, "addLand", "(I)V"⟩
abbrev cX0_addTown : ByteArray := prog_2_method_5_code
def yX0_addTown : MethodName := ⟨RX0, "addTown", "(II)V"⟩
abbrev cX0_addLink : ByteArray := prog_2_method_6_code
def yX0_addLink : MethodName := ⟨RX0, "addLink", "(IIZIII)V"⟩
abbrev cX0_hasLand : ByteArray := prog_2_method_7_code
def yX0_hasLand : MethodName := ⟨RX0, "hasLand", "(I)Z"⟩
abbrev cX0_hasTown : ByteArray := prog_2_method_8_code
def yX0_hasTown : MethodName := ⟨RX0, "hasTown", "(I)Z"⟩
abbrev cX0_hasLink : ByteArray := prog_2_method_9_code
def yX0_hasLink : MethodName := ⟨RX0, "hasLink", "(I)Z"⟩
abbrev cX0_leavesAt : ByteArray := prog_2_method_10_code
def yX0_leavesAt : MethodName := ⟨RX0, "leavesAt", "(II)Z"⟩
abbrev cX0_stampingLand : ByteArray := prog_2_method_11_code
def yX0_stampingLand : MethodName := ⟨RX0, "stampingLand", "(III)I"⟩
abbrev cX0_dayAt : ByteArray := prog_2_method_12_code
def yX0_dayAt : MethodName := ⟨RX0, "dayAt", "(II)I"⟩
def RX1 : String := "StampTales$Findings"
def TX1 : u_T := fun k => match k with
  | 0 => ("StampTales$Findings", "known", "I", false)
  | 1 => ("StampTales$Findings", "ways", "I", false)
  | 2 => ("StampTales$Findings", "taleSize", "I", false)
  | 3 => ("StampTales$Findings", "toDoubt", "I", false)
  | 4 => ("StampTales$Findings", "away", "I", false)
  | 5 => ("StampTales$Findings", "where", "[I", true)
  | 6 => ("StampTales$Findings", "extreme", "[I", true)
  | _ => ("StampTales$Findings", "tale", "[I", true)
def tyX1 : Nat → FieldType := fun k => match k with
  | 0 => .int
  | 1 => .int
  | 2 => .int
  | 3 => .int
  | 4 => .int
  | 5 => .array .int
  | 6 => .array .int
  | _ => .array .int
theorem nmX1 : ∀ a, a < 8 → ∀ b, b < 8 → a ≠ b → (TX1 a).2.1 ≠ (TX1 b).2.1 := by decide +kernel
theorem tyX1_ok : ∀ k, k < 8 → parseFieldDescriptor (TX1 k).2.2.1 = some (tyX1 k) := by decide +kernel
abbrev cX1_init : ByteArray := prog_3_method_1_code
def yX1_init : MethodName := ⟨RX1, "<init>", "()V"⟩
def RX2 : String := "StampTales$Man"
def TX2 : u_T := fun k => match k with
  | 0 => ("StampTales$Man", "home", "I", false)
  | 1 => ("StampTales$Man", "sleep", "I", false)
  | 2 => ("StampTales$Man", "end", "I", false)
  | 3 => ("StampTales$Man", "size", "I", false)
  | 4 => ("StampTales$Man", "changed", "Z", false)
  | 5 => ("StampTales$Man", "kind", "[I", true)
  | 6 => ("StampTales$Man", "place", "[I", true)
  | 7 => ("StampTales$Man", "from", "[I", true)
  | 8 => ("StampTales$Man", "to", "[I", true)
  | 9 => ("StampTales$Man", "out", "[Z", true)
  | _ => ("StampTales$Man", "doubted", "[Z", true)
def tyX2 : Nat → FieldType := fun k => match k with
  | 0 => .int
  | 1 => .int
  | 2 => .int
  | 3 => .int
  | 4 => .boolean
  | 5 => .array .int
  | 6 => .array .int
  | 7 => .array .int
  | 8 => .array .int
  | 9 => .array .boolean
  | _ => .array .boolean
theorem nmX2 : ∀ a, a < 11 → ∀ b, b < 11 → a ≠ b → (TX2 a).2.1 ≠ (TX2 b).2.1 := by decide +kernel
theorem tyX2_ok : ∀ k, k < 11 → parseFieldDescriptor (TX2 k).2.2.1 = some (tyX2 k) := by decide +kernel
abbrev cX2_init : ByteArray := prog_4_method_1_code
def yX2_init : MethodName := ⟨RX2, "<init>", "()V"⟩
abbrev cX2_startAnew : ByteArray := prog_4_method_2_code
def yX2_startAnew : MethodName := ⟨RX2, "startAnew", "()V"⟩
abbrev cX2_settle : ByteArray := prog_4_method_3_code
def yX2_settle : MethodName := ⟨RX2, "settle", "(III)V"⟩
abbrev cX2_add : ByteArray := prog_4_method_4_code
def yX2_add : MethodName := ⟨RX2, "add", "(IIII)I"⟩
abbrev cX2_howMany : ByteArray := prog_4_method_5_code
def yX2_howMany : MethodName := ⟨RX2, "howMany", "(I)I"⟩
abbrev cX2_mostOf : ByteArray := prog_4_method_6_code
def yX2_mostOf : MethodName := ⟨RX2, "mostOf", "(I)I"⟩
abbrev cX2_has : ByteArray := prog_4_method_7_code
def yX2_has : MethodName := ⟨RX2, "has", "(I)Z"⟩
abbrev cX2_setDoubted : ByteArray := prog_4_method_8_code
def yX2_setDoubted : MethodName := ⟨RX2, "setDoubted", "(IZ)Z"⟩
abbrev cX2_dropLast : ByteArray := prog_4_method_9_code
def yX2_dropLast : MethodName := ⟨RX2, "dropLast", "()I"⟩
abbrev cX2_counts : ByteArray := prog_4_method_10_code
def yX2_counts : MethodName := ⟨RX2, "counts", "(II)Z"⟩
abbrev cX2_stampFits : ByteArray := prog_4_method_11_code
def yX2_stampFits : MethodName := ⟨RX2, "stampFits", "(IIZI)Z"⟩
def RX3 : String := "StampTales$Reader"
def TX3 : u_T := fun k => match k with
  | 0 => ("StampTales$Reader", "text", "[B", true)
  | 1 => ("StampTales$Reader", "draft", "LStampTales$Atlas;", true)
  | 2 => ("StampTales$Reader", "landNames", "[J", true)
  | 3 => ("StampTales$Reader", "townNames", "[J", true)
  | 4 => ("StampTales$Reader", "length", "I", false)
  | 5 => ("StampTales$Reader", "start", "I", false)
  | 6 => ("StampTales$Reader", "behind", "I", false)
  | 7 => ("StampTales$Reader", "kind", "I", false)
  | 8 => ("StampTales$Reader", "value", "I", false)
  | _ => ("StampTales$Reader", "code", "J", false)
def tyX3 : Nat → FieldType := fun k => match k with
  | 0 => .array .byte
  | 1 => .object "StampTales$Atlas"
  | 2 => .array .long
  | 3 => .array .long
  | 4 => .int
  | 5 => .int
  | 6 => .int
  | 7 => .int
  | 8 => .int
  | _ => .long
theorem nmX3 : ∀ a, a < 10 → ∀ b, b < 10 → a ≠ b → (TX3 a).2.1 ≠ (TX3 b).2.1 := by decide +kernel
theorem tyX3_ok : ∀ k, k < 10 → parseFieldDescriptor (TX3 k).2.2.1 = some (tyX3 k) := by decide +kernel
abbrev cX3_init : ByteArray := prog_5_method_1_code
def yX3_init : MethodName := ⟨RX3, "<init>", "([BLStampTales$Atlas;)V"⟩
abbrev cX3_faultOf : ByteArray := prog_5_method_2_code
def yX3_faultOf : MethodName := ⟨RX3, "faultOf", "(I)I"⟩
abbrev cX3_readLine : ByteArray := prog_5_method_3_code
def yX3_readLine : MethodName := ⟨RX3, "readLine", "()Z"⟩
abbrev cX3_readLand : ByteArray := prog_5_method_4_code
def yX3_readLand : MethodName := ⟨RX3, "readLand", "()Z"⟩
abbrev cX3_readTown : ByteArray := prog_5_method_5_code
def yX3_readTown : MethodName := ⟨RX3, "readTown", "()Z"⟩
abbrev cX3_readLink : ByteArray := prog_5_method_6_code
def yX3_readLink : MethodName := ⟨RX3, "readLink", "(Z)Z"⟩
abbrev cX3_passWord : ByteArray := prog_5_method_7_code
def yX3_passWord : MethodName := ⟨RX3, "passWord", "(Ljava/lang/String;)Z"⟩
abbrev cX3_isNumber : ByteArray := prog_5_method_8_code
def yX3_isNumber : MethodName := ⟨RX3, "isNumber", "(II)Z"⟩
abbrev cX3_howOfWord : ByteArray := prog_5_method_9_code
def yX3_howOfWord : MethodName := ⟨RX3, "howOfWord", "()I"⟩
abbrev cX3_isNewName : ByteArray := prog_5_method_10_code
def yX3_isNewName : MethodName := ⟨RX3, "isNewName", "()Z"⟩
abbrev cX3_isKept : ByteArray := prog_5_method_11_code
def yX3_isKept : MethodName := ⟨RX3, "isKept", "()Z"⟩
abbrev cX3_landOfWord : ByteArray := prog_5_method_12_code
def yX3_landOfWord : MethodName := ⟨RX3, "landOfWord", "()I"⟩
abbrev cX3_townOfWord : ByteArray := prog_5_method_13_code
def yX3_townOfWord : MethodName := ⟨RX3, "townOfWord", "()I"⟩
abbrev cX3_placeOfName : ByteArray := prog_5_method_14_code
def yX3_placeOfName : MethodName := ⟨RX3, "placeOfName", "([JI)I"⟩
abbrev cX3_isWord : ByteArray := prog_5_method_15_code
def yX3_isWord : MethodName := ⟨RX3, "isWord", "(Ljava/lang/String;)Z"⟩
abbrev cX3_next : ByteArray := prog_5_method_16_code
def yX3_next : MethodName := ⟨RX3, "next", "()V"⟩
abbrev cX3_takeWord : ByteArray := prog_5_method_17_code
def yX3_takeWord : MethodName := ⟨RX3, "takeWord", "()V"⟩
abbrev cX3_takeNumber : ByteArray := prog_5_method_18_code
def yX3_takeNumber : MethodName := ⟨RX3, "takeNumber", "()V"⟩
abbrev cX3_isLetter : ByteArray := prog_5_method_19_code
def yX3_isLetter : MethodName := ⟨RX3, "isLetter", "(I)Z"⟩
abbrev cX3_isDigit : ByteArray := prog_5_method_20_code
def yX3_isDigit : MethodName := ⟨RX3, "isDigit", "(I)Z"⟩
def RX4 : String := "StampTales$Search"
def TX4 : u_T := fun k => match k with
  | 0 => ("StampTales$Search", "man", "LStampTales$Man;", true)
  | 1 => ("StampTales$Search", "atlas", "LStampTales$Atlas;", true)
  | 2 => ("StampTales$Search", "table", "[I", true)
  | 3 => ("StampTales$Search", "found", "LStampTales$Findings;", true)
  | 4 => ("StampTales$Search", "cells", "[I", true)
  | 5 => ("StampTales$Search", "leaving", "[I", true)
  | 6 => ("StampTales$Search", "stampTrace", "[I", true)
  | 7 => ("StampTales$Search", "lookTrace", "[I", true)
  | 8 => ("StampTales$Search", "cellCount", "I", false)
  | 9 => ("StampTales$Search", "stamps", "I", false)
  | 10 => ("StampTales$Search", "looks", "I", false)
  | 11 => ("StampTales$Search", "papers", "I", false)
  | _ => ("StampTales$Search", "aim", "I", false)
def tyX4 : Nat → FieldType := fun k => match k with
  | 0 => .object "StampTales$Man"
  | 1 => .object "StampTales$Atlas"
  | 2 => .array .int
  | 3 => .object "StampTales$Findings"
  | 4 => .array .int
  | 5 => .array .int
  | 6 => .array .int
  | 7 => .array .int
  | 8 => .int
  | 9 => .int
  | 10 => .int
  | 11 => .int
  | _ => .int
theorem nmX4 : ∀ a, a < 13 → ∀ b, b < 13 → a ≠ b → (TX4 a).2.1 ≠ (TX4 b).2.1 := by decide +kernel
theorem tyX4_ok : ∀ k, k < 13 → parseFieldDescriptor (TX4 k).2.2.1 = some (tyX4 k) := by decide +kernel
abbrev cX4_init : ByteArray := prog_6_method_1_code
def yX4_init : MethodName := ⟨RX4, "<init>", "(LStampTales$Atlas;LStampTales$Man;[I)V"⟩
abbrev cX4_howManyWays : ByteArray := prog_6_method_2_code
def yX4_howManyWays : MethodName := ⟨RX4, "howManyWays", "()I"⟩
abbrev cX4_whereAt : ByteArray := prog_6_method_3_code
def yX4_whereAt : MethodName := ⟨RX4, "whereAt", "(I)I"⟩
abbrev cX4_extremeOf : ByteArray := prog_6_method_4_code
def yX4_extremeOf : MethodName := ⟨RX4, "extremeOf", "(I)I"⟩
abbrev cX4_taleAt : ByteArray := prog_6_method_5_code
def yX4_taleAt : MethodName := ⟨RX4, "taleAt", "(I)I"⟩
abbrev cX4_fewestToDoubt : ByteArray := prog_6_method_6_code
def yX4_fewestToDoubt : MethodName := ⟨RX4, "fewestToDoubt", "()I"⟩
abbrev cX4_freestWithout : ByteArray := prog_6_method_7_code
def yX4_freestWithout : MethodName := ⟨RX4, "freestWithout", "()I"⟩
abbrev cX4_mustLearn : ByteArray := prog_6_method_8_code
def yX4_mustLearn : MethodName := ⟨RX4, "mustLearn", "(I)Z"⟩
abbrev cX4_learnWhere : ByteArray := prog_6_method_9_code
def yX4_learnWhere : MethodName := ⟨RX4, "learnWhere", "()V"⟩
abbrev cX4_goOnFrom : ByteArray := prog_6_method_10_code
def yX4_goOnFrom : MethodName := ⟨RX4, "goOnFrom", "(II)V"⟩
abbrev cX4_reach : ByteArray := prog_6_method_11_code
def yX4_reach : MethodName := ⟨RX4, "reach", "(II)Z"⟩
abbrev cX4_followTale : ByteArray := prog_6_method_12_code
def yX4_followTale : MethodName := ⟨RX4, "followTale", "()V"⟩
abbrev cX4_firstMove : ByteArray := prog_6_method_13_code
def yX4_firstMove : MethodName := ⟨RX4, "firstMove", "(II)I"⟩
abbrev cX4_prepare : ByteArray := prog_6_method_14_code
def yX4_prepare : MethodName := ⟨RX4, "prepare", "(I)V"⟩
abbrev cX4_linksLeaving : ByteArray := prog_6_method_15_code
def yX4_linksLeaving : MethodName := ⟨RX4, "linksLeaving", "(I)I"⟩
abbrev cX4_listCells : ByteArray := prog_6_method_16_code
def yX4_listCells : MethodName := ⟨RX4, "listCells", "()V"⟩
abbrev cX4_fill : ByteArray := prog_6_method_17_code
def yX4_fill : MethodName := ⟨RX4, "fill", "(I)V"⟩
abbrev cX4_valueOf : ByteArray := prog_6_method_18_code
def yX4_valueOf : MethodName := ⟨RX4, "valueOf", "(II)I"⟩
abbrev cX4_valueAtEnd : ByteArray := prog_6_method_19_code
def yX4_valueAtEnd : MethodName := ⟨RX4, "valueAtEnd", "(I)I"⟩
abbrev cX4_valueByStay : ByteArray := prog_6_method_20_code
def yX4_valueByStay : MethodName := ⟨RX4, "valueByStay", "(II)I"⟩
abbrev cX4_valueByLink : ByteArray := prog_6_method_21_code
def yX4_valueByLink : MethodName := ⟨RX4, "valueByLink", "(III)I"⟩
abbrev cX4_weightOf : ByteArray := prog_6_method_22_code
def yX4_weightOf : MethodName := ⟨RX4, "weightOf", "(I)I"⟩
abbrev cX4_join : ByteArray := prog_6_method_23_code
def yX4_join : MethodName := ⟨RX4, "join", "(II)I"⟩
abbrev cX4_charge : ByteArray := prog_6_method_24_code
def yX4_charge : MethodName := ⟨RX4, "charge", "(II)I"⟩
abbrev cX4_canTake : ByteArray := prog_6_method_25_code
def yX4_canTake : MethodName := ⟨RX4, "canTake", "(III)Z"⟩
abbrev cX4_afterStay : ByteArray := prog_6_method_26_code
def yX4_afterStay : MethodName := ⟨RX4, "afterStay", "(II)I"⟩
abbrev cX4_afterLink : ByteArray := prog_6_method_27_code
def yX4_afterLink : MethodName := ⟨RX4, "afterLink", "(IIII)I"⟩
abbrev cX4_sleptAfter : ByteArray := prog_6_method_28_code
def yX4_sleptAfter : MethodName := ⟨RX4, "sleptAfter", "(III)I"⟩
abbrev cX4_seenAt : ByteArray := prog_6_method_29_code
def yX4_seenAt : MethodName := ⟨RX4, "seenAt", "(II)I"⟩
abbrev cX4_papersMissed : ByteArray := prog_6_method_30_code
def yX4_papersMissed : MethodName := ⟨RX4, "papersMissed", "(II)I"⟩
abbrev cX4_papersBetween : ByteArray := prog_6_method_31_code
def yX4_papersBetween : MethodName := ⟨RX4, "papersBetween", "(II)I"⟩
abbrev cX4_startCell : ByteArray := prog_6_method_32_code
def yX4_startCell : MethodName := ⟨RX4, "startCell", "()I"⟩
abbrev cX4_valueAtStart : ByteArray := prog_6_method_33_code
def yX4_valueAtStart : MethodName := ⟨RX4, "valueAtStart", "()I"⟩
abbrev cX4_cellOf : ByteArray := prog_6_method_34_code
def yX4_cellOf : MethodName := ⟨RX4, "cellOf", "(IIII)I"⟩
abbrev cX4_townOf : ByteArray := prog_6_method_35_code
def yX4_townOf : MethodName := ⟨RX4, "townOf", "(I)I"⟩
abbrev cX4_stampsOf : ByteArray := prog_6_method_36_code
def yX4_stampsOf : MethodName := ⟨RX4, "stampsOf", "(I)I"⟩
abbrev cX4_mostSlept : ByteArray := prog_6_method_37_code
def yX4_mostSlept : MethodName := ⟨RX4, "mostSlept", "(I)I"⟩
abbrev cX4_index : ByteArray := prog_6_method_38_code
def yX4_index : MethodName := ⟨RX4, "index", "(II)I"⟩
def RX5 : String := "StampTales$Story"
def TX5 : u_T := fun k => match k with
  | 0 => ("StampTales$Story", "size", "I", false)
  | 1 => ("StampTales$Story", "atlas", "LStampTales$Atlas;", true)
  | 2 => ("StampTales$Story", "links", "[I", true)
  | 3 => ("StampTales$Story", "hours", "[I", true)
  | 4 => ("StampTales$Story", "where", "[I", true)
  | _ => ("StampTales$Story", "stays", "[Z", true)
def tyX5 : Nat → FieldType := fun k => match k with
  | 0 => .int
  | 1 => .object "StampTales$Atlas"
  | 2 => .array .int
  | 3 => .array .int
  | 4 => .array .int
  | _ => .array .boolean
theorem nmX5 : ∀ a, a < 6 → ∀ b, b < 6 → a ≠ b → (TX5 a).2.1 ≠ (TX5 b).2.1 := by decide +kernel
theorem tyX5_ok : ∀ k, k < 6 → parseFieldDescriptor (TX5 k).2.2.1 = some (tyX5 k) := by decide +kernel
abbrev cX5_init : ByteArray := prog_7_method_1_code
def yX5_init : MethodName := ⟨RX5, "<init>", "(LStampTales$Atlas;)V"⟩
abbrev cX5_add : ByteArray := prog_7_method_2_code
def yX5_add : MethodName := ⟨RX5, "add", "(II)I"⟩
abbrev cX5_barOf : ByteArray := prog_7_method_3_code
def yX5_barOf : MethodName := ⟨RX5, "barOf", "(LStampTales$Man;)I"⟩
abbrev cX5_wrongLeg : ByteArray := prog_7_method_4_code
def yX5_wrongLeg : MethodName := ⟨RX5, "wrongLeg", "(LStampTales$Man;)I"⟩
abbrev cX5_stay : ByteArray := prog_7_method_5_code
def yX5_stay : MethodName := ⟨RX5, "stay", "(III)V"⟩
abbrev cX5_sleeplessDay : ByteArray := prog_7_method_6_code
def yX5_sleeplessDay : MethodName := ⟨RX5, "sleeplessDay", "(LStampTales$Man;)I"⟩
abbrev cX5_wrongStamp : ByteArray := prog_7_method_7_code
def yX5_wrongStamp : MethodName := ⟨RX5, "wrongStamp", "(LStampTales$Man;)I"⟩
abbrev cX5_stampBehind : ByteArray := prog_7_method_8_code
def yX5_stampBehind : MethodName := ⟨RX5, "stampBehind", "(LStampTales$Man;I)I"⟩
abbrev cX5_missedPaper : ByteArray := prog_7_method_9_code
def yX5_missedPaper : MethodName := ⟨RX5, "missedPaper", "(LStampTales$Man;)I"⟩
abbrev cX5_missedLook : ByteArray := prog_7_method_10_code
def yX5_missedLook : MethodName := ⟨RX5, "missedLook", "(LStampTales$Man;)I"⟩
abbrev cX5_isSeen : ByteArray := prog_7_method_11_code
def yX5_isSeen : MethodName := ⟨RX5, "isSeen", "(LStampTales$Man;I)Z"⟩
def RX6 : String := "StampTales"
def TX6 : u_T := fun k => match k with
  | 0 => ("StampTales", "text", "[B", true)
  | 1 => ("StampTales", "length", "I", false)
  | 2 => ("StampTales", "atlas", "LStampTales$Atlas;", true)
  | 3 => ("StampTales", "draft", "LStampTales$Atlas;", true)
  | 4 => ("StampTales", "reader", "LStampTales$Reader;", true)
  | 5 => ("StampTales", "first", "LStampTales$Search;", true)
  | 6 => ("StampTales", "second", "LStampTales$Search;", true)
  | _ => ("StampTales", "story", "LStampTales$Story;", true)
def tyX6 : Nat → FieldType := fun k => match k with
  | 0 => .array .byte
  | 1 => .int
  | 2 => .object "StampTales$Atlas"
  | 3 => .object "StampTales$Atlas"
  | 4 => .object "StampTales$Reader"
  | 5 => .object "StampTales$Search"
  | 6 => .object "StampTales$Search"
  | _ => .object "StampTales$Story"
theorem nmX6 : ∀ a, a < 8 → ∀ b, b < 8 → a ≠ b → (TX6 a).2.1 ≠ (TX6 b).2.1 := by decide +kernel
theorem tyX6_ok : ∀ k, k < 8 → parseFieldDescriptor (TX6 k).2.2.1 = some (tyX6 k) := by decide +kernel
abbrev cX6_init : ByteArray := prog_1_method_1_code
def yX6_init : MethodName := ⟨RX6, "<init>", "()V"⟩
abbrev cX6_feed : ByteArray := prog_1_method_2_code
def yX6_feed : MethodName := ⟨RX6, "feed", "(IIIII)I"⟩
abbrev cX6_append : ByteArray := prog_1_method_3_code
def yX6_append : MethodName := ⟨RX6, "append", "(I)V"⟩
abbrev cX6_end : ByteArray := prog_1_method_4_code
def yX6_end : MethodName := ⟨RX6, "end", "(I)Z"⟩
abbrev cX6_fault : ByteArray := prog_1_method_5_code
def yX6_fault : MethodName := ⟨RX6, "fault", "()I"⟩
abbrev cX6_map : ByteArray := prog_1_method_6_code
def yX6_map : MethodName := ⟨RX6, "map", "()I"⟩
abbrev cX6_man : ByteArray := prog_1_method_7_code
def yX6_man : MethodName := ⟨RX6, "man", "(IIII)Z"⟩
abbrev cX6_stamp : ByteArray := prog_1_method_8_code
def yX6_stamp : MethodName := ⟨RX6, "stamp", "(IIZII)I"⟩
abbrev cX6_paper : ByteArray := prog_1_method_9_code
def yX6_paper : MethodName := ⟨RX6, "paper", "(III)I"⟩
abbrev cX6_look : ByteArray := prog_1_method_10_code
def yX6_look : MethodName := ⟨RX6, "look", "(IIII)I"⟩
abbrev cX6_doubt : ByteArray := prog_1_method_11_code
def yX6_doubt : MethodName := ⟨RX6, "doubt", "(IIZ)Z"⟩
abbrev cX6_undo : ByteArray := prog_1_method_12_code
def yX6_undo : MethodName := ⟨RX6, "undo", "(I)I"⟩
abbrev cX6_link : ByteArray := prog_1_method_13_code
def yX6_link : MethodName := ⟨RX6, "link", "(II)I"⟩
abbrev cX6_town : ByteArray := prog_1_method_14_code
def yX6_town : MethodName := ⟨RX6, "town", "(II)I"⟩
abbrev cX6_trace : ByteArray := prog_1_method_15_code
def yX6_trace : MethodName := ⟨RX6, "trace", "(III)I"⟩
abbrev cX6_ways : ByteArray := prog_1_method_16_code
def yX6_ways : MethodName := ⟨RX6, "ways", "(I)I"⟩
abbrev cX6_may : ByteArray := prog_1_method_17_code
def yX6_may : MethodName := ⟨RX6, "may", "(II)I"⟩
abbrev cX6_surely : ByteArray := prog_1_method_18_code
def yX6_surely : MethodName := ⟨RX6, "surely", "(II)I"⟩
abbrev cX6_extreme : ByteArray := prog_1_method_19_code
def yX6_extreme : MethodName := ⟨RX6, "extreme", "(II)I"⟩
abbrev cX6_tale : ByteArray := prog_1_method_20_code
def yX6_tale : MethodName := ⟨RX6, "tale", "(II)I"⟩
abbrev cX6_toDoubt : ByteArray := prog_1_method_21_code
def yX6_toDoubt : MethodName := ⟨RX6, "toDoubt", "(I)I"⟩
abbrev cX6_away : ByteArray := prog_1_method_22_code
def yX6_away : MethodName := ⟨RX6, "away", "(I)I"⟩
abbrev cX6_met : ByteArray := prog_1_method_23_code
def yX6_met : MethodName := ⟨RX6, "met", "(IZ)I"⟩
abbrev cX6_leg : ByteArray := prog_1_method_24_code
def yX6_leg : MethodName := ⟨RX6, "leg", "(II)I"⟩
abbrev cX6_forget : ByteArray := prog_1_method_25_code
def yX6_forget : MethodName := ⟨RX6, "forget", "()I"⟩
abbrev cX6_barred : ByteArray := prog_1_method_26_code
def yX6_barred : MethodName := ⟨RX6, "barred", "(I)I"⟩
abbrev cX6_count : ByteArray := prog_1_method_27_code
def yX6_count : MethodName := ⟨RX6, "count", "(I)I"⟩
abbrev cX6_isMan : ByteArray := prog_1_method_28_code
def yX6_isMan : MethodName := ⟨RX6, "isMan", "(I)Z"⟩
abbrev cX6_searchOf : ByteArray := prog_1_method_29_code
def yX6_searchOf : MethodName := ⟨RX6, "searchOf", "(I)LStampTales$Search;"⟩
abbrev cX6_isTimeOf : ByteArray := prog_1_method_30_code
def yX6_isTimeOf : MethodName := ⟨RX6, "isTimeOf", "(II)Z"⟩
abbrev cX6_isHour : ByteArray := prog_1_method_31_code
def yX6_isHour : MethodName := ⟨RX6, "isHour", "(I)Z"⟩
abbrev cX6_isOneTown : ByteArray := prog_1_method_32_code
def yX6_isOneTown : MethodName := ⟨RX6, "isOneTown", "(I)Z"⟩
def RX7 : String := "StampTalesModel"
def TX7 : u_T := fun k => match k with
  | 0 => ("StampTalesModel", "text", "[B", true)
  | 1 => ("StampTalesModel", "size", "I", false)
  | 2 => ("StampTalesModel", "at", "I", false)
  | 3 => ("StampTalesModel", "kind", "I", false)
  | 4 => ("StampTalesModel", "tokenAt", "I", false)
  | 5 => ("StampTalesModel", "value", "J", false)
  | 6 => ("StampTalesModel", "newLands", "I", false)
  | 7 => ("StampTalesModel", "newLandName", "[J", true)
  | 8 => ("StampTalesModel", "newHow", "[I", true)
  | 9 => ("StampTalesModel", "newTowns", "I", false)
  | 10 => ("StampTalesModel", "newTownName", "[J", true)
  | 11 => ("StampTalesModel", "newLandOf", "[I", true)
  | 12 => ("StampTalesModel", "newClock", "[I", true)
  | 13 => ("StampTalesModel", "newLinks", "I", false)
  | 14 => ("StampTalesModel", "newLink", "[I", true)
  | 15 => ("StampTalesModel", "lands", "I", false)
  | 16 => ("StampTalesModel", "how", "[I", true)
  | 17 => ("StampTalesModel", "towns", "I", false)
  | 18 => ("StampTalesModel", "landOf", "[I", true)
  | 19 => ("StampTalesModel", "clock", "[I", true)
  | 20 => ("StampTalesModel", "links", "I", false)
  | 21 => ("StampTalesModel", "linkRow", "[I", true)
  | 22 => ("StampTalesModel", "home", "[I", true)
  | 23 => ("StampTalesModel", "sleep", "[I", true)
  | 24 => ("StampTalesModel", "last", "[I", true)
  | 25 => ("StampTalesModel", "traces", "[I", true)
  | 26 => ("StampTalesModel", "traceKind", "[I", true)
  | 27 => ("StampTalesModel", "traceOf", "[I", true)
  | 28 => ("StampTalesModel", "traceFrom", "[I", true)
  | 29 => ("StampTalesModel", "traceTo", "[I", true)
  | 30 => ("StampTalesModel", "traceOut", "[I", true)
  | 31 => ("StampTalesModel", "isDoubted", "[Z", true)
  | 32 => ("StampTalesModel", "legs", "I", false)
  | 33 => ("StampTalesModel", "legLink", "[I", true)
  | 34 => ("StampTalesModel", "legAt", "[I", true)
  | 35 => ("StampTalesModel", "number", "I", false)
  | 36 => ("StampTalesModel", "m", "I", false)
  | 37 => ("StampTalesModel", "stampMany", "I", false)
  | 38 => ("StampTalesModel", "stampOf", "[I", true)
  | 39 => ("StampTalesModel", "paperAt", "[I", true)
  | 40 => ("StampTalesModel", "lookMany", "I", false)
  | 41 => ("StampTalesModel", "lookTown", "[I", true)
  | 42 => ("StampTalesModel", "lookFrom", "[I", true)
  | 43 => ("StampTalesModel", "lookTo", "[I", true)
  | 44 => ("StampTalesModel", "nextHour", "I", false)
  | 45 => ("StampTalesModel", "on", "[I", true)
  | 46 => ("StampTalesModel", "least", "[I", true)
  | 47 => ("StampTalesModel", "isCome", "[Z", true)
  | 48 => ("StampTalesModel", "is", "[I", true)
  | _ => ("StampTalesModel", "stays", "[Z", true)
def tyX7 : Nat → FieldType := fun k => match k with
  | 0 => .array .byte
  | 1 => .int
  | 2 => .int
  | 3 => .int
  | 4 => .int
  | 5 => .long
  | 6 => .int
  | 7 => .array .long
  | 8 => .array .int
  | 9 => .int
  | 10 => .array .long
  | 11 => .array .int
  | 12 => .array .int
  | 13 => .int
  | 14 => .array .int
  | 15 => .int
  | 16 => .array .int
  | 17 => .int
  | 18 => .array .int
  | 19 => .array .int
  | 20 => .int
  | 21 => .array .int
  | 22 => .array .int
  | 23 => .array .int
  | 24 => .array .int
  | 25 => .array .int
  | 26 => .array .int
  | 27 => .array .int
  | 28 => .array .int
  | 29 => .array .int
  | 30 => .array .int
  | 31 => .array .boolean
  | 32 => .int
  | 33 => .array .int
  | 34 => .array .int
  | 35 => .int
  | 36 => .int
  | 37 => .int
  | 38 => .array .int
  | 39 => .array .int
  | 40 => .int
  | 41 => .array .int
  | 42 => .array .int
  | 43 => .array .int
  | 44 => .int
  | 45 => .array .int
  | 46 => .array .int
  | 47 => .array .boolean
  | 48 => .array .int
  | _ => .array .boolean
theorem nmX7 : ∀ a, a < 50 → ∀ b, b < 50 → a ≠ b → (TX7 a).2.1 ≠ (TX7 b).2.1 := by decide +kernel
theorem tyX7_ok : ∀ k, k < 50 → parseFieldDescriptor (TX7 k).2.2.1 = some (tyX7 k) := by decide +kernel
abbrev cX7_init : ByteArray := prog_9_method_1_code
def yX7_init : MethodName := ⟨RX7, "<init>", "()V"⟩
abbrev cX7_in : ByteArray := prog_9_method_2_code
def yX7_in : MethodName := ⟨RX7, "in", "(III)Z"⟩
abbrev cX7_feed : ByteArray := prog_9_method_3_code
def yX7_feed : MethodName := ⟨RX7, "feed", "(IIIII)I"⟩
abbrev cX7_end : ByteArray := prog_9_method_4_code
def yX7_end : MethodName := ⟨RX7, "end", "(I)Z"⟩
abbrev cX7_isLetter : ByteArray := prog_9_method_5_code
def yX7_isLetter : MethodName := ⟨RX7, "isLetter", "(I)Z"⟩
abbrev cX7_isDigit : ByteArray := prog_9_method_6_code
def yX7_isDigit : MethodName := ⟨RX7, "isDigit", "(I)Z"⟩
abbrev cX7_next : ByteArray := prog_9_method_7_code
def yX7_next : MethodName := ⟨RX7, "next", "()V"⟩
abbrev cX7_packed : ByteArray := prog_9_method_8_code
def yX7_packed : MethodName := ⟨RX7, "packed", "(Ljava/lang/String;)J"⟩
abbrev cX7_isWord : ByteArray := prog_9_method_9_code
def yX7_isWord : MethodName := ⟨RX7, "isWord", "(Ljava/lang/String;)Z"⟩
abbrev cX7_isName : ByteArray := prog_9_method_10_code
def yX7_isName : MethodName := ⟨RX7, "isName", "()Z"⟩
abbrev cX7_word : ByteArray := prog_9_method_11_code
def yX7_word : MethodName := ⟨RX7, "word", "(Ljava/lang/String;)Z"⟩
abbrev cX7_closes : ByteArray := prog_9_method_12_code
def yX7_closes : MethodName := ⟨RX7, "closes", "()Z"⟩
abbrev cX7_number : ByteArray := prog_9_method_13_code
def yX7_number : MethodName := ⟨RX7, "number", "(II)Z"⟩
abbrev cX7_landHere : ByteArray := prog_9_method_14_code
def yX7_landHere : MethodName := ⟨RX7, "landHere", "()I"⟩
abbrev cX7_townHere : ByteArray := prog_9_method_15_code
def yX7_townHere : MethodName := ⟨RX7, "townHere", "()I"⟩
abbrev cX7_isNew : ByteArray := prog_9_method_16_code
def yX7_isNew : MethodName := ⟨RX7, "isNew", "()Z"⟩
abbrev cX7_landLine : ByteArray := prog_9_method_17_code
def yX7_landLine : MethodName := ⟨RX7, "landLine", "()Z"⟩
abbrev cX7_townLine : ByteArray := prog_9_method_18_code
def yX7_townLine : MethodName := ⟨RX7, "townLine", "()Z"⟩
abbrev cX7_linkLine : ByteArray := prog_9_method_19_code
def yX7_linkLine : MethodName := ⟨RX7, "linkLine", "(Z)Z"⟩
abbrev cX7_line : ByteArray := prog_9_method_20_code
def yX7_line : MethodName := ⟨RX7, "line", "()Z"⟩
abbrev cX7_fault : ByteArray := prog_9_method_21_code
def yX7_fault : MethodName := ⟨RX7, "fault", "()I"⟩
abbrev cX7_map : ByteArray := prog_9_method_22_code
def yX7_map : MethodName := ⟨RX7, "map", "()I"⟩
abbrev cX7_isMan : ByteArray := prog_9_method_23_code
def yX7_isMan : MethodName := ⟨RX7, "isMan", "(I)Z"⟩
abbrev cX7_isTown : ByteArray := prog_9_method_24_code
def yX7_isTown : MethodName := ⟨RX7, "isTown", "(I)Z"⟩
abbrev cX7_isLink : ByteArray := prog_9_method_25_code
def yX7_isLink : MethodName := ⟨RX7, "isLink", "(I)Z"⟩
abbrev cX7_isTrace : ByteArray := prog_9_method_26_code
def yX7_isTrace : MethodName := ⟨RX7, "isTrace", "(II)Z"⟩
abbrev cX7_ofLink : ByteArray := prog_9_method_27_code
def yX7_ofLink : MethodName := ⟨RX7, "ofLink", "(II)I"⟩
abbrev cX7_man : ByteArray := prog_9_method_28_code
def yX7_man : MethodName := ⟨RX7, "man", "(IIII)Z"⟩
abbrev cX7_many : ByteArray := prog_9_method_29_code
def yX7_many : MethodName := ⟨RX7, "many", "(II)I"⟩
abbrev cX7_left : ByteArray := prog_9_method_30_code
def yX7_left : MethodName := ⟨RX7, "left", "(IIIIII)I"⟩
abbrev cX7_stamp : ByteArray := prog_9_method_31_code
def yX7_stamp : MethodName := ⟨RX7, "stamp", "(IIZII)I"⟩
abbrev cX7_paper : ByteArray := prog_9_method_32_code
def yX7_paper : MethodName := ⟨RX7, "paper", "(III)I"⟩
abbrev cX7_look : ByteArray := prog_9_method_33_code
def yX7_look : MethodName := ⟨RX7, "look", "(IIII)I"⟩
abbrev cX7_doubt : ByteArray := prog_9_method_34_code
def yX7_doubt : MethodName := ⟨RX7, "doubt", "(IIZ)Z"⟩
abbrev cX7_undo : ByteArray := prog_9_method_35_code
def yX7_undo : MethodName := ⟨RX7, "undo", "(I)I"⟩
abbrev cX7_link : ByteArray := prog_9_method_36_code
def yX7_link : MethodName := ⟨RX7, "link", "(II)I"⟩
abbrev cX7_town : ByteArray := prog_9_method_37_code
def yX7_town : MethodName := ⟨RX7, "town", "(II)I"⟩
abbrev cX7_trace : ByteArray := prog_9_method_38_code
def yX7_trace : MethodName := ⟨RX7, "trace", "(III)I"⟩
abbrev cX7_sets : ByteArray := prog_9_method_39_code
def yX7_sets : MethodName := ⟨RX7, "sets", "(II)V"⟩
abbrev cX7_stateOf : ByteArray := prog_9_method_40_code
def yX7_stateOf : MethodName := ⟨RX7, "stateOf", "(IIII)I"⟩
abbrev cX7_comesTo : ByteArray := prog_9_method_41_code
def yX7_comesTo : MethodName := ⟨RX7, "comesTo", "(IIIII)I"⟩
abbrev cX7_stamped : ByteArray := prog_9_method_42_code
def yX7_stamped : MethodName := ⟨RX7, "stamped", "(IIIII)I"⟩
abbrev cX7_goes : ByteArray := prog_9_method_43_code
def yX7_goes : MethodName := ⟨RX7, "goes", "(III)I"⟩
abbrev cX7_start : ByteArray := prog_9_method_44_code
def yX7_start : MethodName := ⟨RX7, "start", "()I"⟩
abbrev cX7_ends : ByteArray := prog_9_method_45_code
def yX7_ends : MethodName := ⟨RX7, "ends", "(I)Z"⟩
abbrev cX7_finds : ByteArray := prog_9_method_46_code
def yX7_finds : MethodName := ⟨RX7, "finds", "()Z"⟩
abbrev cX7_counts : ByteArray := prog_9_method_47_code
def yX7_counts : MethodName := ⟨RX7, "counts", "()I"⟩
abbrev cX7_ways : ByteArray := prog_9_method_48_code
def yX7_ways : MethodName := ⟨RX7, "ways", "(I)I"⟩
abbrev cX7_mayBits : ByteArray := prog_9_method_49_code
def yX7_mayBits : MethodName := ⟨RX7, "mayBits", "(II)I"⟩
abbrev cX7_ones : ByteArray := prog_9_method_50_code
def yX7_ones : MethodName := ⟨RX7, "ones", "(I)I"⟩
abbrev cX7_may : ByteArray := prog_9_method_51_code
def yX7_may : MethodName := ⟨RX7, "may", "(II)I"⟩
abbrev cX7_surely : ByteArray := prog_9_method_52_code
def yX7_surely : MethodName := ⟨RX7, "surely", "(II)I"⟩
abbrev cX7_leasts : ByteArray := prog_9_method_53_code
def yX7_leasts : MethodName := ⟨RX7, "leasts", "(ZI)I"⟩
abbrev cX7_price : ByteArray := prog_9_method_54_code
def yX7_price : MethodName := ⟨RX7, "price", "(IZ)I"⟩
abbrev cX7_extreme : ByteArray := prog_9_method_55_code
def yX7_extreme : MethodName := ⟨RX7, "extreme", "(II)I"⟩
abbrev cX7_tale : ByteArray := prog_9_method_56_code
def yX7_tale : MethodName := ⟨RX7, "tale", "(II)I"⟩
abbrev cX7_toDoubt : ByteArray := prog_9_method_57_code
def yX7_toDoubt : MethodName := ⟨RX7, "toDoubt", "(I)I"⟩
abbrev cX7_away : ByteArray := prog_9_method_58_code
def yX7_away : MethodName := ⟨RX7, "away", "(I)I"⟩
abbrev cX7_met : ByteArray := prog_9_method_59_code
def yX7_met : MethodName := ⟨RX7, "met", "(IZ)I"⟩
abbrev cX7_leg : ByteArray := prog_9_method_60_code
def yX7_leg : MethodName := ⟨RX7, "leg", "(II)I"⟩
abbrev cX7_forget : ByteArray := prog_9_method_61_code
def yX7_forget : MethodName := ⟨RX7, "forget", "()I"⟩
abbrev cX7_follows : ByteArray := prog_9_method_62_code
def yX7_follows : MethodName := ⟨RX7, "follows", "()I"⟩
abbrev cX7_sleepless : ByteArray := prog_9_method_63_code
def yX7_sleepless : MethodName := ⟨RX7, "sleepless", "()I"⟩
abbrev cX7_wrongStamp : ByteArray := prog_9_method_64_code
def yX7_wrongStamp : MethodName := ⟨RX7, "wrongStamp", "()I"⟩
abbrev cX7_barred : ByteArray := prog_9_method_65_code
def yX7_barred : MethodName := ⟨RX7, "barred", "(I)I"⟩
abbrev cX7_count : ByteArray := prog_9_method_66_code
def yX7_count : MethodName := ⟨RX7, "count", "(I)I"⟩
def RJ6 : String := "java/lang/Integer"
def TJ6 : u_T := fun k => match k with
  | _ => ("", "", "", false)
def tyJ6 : Nat → FieldType := fun k => match k with
  | _ => .int
theorem nmJ6 : ∀ a, a < 0 → ∀ b, b < 0 → a ≠ b → (TJ6 a).2.1 ≠ (TJ6 b).2.1 := by decide +kernel
theorem tyJ6_ok : ∀ k, k < 0 → parseFieldDescriptor (TJ6 k).2.2.1 = some (tyJ6 k) := by decide +kernel
abbrev cJ6_numberOfTrailingZeros_0f7a4 : ByteArray := prog_10_method_48_code
def yJ6_numberOfTrailingZeros_0f7a4 : MethodName := ⟨RJ6, "numberOfTrailingZeros", "(I)I"⟩
abbrev cJ6_bitCount_0f7a4 : ByteArray := prog_10_method_49_code
def yJ6_bitCount_0f7a4 : MethodName := ⟨RJ6, "bitCount", "(I)I"⟩
def RJ9 : String := "java/lang/Math"
def TJ9 : u_T := fun k => match k with
  | _ => ("", "", "", false)
def tyJ9 : Nat → FieldType := fun k => match k with
  | _ => .int
theorem nmJ9 : ∀ a, a < 0 → ∀ b, b < 0 → a ≠ b → (TJ9 a).2.1 ≠ (TJ9 b).2.1 := by decide +kernel
theorem tyJ9_ok : ∀ k, k < 0 → parseFieldDescriptor (TJ9 k).2.2.1 = some (tyJ9 k) := by decide +kernel
abbrev cJ9_floorDiv_7cf53 : ByteArray := prog_11_method_47_code
def yJ9_floorDiv_7cf53 : MethodName := ⟨RJ9, "floorDiv", "(II)I"⟩
abbrev cJ9_max_7cf53 : ByteArray := prog_11_method_65_code
def yJ9_max_7cf53 : MethodName := ⟨RJ9, "max", "(II)I"⟩
abbrev cJ9_min_7cf53 : ByteArray := prog_11_method_69_code
def yJ9_min_7cf53 : MethodName := ⟨RJ9, "min", "(II)I"⟩
def RJ0 : String := "java/lang/String"
def TJ0 : u_T := fun k => match k with
  | _ => ("", "", "", false)
def tyJ0 : Nat → FieldType := fun k => match k with
  | _ => .int
theorem nmJ0 : ∀ a, a < 0 → ∀ b, b < 0 → a ≠ b → (TJ0 a).2.1 ≠ (TJ0 b).2.1 := by decide +kernel
theorem tyJ0_ok : ∀ k, k < 0 → parseFieldDescriptor (TJ0 k).2.2.1 = some (tyJ0 k) := by decide +kernel
abbrev cJ0_length_8abf5 : ByteArray := prog_12_method_54_code
def yJ0_length_8abf5 : MethodName := ⟨RJ0, "length", "()I"⟩
abbrev cJ0_charAt_5068e : ByteArray := prog_12_method_56_code
def yJ0_charAt_5068e : MethodName := ⟨RJ0, "charAt", "(I)C"⟩
abbrev cJ0_coder_7d493 : ByteArray := prog_12_method_152_code
def yJ0_coder_7d493 : MethodName := ⟨RJ0, "coder", "()B"⟩
abbrev cJ0_isLatin1_aae02 : ByteArray := prog_12_method_154_code
def yJ0_isLatin1_aae02 : MethodName := ⟨RJ0, "isLatin1", "()Z"⟩
abbrev cJ0_checkIndex_df160 : ByteArray := prog_12_method_155_code
def yJ0_checkIndex_df160 : MethodName := ⟨RJ0, "checkIndex", "(II)V"⟩
def RJ1 : String := "java/lang/StringLatin1"
def TJ1 : u_T := fun k => match k with
  | _ => ("", "", "", false)
def tyJ1 : Nat → FieldType := fun k => match k with
  | _ => .int
theorem nmJ1 : ∀ a, a < 0 → ∀ b, b < 0 → a ≠ b → (TJ1 a).2.1 ≠ (TJ1 b).2.1 := by decide +kernel
theorem tyJ1_ok : ∀ k, k < 0 → parseFieldDescriptor (TJ1 k).2.2.1 = some (tyJ1 k) := by decide +kernel
abbrev cJ1_charAt_3b067 : ByteArray := prog_13_method_2_code
def yJ1_charAt_3b067 : MethodName := ⟨RJ1, "charAt", "([BI)C"⟩
def RJ2 : String := "java/lang/StringUTF16"
def TJ2 : u_T := fun k => match k with
  | _ => ("", "", "", false)
def tyJ2 : Nat → FieldType := fun k => match k with
  | _ => .int
theorem nmJ2 : ∀ a, a < 0 → ∀ b, b < 0 → a ≠ b → (TJ2 a).2.1 ≠ (TJ2 b).2.1 := by decide +kernel
theorem tyJ2_ok : ∀ k, k < 0 → parseFieldDescriptor (TJ2 k).2.2.1 = some (tyJ2 k) := by decide +kernel
abbrev cJ2_getChar_3b067 : ByteArray := prog_14_method_5_code
def yJ2_getChar_3b067 : MethodName := ⟨RJ2, "getChar", "([BI)C"⟩
abbrev cJ2_length_9d52b : ByteArray := prog_14_method_6_code
def yJ2_length_9d52b : MethodName := ⟨RJ2, "length", "([B)I"⟩
abbrev cJ2_charAt_3b067 : ByteArray := prog_14_method_83_code
def yJ2_charAt_3b067 : MethodName := ⟨RJ2, "charAt", "([BI)C"⟩
abbrev cJ2_checkIndex_2214a : ByteArray := prog_14_method_91_code
def yJ2_checkIndex_2214a : MethodName := ⟨RJ2, "checkIndex", "(I[B)V"⟩
def RJ10 : String := "java/lang/System"
def TJ10 : u_T := fun k => match k with
  | _ => ("", "", "", false)
def tyJ10 : Nat → FieldType := fun k => match k with
  | _ => .int
theorem nmJ10 : ∀ a, a < 0 → ∀ b, b < 0 → a ≠ b → (TJ10 a).2.1 ≠ (TJ10 b).2.1 := by decide +kernel
theorem tyJ10_ok : ∀ k, k < 0 → parseFieldDescriptor (TJ10 k).2.2.1 = some (tyJ10 k) := by decide +kernel
def RJ3 : String := "jdk/internal/util/Preconditions"
def TJ3 : u_T := fun k => match k with
  | _ => ("", "", "", false)
def tyJ3 : Nat → FieldType := fun k => match k with
  | _ => .int
theorem nmJ3 : ∀ a, a < 0 → ∀ b, b < 0 → a ≠ b → (TJ3 a).2.1 ≠ (TJ3 b).2.1 := by decide +kernel
theorem tyJ3_ok : ∀ k, k < 0 → parseFieldDescriptor (TJ3 k).2.2.1 = some (tyJ3 k) := by decide +kernel
abbrev cJ3_checkIndex_8e157 : ByteArray := prog_16_method_11_code
def yJ3_checkIndex_8e157 : MethodName := ⟨RJ3, "checkIndex", "(IILjava/util/function/BiFunction;)I"⟩
def RL : String := "StampTalesLaw"
abbrev cL_law : ByteArray := code
def yL_law : MethodName := ⟨RL, "law", "([I)Z"⟩
end
section
theorem dX0_init_0 : decode cX0_init 0 = .ok (.aload_n 0, 1) := by decide +kernel
theorem dX0_init_1 : decode cX0_init 1 = .ok (.invokespecial 3, 3) := by decide +kernel
theorem dX0_init_4 : decode cX0_init 4 = .ok (.aload_n 0, 1) := by decide +kernel
theorem dX0_init_5 : decode cX0_init 5 = .ok (.iconst 4, 1) := by decide +kernel
theorem dX0_init_6 : decode cX0_init 6 = .ok (.newarray .int, 2) := by decide +kernel
theorem dX0_init_8 : decode cX0_init 8 = .ok (.putfield 11, 3) := by decide +kernel
theorem dX0_init_11 : decode cX0_init 11 = .ok (.aload_n 0, 1) := by decide +kernel
theorem dX0_init_12 : decode cX0_init 12 = .ok (.bipush 8, 2) := by decide +kernel
theorem dX0_init_14 : decode cX0_init 14 = .ok (.newarray .int, 2) := by decide +kernel
theorem dX0_init_16 : decode cX0_init 16 = .ok (.putfield 15, 3) := by decide +kernel
theorem dX0_init_19 : decode cX0_init 19 = .ok (.aload_n 0, 1) := by decide +kernel
theorem dX0_init_20 : decode cX0_init 20 = .ok (.bipush 8, 2) := by decide +kernel
theorem dX0_init_22 : decode cX0_init 22 = .ok (.newarray .int, 2) := by decide +kernel
theorem dX0_init_24 : decode cX0_init 24 = .ok (.putfield 18, 3) := by decide +kernel
theorem dX0_init_27 : decode cX0_init 27 = .ok (.aload_n 0, 1) := by decide +kernel
theorem dX0_init_28 : decode cX0_init 28 = .ok (.bipush 16, 2) := by decide +kernel
theorem dX0_init_30 : decode cX0_init 30 = .ok (.newarray .int, 2) := by decide +kernel
theorem dX0_init_32 : decode cX0_init 32 = .ok (.putfield 21, 3) := by decide +kernel
theorem dX0_init_35 : decode cX0_init 35 = .ok (.aload_n 0, 1) := by decide +kernel
theorem dX0_init_36 : decode cX0_init 36 = .ok (.bipush 16, 2) := by decide +kernel
theorem dX0_init_38 : decode cX0_init 38 = .ok (.newarray .int, 2) := by decide +kernel
theorem dX0_init_40 : decode cX0_init 40 = .ok (.putfield 24, 3) := by decide +kernel
theorem dX0_init_43 : decode cX0_init 43 = .ok (.aload_n 0, 1) := by decide +kernel
theorem dX0_init_44 : decode cX0_init 44 = .ok (.bipush 16, 2) := by decide +kernel
theorem dX0_init_46 : decode cX0_init 46 = .ok (.newarray .int, 2) := by decide +kernel
theorem dX0_init_48 : decode cX0_init 48 = .ok (.putfield 27, 3) := by decide +kernel
theorem dX0_init_51 : decode cX0_init 51 = .ok (.aload_n 0, 1) := by decide +kernel
theorem dX0_init_52 : decode cX0_init 52 = .ok (.bipush 16, 2) := by decide +kernel
theorem dX0_init_54 : decode cX0_init 54 = .ok (.newarray .int, 2) := by decide +kernel
theorem dX0_init_56 : decode cX0_init 56 = .ok (.putfield 30, 3) := by decide +kernel
theorem dX0_init_59 : decode cX0_init 59 = .ok (.aload_n 0, 1) := by decide +kernel
theorem dX0_init_60 : decode cX0_init 60 = .ok (.bipush 16, 2) := by decide +kernel
theorem dX0_init_62 : decode cX0_init 62 = .ok (.newarray .int, 2) := by decide +kernel
theorem dX0_init_64 : decode cX0_init 64 = .ok (.putfield 33, 3) := by decide +kernel
theorem dX0_init_67 : decode cX0_init 67 = .ok (.aload_n 0, 1) := by decide +kernel
theorem dX0_init_68 : decode cX0_init 68 = .ok (.bipush 16, 2) := by decide +kernel
theorem dX0_init_70 : decode cX0_init 70 = .ok (.newarray .boolean, 2) := by decide +kernel
theorem dX0_init_72 : decode cX0_init 72 = .ok (.putfield 36, 3) := by decide +kernel
theorem dX0_init_75 : decode cX0_init 75 = .ok (.aload_n 0, 1) := by decide +kernel
theorem dX0_init_76 : decode cX0_init 76 = .ok (.bipush 16, 2) := by decide +kernel
theorem dX0_init_78 : decode cX0_init 78 = .ok (.newarray .int, 2) := by decide +kernel
theorem dX0_init_80 : decode cX0_init 80 = .ok (.putfield 40, 3) := by decide +kernel
theorem dX0_init_83 : decode cX0_init 83 = .ok (.aload_n 0, 1) := by decide +kernel
theorem dX0_init_84 : decode cX0_init 84 = .ok (.bipush 16, 2) := by decide +kernel
theorem dX0_init_86 : decode cX0_init 86 = .ok (.newarray .int, 2) := by decide +kernel
theorem dX0_init_88 : decode cX0_init 88 = .ok (.putfield 43, 3) := by decide +kernel
theorem dX0_init_91 : decode cX0_init 91 = .ok (.return_, 1) := by decide +kernel
theorem dX0_clear_0 : decode cX0_clear 0 = .ok (.aload_n 0, 1) := by decide +kernel
theorem dX0_clear_1 : decode cX0_clear 1 = .ok (.iconst 0, 1) := by decide +kernel
theorem dX0_clear_2 : decode cX0_clear 2 = .ok (.putfield 46, 3) := by decide +kernel
theorem dX0_clear_5 : decode cX0_clear 5 = .ok (.aload_n 0, 1) := by decide +kernel
theorem dX0_clear_6 : decode cX0_clear 6 = .ok (.iconst 0, 1) := by decide +kernel
theorem dX0_clear_7 : decode cX0_clear 7 = .ok (.putfield 50, 3) := by decide +kernel
theorem dX0_clear_10 : decode cX0_clear 10 = .ok (.aload_n 0, 1) := by decide +kernel
theorem dX0_clear_11 : decode cX0_clear 11 = .ok (.iconst 0, 1) := by decide +kernel
theorem dX0_clear_12 : decode cX0_clear 12 = .ok (.putfield 53, 3) := by decide +kernel
theorem dX0_clear_15 : decode cX0_clear 15 = .ok (.return_, 1) := by decide +kernel
theorem dX0_takeOver_0 : decode cX0_takeOver 0 = .ok (.aload_n 0, 1) := by decide +kernel
theorem dX0_takeOver_1 : decode cX0_takeOver 1 = .ok (.aload_n 1, 1) := by decide +kernel
theorem dX0_takeOver_2 : decode cX0_takeOver 2 = .ok (.getfield 46, 3) := by decide +kernel
theorem dX0_takeOver_5 : decode cX0_takeOver 5 = .ok (.putfield 46, 3) := by decide +kernel
theorem dX0_takeOver_8 : decode cX0_takeOver 8 = .ok (.aload_n 0, 1) := by decide +kernel
theorem dX0_takeOver_9 : decode cX0_takeOver 9 = .ok (.aload_n 1, 1) := by decide +kernel
theorem dX0_takeOver_10 : decode cX0_takeOver 10 = .ok (.getfield 50, 3) := by decide +kernel
theorem dX0_takeOver_13 : decode cX0_takeOver 13 = .ok (.putfield 50, 3) := by decide +kernel
theorem dX0_takeOver_16 : decode cX0_takeOver 16 = .ok (.aload_n 0, 1) := by decide +kernel
theorem dX0_takeOver_17 : decode cX0_takeOver 17 = .ok (.aload_n 1, 1) := by decide +kernel
theorem dX0_takeOver_18 : decode cX0_takeOver 18 = .ok (.getfield 53, 3) := by decide +kernel
theorem dX0_takeOver_21 : decode cX0_takeOver 21 = .ok (.putfield 53, 3) := by decide +kernel
theorem dX0_takeOver_24 : decode cX0_takeOver 24 = .ok (.aload_n 1, 1) := by decide +kernel
theorem dX0_takeOver_25 : decode cX0_takeOver 25 = .ok (.getfield 11, 3) := by decide +kernel
theorem dX0_takeOver_28 : decode cX0_takeOver 28 = .ok (.iconst 0, 1) := by decide +kernel
theorem dX0_takeOver_29 : decode cX0_takeOver 29 = .ok (.aload_n 0, 1) := by decide +kernel
theorem dX0_takeOver_30 : decode cX0_takeOver 30 = .ok (.getfield 11, 3) := by decide +kernel
theorem dX0_takeOver_33 : decode cX0_takeOver 33 = .ok (.iconst 0, 1) := by decide +kernel
theorem dX0_takeOver_34 : decode cX0_takeOver 34 = .ok (.iconst 4, 1) := by decide +kernel
theorem dX0_takeOver_35 : decode cX0_takeOver 35 = .ok (.invokestatic 56, 3) := by decide +kernel
theorem dX0_takeOver_38 : decode cX0_takeOver 38 = .ok (.aload_n 1, 1) := by decide +kernel
theorem dX0_takeOver_39 : decode cX0_takeOver 39 = .ok (.getfield 15, 3) := by decide +kernel
theorem dX0_takeOver_42 : decode cX0_takeOver 42 = .ok (.iconst 0, 1) := by decide +kernel
theorem dX0_takeOver_43 : decode cX0_takeOver 43 = .ok (.aload_n 0, 1) := by decide +kernel
theorem dX0_takeOver_44 : decode cX0_takeOver 44 = .ok (.getfield 15, 3) := by decide +kernel
theorem dX0_takeOver_47 : decode cX0_takeOver 47 = .ok (.iconst 0, 1) := by decide +kernel
theorem dX0_takeOver_48 : decode cX0_takeOver 48 = .ok (.bipush 8, 2) := by decide +kernel
theorem dX0_takeOver_50 : decode cX0_takeOver 50 = .ok (.invokestatic 56, 3) := by decide +kernel
theorem dX0_takeOver_53 : decode cX0_takeOver 53 = .ok (.aload_n 1, 1) := by decide +kernel
theorem dX0_takeOver_54 : decode cX0_takeOver 54 = .ok (.getfield 18, 3) := by decide +kernel
theorem dX0_takeOver_57 : decode cX0_takeOver 57 = .ok (.iconst 0, 1) := by decide +kernel
theorem dX0_takeOver_58 : decode cX0_takeOver 58 = .ok (.aload_n 0, 1) := by decide +kernel
theorem dX0_takeOver_59 : decode cX0_takeOver 59 = .ok (.getfield 18, 3) := by decide +kernel
theorem dX0_takeOver_62 : decode cX0_takeOver 62 = .ok (.iconst 0, 1) := by decide +kernel
theorem dX0_takeOver_63 : decode cX0_takeOver 63 = .ok (.bipush 8, 2) := by decide +kernel
theorem dX0_takeOver_65 : decode cX0_takeOver 65 = .ok (.invokestatic 56, 3) := by decide +kernel
theorem dX0_takeOver_68 : decode cX0_takeOver 68 = .ok (.aload_n 1, 1) := by decide +kernel
theorem dX0_takeOver_69 : decode cX0_takeOver 69 = .ok (.getfield 21, 3) := by decide +kernel
theorem dX0_takeOver_72 : decode cX0_takeOver 72 = .ok (.iconst 0, 1) := by decide +kernel
theorem dX0_takeOver_73 : decode cX0_takeOver 73 = .ok (.aload_n 0, 1) := by decide +kernel
theorem dX0_takeOver_74 : decode cX0_takeOver 74 = .ok (.getfield 21, 3) := by decide +kernel
theorem dX0_takeOver_77 : decode cX0_takeOver 77 = .ok (.iconst 0, 1) := by decide +kernel
theorem dX0_takeOver_78 : decode cX0_takeOver 78 = .ok (.bipush 16, 2) := by decide +kernel
theorem dX0_takeOver_80 : decode cX0_takeOver 80 = .ok (.invokestatic 56, 3) := by decide +kernel
theorem dX0_takeOver_83 : decode cX0_takeOver 83 = .ok (.aload_n 1, 1) := by decide +kernel
theorem dX0_takeOver_84 : decode cX0_takeOver 84 = .ok (.getfield 24, 3) := by decide +kernel
theorem dX0_takeOver_87 : decode cX0_takeOver 87 = .ok (.iconst 0, 1) := by decide +kernel
theorem dX0_takeOver_88 : decode cX0_takeOver 88 = .ok (.aload_n 0, 1) := by decide +kernel
theorem dX0_takeOver_89 : decode cX0_takeOver 89 = .ok (.getfield 24, 3) := by decide +kernel
theorem dX0_takeOver_92 : decode cX0_takeOver 92 = .ok (.iconst 0, 1) := by decide +kernel
theorem dX0_takeOver_93 : decode cX0_takeOver 93 = .ok (.bipush 16, 2) := by decide +kernel
theorem dX0_takeOver_95 : decode cX0_takeOver 95 = .ok (.invokestatic 56, 3) := by decide +kernel
theorem dX0_takeOver_98 : decode cX0_takeOver 98 = .ok (.aload_n 1, 1) := by decide +kernel
theorem dX0_takeOver_99 : decode cX0_takeOver 99 = .ok (.getfield 27, 3) := by decide +kernel
theorem dX0_takeOver_102 : decode cX0_takeOver 102 = .ok (.iconst 0, 1) := by decide +kernel
theorem dX0_takeOver_103 : decode cX0_takeOver 103 = .ok (.aload_n 0, 1) := by decide +kernel
theorem dX0_takeOver_104 : decode cX0_takeOver 104 = .ok (.getfield 27, 3) := by decide +kernel
theorem dX0_takeOver_107 : decode cX0_takeOver 107 = .ok (.iconst 0, 1) := by decide +kernel
theorem dX0_takeOver_108 : decode cX0_takeOver 108 = .ok (.bipush 16, 2) := by decide +kernel
theorem dX0_takeOver_110 : decode cX0_takeOver 110 = .ok (.invokestatic 56, 3) := by decide +kernel
theorem dX0_takeOver_113 : decode cX0_takeOver 113 = .ok (.aload_n 1, 1) := by decide +kernel
theorem dX0_takeOver_114 : decode cX0_takeOver 114 = .ok (.getfield 30, 3) := by decide +kernel
theorem dX0_takeOver_117 : decode cX0_takeOver 117 = .ok (.iconst 0, 1) := by decide +kernel
theorem dX0_takeOver_118 : decode cX0_takeOver 118 = .ok (.aload_n 0, 1) := by decide +kernel
theorem dX0_takeOver_119 : decode cX0_takeOver 119 = .ok (.getfield 30, 3) := by decide +kernel
theorem dX0_takeOver_122 : decode cX0_takeOver 122 = .ok (.iconst 0, 1) := by decide +kernel
theorem dX0_takeOver_123 : decode cX0_takeOver 123 = .ok (.bipush 16, 2) := by decide +kernel
theorem dX0_takeOver_125 : decode cX0_takeOver 125 = .ok (.invokestatic 56, 3) := by decide +kernel
theorem dX0_takeOver_128 : decode cX0_takeOver 128 = .ok (.aload_n 1, 1) := by decide +kernel
theorem dX0_takeOver_129 : decode cX0_takeOver 129 = .ok (.getfield 33, 3) := by decide +kernel
theorem dX0_takeOver_132 : decode cX0_takeOver 132 = .ok (.iconst 0, 1) := by decide +kernel
theorem dX0_takeOver_133 : decode cX0_takeOver 133 = .ok (.aload_n 0, 1) := by decide +kernel
theorem dX0_takeOver_134 : decode cX0_takeOver 134 = .ok (.getfield 33, 3) := by decide +kernel
theorem dX0_takeOver_137 : decode cX0_takeOver 137 = .ok (.iconst 0, 1) := by decide +kernel
theorem dX0_takeOver_138 : decode cX0_takeOver 138 = .ok (.bipush 16, 2) := by decide +kernel
theorem dX0_takeOver_140 : decode cX0_takeOver 140 = .ok (.invokestatic 56, 3) := by decide +kernel
theorem dX0_takeOver_143 : decode cX0_takeOver 143 = .ok (.aload_n 1, 1) := by decide +kernel
theorem dX0_takeOver_144 : decode cX0_takeOver 144 = .ok (.getfield 36, 3) := by decide +kernel
theorem dX0_takeOver_147 : decode cX0_takeOver 147 = .ok (.iconst 0, 1) := by decide +kernel
theorem dX0_takeOver_148 : decode cX0_takeOver 148 = .ok (.aload_n 0, 1) := by decide +kernel
theorem dX0_takeOver_149 : decode cX0_takeOver 149 = .ok (.getfield 36, 3) := by decide +kernel
theorem dX0_takeOver_152 : decode cX0_takeOver 152 = .ok (.iconst 0, 1) := by decide +kernel
theorem dX0_takeOver_153 : decode cX0_takeOver 153 = .ok (.bipush 16, 2) := by decide +kernel
theorem dX0_takeOver_155 : decode cX0_takeOver 155 = .ok (.invokestatic 56, 3) := by decide +kernel
theorem dX0_takeOver_158 : decode cX0_takeOver 158 = .ok (.aload_n 1, 1) := by decide +kernel
theorem dX0_takeOver_159 : decode cX0_takeOver 159 = .ok (.getfield 40, 3) := by decide +kernel
theorem dX0_takeOver_162 : decode cX0_takeOver 162 = .ok (.iconst 0, 1) := by decide +kernel
theorem dX0_takeOver_163 : decode cX0_takeOver 163 = .ok (.aload_n 0, 1) := by decide +kernel
theorem dX0_takeOver_164 : decode cX0_takeOver 164 = .ok (.getfield 40, 3) := by decide +kernel
theorem dX0_takeOver_167 : decode cX0_takeOver 167 = .ok (.iconst 0, 1) := by decide +kernel
theorem dX0_takeOver_168 : decode cX0_takeOver 168 = .ok (.bipush 16, 2) := by decide +kernel
theorem dX0_takeOver_170 : decode cX0_takeOver 170 = .ok (.invokestatic 56, 3) := by decide +kernel
theorem dX0_takeOver_173 : decode cX0_takeOver 173 = .ok (.aload_n 1, 1) := by decide +kernel
theorem dX0_takeOver_174 : decode cX0_takeOver 174 = .ok (.getfield 43, 3) := by decide +kernel
theorem dX0_takeOver_177 : decode cX0_takeOver 177 = .ok (.iconst 0, 1) := by decide +kernel
theorem dX0_takeOver_178 : decode cX0_takeOver 178 = .ok (.aload_n 0, 1) := by decide +kernel
theorem dX0_takeOver_179 : decode cX0_takeOver 179 = .ok (.getfield 43, 3) := by decide +kernel
theorem dX0_takeOver_182 : decode cX0_takeOver 182 = .ok (.iconst 0, 1) := by decide +kernel
theorem dX0_takeOver_183 : decode cX0_takeOver 183 = .ok (.bipush 16, 2) := by decide +kernel
theorem dX0_takeOver_185 : decode cX0_takeOver 185 = .ok (.invokestatic 56, 3) := by decide +kernel
theorem dX0_takeOver_188 : decode cX0_takeOver 188 = .ok (.return_, 1) := by decide +kernel
theorem dX0_addLand_0 : decode cX0_addLand 0 = .ok (.aload_n 0, 1) := by decide +kernel
theorem dX0_addLand_1 : decode cX0_addLand 1 = .ok (.getfield 46, 3) := by decide +kernel
theorem dX0_addLand_4 : decode cX0_addLand 4 = .ok (.iconst 4, 1) := by decide +kernel
theorem dX0_addLand_5 : decode cX0_addLand 5 = .ok (.if_icmp .ge 23, 3) := by decide +kernel
theorem dX0_addLand_8 : decode cX0_addLand 8 = .ok (.aload_n 0, 1) := by decide +kernel
theorem dX0_addLand_9 : decode cX0_addLand 9 = .ok (.getfield 11, 3) := by decide +kernel
theorem dX0_addLand_12 : decode cX0_addLand 12 = .ok (.aload_n 0, 1) := by decide +kernel
theorem dX0_addLand_13 : decode cX0_addLand 13 = .ok (.getfield 46, 3) := by decide +kernel
theorem dX0_addLand_16 : decode cX0_addLand 16 = .ok (.iload_n 1, 1) := by decide +kernel
theorem dX0_addLand_17 : decode cX0_addLand 17 = .ok (.iastore, 1) := by decide +kernel
theorem dX0_addLand_18 : decode cX0_addLand 18 = .ok (.aload_n 0, 1) := by decide +kernel
theorem dX0_addLand_19 : decode cX0_addLand 19 = .ok (.dup, 1) := by decide +kernel
theorem dX0_addLand_20 : decode cX0_addLand 20 = .ok (.getfield 46, 3) := by decide +kernel
theorem dX0_addLand_23 : decode cX0_addLand 23 = .ok (.iconst 1, 1) := by decide +kernel
theorem dX0_addLand_24 : decode cX0_addLand 24 = .ok (.iadd, 1) := by decide +kernel
theorem dX0_addLand_25 : decode cX0_addLand 25 = .ok (.putfield 46, 3) := by decide +kernel
theorem dX0_addLand_28 : decode cX0_addLand 28 = .ok (.return_, 1) := by decide +kernel
theorem dX0_addTown_0 : decode cX0_addTown 0 = .ok (.aload_n 0, 1) := by decide +kernel
theorem dX0_addTown_1 : decode cX0_addTown 1 = .ok (.getfield 50, 3) := by decide +kernel
theorem dX0_addTown_4 : decode cX0_addTown 4 = .ok (.bipush 8, 2) := by decide +kernel
theorem dX0_addTown_6 : decode cX0_addTown 6 = .ok (.if_icmp .ge 33, 3) := by decide +kernel
theorem dX0_addTown_9 : decode cX0_addTown 9 = .ok (.aload_n 0, 1) := by decide +kernel
theorem dX0_addTown_10 : decode cX0_addTown 10 = .ok (.getfield 15, 3) := by decide +kernel
theorem dX0_addTown_13 : decode cX0_addTown 13 = .ok (.aload_n 0, 1) := by decide +kernel
theorem dX0_addTown_14 : decode cX0_addTown 14 = .ok (.getfield 50, 3) := by decide +kernel
theorem dX0_addTown_17 : decode cX0_addTown 17 = .ok (.iload_n 1, 1) := by decide +kernel
theorem dX0_addTown_18 : decode cX0_addTown 18 = .ok (.iastore, 1) := by decide +kernel
theorem dX0_addTown_19 : decode cX0_addTown 19 = .ok (.aload_n 0, 1) := by decide +kernel
theorem dX0_addTown_20 : decode cX0_addTown 20 = .ok (.getfield 18, 3) := by decide +kernel
theorem dX0_addTown_23 : decode cX0_addTown 23 = .ok (.aload_n 0, 1) := by decide +kernel
theorem dX0_addTown_24 : decode cX0_addTown 24 = .ok (.getfield 50, 3) := by decide +kernel
theorem dX0_addTown_27 : decode cX0_addTown 27 = .ok (.iload_n 2, 1) := by decide +kernel
theorem dX0_addTown_28 : decode cX0_addTown 28 = .ok (.iastore, 1) := by decide +kernel
theorem dX0_addTown_29 : decode cX0_addTown 29 = .ok (.aload_n 0, 1) := by decide +kernel
theorem dX0_addTown_30 : decode cX0_addTown 30 = .ok (.dup, 1) := by decide +kernel
theorem dX0_addTown_31 : decode cX0_addTown 31 = .ok (.getfield 50, 3) := by decide +kernel
theorem dX0_addTown_34 : decode cX0_addTown 34 = .ok (.iconst 1, 1) := by decide +kernel
theorem dX0_addTown_35 : decode cX0_addTown 35 = .ok (.iadd, 1) := by decide +kernel
theorem dX0_addTown_36 : decode cX0_addTown 36 = .ok (.putfield 50, 3) := by decide +kernel
theorem dX0_addTown_39 : decode cX0_addTown 39 = .ok (.return_, 1) := by decide +kernel
theorem dX0_addLink_0 : decode cX0_addLink 0 = .ok (.aload_n 0, 1) := by decide +kernel
theorem dX0_addLink_1 : decode cX0_addLink 1 = .ok (.getfield 53, 3) := by decide +kernel
theorem dX0_addLink_4 : decode cX0_addLink 4 = .ok (.bipush 16, 2) := by decide +kernel
theorem dX0_addLink_6 : decode cX0_addLink 6 = .ok (.if_icmp .ge 108, 3) := by decide +kernel
theorem dX0_addLink_9 : decode cX0_addLink 9 = .ok (.aload_n 0, 1) := by decide +kernel
theorem dX0_addLink_10 : decode cX0_addLink 10 = .ok (.getfield 21, 3) := by decide +kernel
theorem dX0_addLink_13 : decode cX0_addLink 13 = .ok (.aload_n 0, 1) := by decide +kernel
theorem dX0_addLink_14 : decode cX0_addLink 14 = .ok (.getfield 53, 3) := by decide +kernel
theorem dX0_addLink_17 : decode cX0_addLink 17 = .ok (.iload_n 1, 1) := by decide +kernel
theorem dX0_addLink_18 : decode cX0_addLink 18 = .ok (.iastore, 1) := by decide +kernel
theorem dX0_addLink_19 : decode cX0_addLink 19 = .ok (.aload_n 0, 1) := by decide +kernel
theorem dX0_addLink_20 : decode cX0_addLink 20 = .ok (.getfield 24, 3) := by decide +kernel
theorem dX0_addLink_23 : decode cX0_addLink 23 = .ok (.aload_n 0, 1) := by decide +kernel
theorem dX0_addLink_24 : decode cX0_addLink 24 = .ok (.getfield 53, 3) := by decide +kernel
theorem dX0_addLink_27 : decode cX0_addLink 27 = .ok (.iload_n 2, 1) := by decide +kernel
theorem dX0_addLink_28 : decode cX0_addLink 28 = .ok (.iastore, 1) := by decide +kernel
theorem dX0_addLink_29 : decode cX0_addLink 29 = .ok (.aload_n 0, 1) := by decide +kernel
theorem dX0_addLink_30 : decode cX0_addLink 30 = .ok (.getfield 36, 3) := by decide +kernel
theorem dX0_addLink_33 : decode cX0_addLink 33 = .ok (.aload_n 0, 1) := by decide +kernel
theorem dX0_addLink_34 : decode cX0_addLink 34 = .ok (.getfield 53, 3) := by decide +kernel
theorem dX0_addLink_37 : decode cX0_addLink 37 = .ok (.iload_n 3, 1) := by decide +kernel
theorem dX0_addLink_38 : decode cX0_addLink 38 = .ok (.bastore, 1) := by decide +kernel
theorem dX0_addLink_39 : decode cX0_addLink 39 = .ok (.aload_n 0, 1) := by decide +kernel
theorem dX0_addLink_40 : decode cX0_addLink 40 = .ok (.getfield 27, 3) := by decide +kernel
theorem dX0_addLink_43 : decode cX0_addLink 43 = .ok (.aload_n 0, 1) := by decide +kernel
theorem dX0_addLink_44 : decode cX0_addLink 44 = .ok (.getfield 53, 3) := by decide +kernel
theorem dX0_addLink_47 : decode cX0_addLink 47 = .ok (.iload 4, 2) := by decide +kernel
theorem dX0_addLink_49 : decode cX0_addLink 49 = .ok (.iastore, 1) := by decide +kernel
theorem dX0_addLink_50 : decode cX0_addLink 50 = .ok (.aload_n 0, 1) := by decide +kernel
theorem dX0_addLink_51 : decode cX0_addLink 51 = .ok (.getfield 30, 3) := by decide +kernel
theorem dX0_addLink_54 : decode cX0_addLink 54 = .ok (.aload_n 0, 1) := by decide +kernel
theorem dX0_addLink_55 : decode cX0_addLink 55 = .ok (.getfield 53, 3) := by decide +kernel
theorem dX0_addLink_58 : decode cX0_addLink 58 = .ok (.iload 5, 2) := by decide +kernel
theorem dX0_addLink_60 : decode cX0_addLink 60 = .ok (.iastore, 1) := by decide +kernel
theorem dX0_addLink_61 : decode cX0_addLink 61 = .ok (.aload_n 0, 1) := by decide +kernel
theorem dX0_addLink_62 : decode cX0_addLink 62 = .ok (.getfield 33, 3) := by decide +kernel
theorem dX0_addLink_65 : decode cX0_addLink 65 = .ok (.aload_n 0, 1) := by decide +kernel
theorem dX0_addLink_66 : decode cX0_addLink 66 = .ok (.getfield 53, 3) := by decide +kernel
theorem dX0_addLink_69 : decode cX0_addLink 69 = .ok (.iload 6, 2) := by decide +kernel
theorem dX0_addLink_71 : decode cX0_addLink 71 = .ok (.iastore, 1) := by decide +kernel
theorem dX0_addLink_72 : decode cX0_addLink 72 = .ok (.aload_n 0, 1) := by decide +kernel
theorem dX0_addLink_73 : decode cX0_addLink 73 = .ok (.getfield 40, 3) := by decide +kernel
theorem dX0_addLink_76 : decode cX0_addLink 76 = .ok (.aload_n 0, 1) := by decide +kernel
theorem dX0_addLink_77 : decode cX0_addLink 77 = .ok (.getfield 53, 3) := by decide +kernel
theorem dX0_addLink_80 : decode cX0_addLink 80 = .ok (.aload_n 0, 1) := by decide +kernel
theorem dX0_addLink_81 : decode cX0_addLink 81 = .ok (.iload_n 1, 1) := by decide +kernel
theorem dX0_addLink_82 : decode cX0_addLink 82 = .ok (.iload_n 2, 1) := by decide +kernel
theorem dX0_addLink_83 : decode cX0_addLink 83 = .ok (.iconst 2, 1) := by decide +kernel
theorem dX0_addLink_84 : decode cX0_addLink 84 = .ok (.invokevirtual 62, 3) := by decide +kernel
theorem dX0_addLink_87 : decode cX0_addLink 87 = .ok (.iastore, 1) := by decide +kernel
theorem dX0_addLink_88 : decode cX0_addLink 88 = .ok (.aload_n 0, 1) := by decide +kernel
theorem dX0_addLink_89 : decode cX0_addLink 89 = .ok (.getfield 43, 3) := by decide +kernel
theorem dX0_addLink_92 : decode cX0_addLink 92 = .ok (.aload_n 0, 1) := by decide +kernel
theorem dX0_addLink_93 : decode cX0_addLink 93 = .ok (.getfield 53, 3) := by decide +kernel
theorem dX0_addLink_96 : decode cX0_addLink 96 = .ok (.aload_n 0, 1) := by decide +kernel
theorem dX0_addLink_97 : decode cX0_addLink 97 = .ok (.iload_n 2, 1) := by decide +kernel
theorem dX0_addLink_98 : decode cX0_addLink 98 = .ok (.iload_n 1, 1) := by decide +kernel
theorem dX0_addLink_99 : decode cX0_addLink 99 = .ok (.iconst 1, 1) := by decide +kernel
theorem dX0_addLink_100 : decode cX0_addLink 100 = .ok (.invokevirtual 62, 3) := by decide +kernel
theorem dX0_addLink_103 : decode cX0_addLink 103 = .ok (.iastore, 1) := by decide +kernel
theorem dX0_addLink_104 : decode cX0_addLink 104 = .ok (.aload_n 0, 1) := by decide +kernel
theorem dX0_addLink_105 : decode cX0_addLink 105 = .ok (.dup, 1) := by decide +kernel
theorem dX0_addLink_106 : decode cX0_addLink 106 = .ok (.getfield 53, 3) := by decide +kernel
theorem dX0_addLink_109 : decode cX0_addLink 109 = .ok (.iconst 1, 1) := by decide +kernel
theorem dX0_addLink_110 : decode cX0_addLink 110 = .ok (.iadd, 1) := by decide +kernel
theorem dX0_addLink_111 : decode cX0_addLink 111 = .ok (.putfield 53, 3) := by decide +kernel
theorem dX0_addLink_114 : decode cX0_addLink 114 = .ok (.return_, 1) := by decide +kernel
theorem dX0_hasLand_0 : decode cX0_hasLand 0 = .ok (.iload_n 1, 1) := by decide +kernel
theorem dX0_hasLand_1 : decode cX0_hasLand 1 = .ok (.ifCond .lt 15, 3) := by decide +kernel
theorem dX0_hasLand_4 : decode cX0_hasLand 4 = .ok (.iload_n 1, 1) := by decide +kernel
theorem dX0_hasLand_5 : decode cX0_hasLand 5 = .ok (.aload_n 0, 1) := by decide +kernel
theorem dX0_hasLand_6 : decode cX0_hasLand 6 = .ok (.getfield 46, 3) := by decide +kernel
theorem dX0_hasLand_9 : decode cX0_hasLand 9 = .ok (.if_icmp .ge 7, 3) := by decide +kernel
theorem dX0_hasLand_12 : decode cX0_hasLand 12 = .ok (.iconst 1, 1) := by decide +kernel
theorem dX0_hasLand_13 : decode cX0_hasLand 13 = .ok (.goto 4, 3) := by decide +kernel
theorem dX0_hasLand_16 : decode cX0_hasLand 16 = .ok (.iconst 0, 1) := by decide +kernel
theorem dX0_hasLand_17 : decode cX0_hasLand 17 = .ok (.ireturn, 1) := by decide +kernel
theorem dX0_hasTown_0 : decode cX0_hasTown 0 = .ok (.iload_n 1, 1) := by decide +kernel
theorem dX0_hasTown_1 : decode cX0_hasTown 1 = .ok (.ifCond .lt 15, 3) := by decide +kernel
theorem dX0_hasTown_4 : decode cX0_hasTown 4 = .ok (.iload_n 1, 1) := by decide +kernel
theorem dX0_hasTown_5 : decode cX0_hasTown 5 = .ok (.aload_n 0, 1) := by decide +kernel
theorem dX0_hasTown_6 : decode cX0_hasTown 6 = .ok (.getfield 50, 3) := by decide +kernel
theorem dX0_hasTown_9 : decode cX0_hasTown 9 = .ok (.if_icmp .ge 7, 3) := by decide +kernel
theorem dX0_hasTown_12 : decode cX0_hasTown 12 = .ok (.iconst 1, 1) := by decide +kernel
theorem dX0_hasTown_13 : decode cX0_hasTown 13 = .ok (.goto 4, 3) := by decide +kernel
theorem dX0_hasTown_16 : decode cX0_hasTown 16 = .ok (.iconst 0, 1) := by decide +kernel
theorem dX0_hasTown_17 : decode cX0_hasTown 17 = .ok (.ireturn, 1) := by decide +kernel
theorem dX0_hasLink_0 : decode cX0_hasLink 0 = .ok (.iload_n 1, 1) := by decide +kernel
theorem dX0_hasLink_1 : decode cX0_hasLink 1 = .ok (.ifCond .lt 15, 3) := by decide +kernel
theorem dX0_hasLink_4 : decode cX0_hasLink 4 = .ok (.iload_n 1, 1) := by decide +kernel
theorem dX0_hasLink_5 : decode cX0_hasLink 5 = .ok (.aload_n 0, 1) := by decide +kernel
theorem dX0_hasLink_6 : decode cX0_hasLink 6 = .ok (.getfield 53, 3) := by decide +kernel
theorem dX0_hasLink_9 : decode cX0_hasLink 9 = .ok (.if_icmp .ge 7, 3) := by decide +kernel
theorem dX0_hasLink_12 : decode cX0_hasLink 12 = .ok (.iconst 1, 1) := by decide +kernel
theorem dX0_hasLink_13 : decode cX0_hasLink 13 = .ok (.goto 4, 3) := by decide +kernel
theorem dX0_hasLink_16 : decode cX0_hasLink 16 = .ok (.iconst 0, 1) := by decide +kernel
theorem dX0_hasLink_17 : decode cX0_hasLink 17 = .ok (.ireturn, 1) := by decide +kernel
theorem dX0_leavesAt_0 : decode cX0_leavesAt 0 = .ok (.aload_n 0, 1) := by decide +kernel
theorem dX0_leavesAt_1 : decode cX0_leavesAt 1 = .ok (.getfield 27, 3) := by decide +kernel
theorem dX0_leavesAt_4 : decode cX0_leavesAt 4 = .ok (.iload_n 1, 1) := by decide +kernel
theorem dX0_leavesAt_5 : decode cX0_leavesAt 5 = .ok (.iaload, 1) := by decide +kernel
theorem dX0_leavesAt_6 : decode cX0_leavesAt 6 = .ok (.aload_n 0, 1) := by decide +kernel
theorem dX0_leavesAt_7 : decode cX0_leavesAt 7 = .ok (.getfield 36, 3) := by decide +kernel
theorem dX0_leavesAt_10 : decode cX0_leavesAt 10 = .ok (.iload_n 1, 1) := by decide +kernel
theorem dX0_leavesAt_11 : decode cX0_leavesAt 11 = .ok (.baload, 1) := by decide +kernel
theorem dX0_leavesAt_12 : decode cX0_leavesAt 12 = .ok (.ifCond .eq 10, 3) := by decide +kernel
theorem dX0_leavesAt_15 : decode cX0_leavesAt 15 = .ok (.iload_n 2, 1) := by decide +kernel
theorem dX0_leavesAt_16 : decode cX0_leavesAt 16 = .ok (.bipush 24, 2) := by decide +kernel
theorem dX0_leavesAt_18 : decode cX0_leavesAt 18 = .ok (.irem, 1) := by decide +kernel
theorem dX0_leavesAt_19 : decode cX0_leavesAt 19 = .ok (.goto 4, 3) := by decide +kernel
theorem dX0_leavesAt_22 : decode cX0_leavesAt 22 = .ok (.iload_n 2, 1) := by decide +kernel
theorem dX0_leavesAt_23 : decode cX0_leavesAt 23 = .ok (.if_icmp .ne 7, 3) := by decide +kernel
theorem dX0_leavesAt_26 : decode cX0_leavesAt 26 = .ok (.iconst 1, 1) := by decide +kernel
theorem dX0_leavesAt_27 : decode cX0_leavesAt 27 = .ok (.goto 4, 3) := by decide +kernel
theorem dX0_leavesAt_30 : decode cX0_leavesAt 30 = .ok (.iconst 0, 1) := by decide +kernel
theorem dX0_leavesAt_31 : decode cX0_leavesAt 31 = .ok (.ireturn, 1) := by decide +kernel
theorem dX0_stampingLand_0 : decode cX0_stampingLand 0 = .ok (.aload_n 0, 1) := by decide +kernel
theorem dX0_stampingLand_1 : decode cX0_stampingLand 1 = .ok (.getfield 15, 3) := by decide +kernel
theorem dX0_stampingLand_4 : decode cX0_stampingLand 4 = .ok (.iload_n 1, 1) := by decide +kernel
theorem dX0_stampingLand_5 : decode cX0_stampingLand 5 = .ok (.iaload, 1) := by decide +kernel
theorem dX0_stampingLand_6 : decode cX0_stampingLand 6 = .ok (.istore 4, 2) := by decide +kernel
theorem dX0_stampingLand_8 : decode cX0_stampingLand 8 = .ok (.iload 4, 2) := by decide +kernel
theorem dX0_stampingLand_10 : decode cX0_stampingLand 10 = .ok (.aload_n 0, 1) := by decide +kernel
theorem dX0_stampingLand_11 : decode cX0_stampingLand 11 = .ok (.getfield 15, 3) := by decide +kernel
theorem dX0_stampingLand_14 : decode cX0_stampingLand 14 = .ok (.iload_n 2, 1) := by decide +kernel
theorem dX0_stampingLand_15 : decode cX0_stampingLand 15 = .ok (.iaload, 1) := by decide +kernel
theorem dX0_stampingLand_16 : decode cX0_stampingLand 16 = .ok (.if_icmp .eq 20, 3) := by decide +kernel
theorem dX0_stampingLand_19 : decode cX0_stampingLand 19 = .ok (.aload_n 0, 1) := by decide +kernel
theorem dX0_stampingLand_20 : decode cX0_stampingLand 20 = .ok (.getfield 11, 3) := by decide +kernel
theorem dX0_stampingLand_23 : decode cX0_stampingLand 23 = .ok (.iload 4, 2) := by decide +kernel
theorem dX0_stampingLand_25 : decode cX0_stampingLand 25 = .ok (.iaload, 1) := by decide +kernel
theorem dX0_stampingLand_26 : decode cX0_stampingLand 26 = .ok (.iload_n 3, 1) := by decide +kernel
theorem dX0_stampingLand_27 : decode cX0_stampingLand 27 = .ok (.iand, 1) := by decide +kernel
theorem dX0_stampingLand_28 : decode cX0_stampingLand 28 = .ok (.ifCond .eq 8, 3) := by decide +kernel
theorem dX0_stampingLand_31 : decode cX0_stampingLand 31 = .ok (.iload 4, 2) := by decide +kernel
theorem dX0_stampingLand_33 : decode cX0_stampingLand 33 = .ok (.goto 4, 3) := by decide +kernel
theorem dX0_stampingLand_36 : decode cX0_stampingLand 36 = .ok (.iconst (-1), 1) := by decide +kernel
theorem dX0_stampingLand_37 : decode cX0_stampingLand 37 = .ok (.ireturn, 1) := by decide +kernel
theorem dX0_dayAt_0 : decode cX0_dayAt 0 = .ok (.iload_n 1, 1) := by decide +kernel
theorem dX0_dayAt_1 : decode cX0_dayAt 1 = .ok (.aload_n 0, 1) := by decide +kernel
theorem dX0_dayAt_2 : decode cX0_dayAt 2 = .ok (.getfield 18, 3) := by decide +kernel
theorem dX0_dayAt_5 : decode cX0_dayAt 5 = .ok (.iload_n 2, 1) := by decide +kernel
theorem dX0_dayAt_6 : decode cX0_dayAt 6 = .ok (.iaload, 1) := by decide +kernel
theorem dX0_dayAt_7 : decode cX0_dayAt 7 = .ok (.iadd, 1) := by decide +kernel
theorem dX0_dayAt_8 : decode cX0_dayAt 8 = .ok (.bipush 24, 2) := by decide +kernel
theorem dX0_dayAt_10 : decode cX0_dayAt 10 = .ok (.iadd, 1) := by decide +kernel
theorem dX0_dayAt_11 : decode cX0_dayAt 11 = .ok (.bipush 24, 2) := by decide +kernel
theorem dX0_dayAt_13 : decode cX0_dayAt 13 = .ok (.idiv, 1) := by decide +kernel
theorem dX0_dayAt_14 : decode cX0_dayAt 14 = .ok (.iconst 1, 1) := by decide +kernel
theorem dX0_dayAt_15 : decode cX0_dayAt 15 = .ok (.isub, 1) := by decide +kernel
theorem dX0_dayAt_16 : decode cX0_dayAt 16 = .ok (.ireturn, 1) := by decide +kernel
theorem dX1_init_0 : decode cX1_init 0 = .ok (.aload_n 0, 1) := by decide +kernel
theorem dX1_init_1 : decode cX1_init 1 = .ok (.invokespecial 3, 3) := by decide +kernel
theorem dX1_init_4 : decode cX1_init 4 = .ok (.aload_n 0, 1) := by decide +kernel
theorem dX1_init_5 : decode cX1_init 5 = .ok (.bipush 97, 2) := by decide +kernel
theorem dX1_init_7 : decode cX1_init 7 = .ok (.newarray .int, 2) := by decide +kernel
theorem dX1_init_9 : decode cX1_init 9 = .ok (.putfield 9, 3) := by decide +kernel
theorem dX1_init_12 : decode cX1_init 12 = .ok (.aload_n 0, 1) := by decide +kernel
theorem dX1_init_13 : decode cX1_init 13 = .ok (.iconst 4, 1) := by decide +kernel
theorem dX1_init_14 : decode cX1_init 14 = .ok (.newarray .int, 2) := by decide +kernel
theorem dX1_init_16 : decode cX1_init 16 = .ok (.putfield 17, 3) := by decide +kernel
theorem dX1_init_19 : decode cX1_init 19 = .ok (.aload_n 0, 1) := by decide +kernel
theorem dX1_init_20 : decode cX1_init 20 = .ok (.bipush 96, 2) := by decide +kernel
theorem dX1_init_22 : decode cX1_init 22 = .ok (.newarray .int, 2) := by decide +kernel
theorem dX1_init_24 : decode cX1_init 24 = .ok (.putfield 20, 3) := by decide +kernel
theorem dX1_init_27 : decode cX1_init 27 = .ok (.return_, 1) := by decide +kernel
theorem dX2_init_0 : decode cX2_init 0 = .ok (.aload_n 0, 1) := by decide +kernel
theorem dX2_init_1 : decode cX2_init 1 = .ok (.invokespecial 3, 3) := by decide +kernel
theorem dX2_init_4 : decode cX2_init 4 = .ok (.aload_n 0, 1) := by decide +kernel
theorem dX2_init_5 : decode cX2_init 5 = .ok (.bipush 96, 2) := by decide +kernel
theorem dX2_init_7 : decode cX2_init 7 = .ok (.putfield 9, 3) := by decide +kernel
theorem dX2_init_10 : decode cX2_init 10 = .ok (.aload_n 0, 1) := by decide +kernel
theorem dX2_init_11 : decode cX2_init 11 = .ok (.iconst 1, 1) := by decide +kernel
theorem dX2_init_12 : decode cX2_init 12 = .ok (.putfield 15, 3) := by decide +kernel
theorem dX2_init_15 : decode cX2_init 15 = .ok (.aload_n 0, 1) := by decide +kernel
theorem dX2_init_16 : decode cX2_init 16 = .ok (.bipush 8, 2) := by decide +kernel
theorem dX2_init_18 : decode cX2_init 18 = .ok (.newarray .int, 2) := by decide +kernel
theorem dX2_init_20 : decode cX2_init 20 = .ok (.putfield 19, 3) := by decide +kernel
theorem dX2_init_23 : decode cX2_init 23 = .ok (.aload_n 0, 1) := by decide +kernel
theorem dX2_init_24 : decode cX2_init 24 = .ok (.bipush 8, 2) := by decide +kernel
theorem dX2_init_26 : decode cX2_init 26 = .ok (.newarray .int, 2) := by decide +kernel
theorem dX2_init_28 : decode cX2_init 28 = .ok (.putfield 23, 3) := by decide +kernel
theorem dX2_init_31 : decode cX2_init 31 = .ok (.aload_n 0, 1) := by decide +kernel
theorem dX2_init_32 : decode cX2_init 32 = .ok (.bipush 8, 2) := by decide +kernel
theorem dX2_init_34 : decode cX2_init 34 = .ok (.newarray .int, 2) := by decide +kernel
theorem dX2_init_36 : decode cX2_init 36 = .ok (.putfield 26, 3) := by decide +kernel
theorem dX2_init_39 : decode cX2_init 39 = .ok (.aload_n 0, 1) := by decide +kernel
theorem dX2_init_40 : decode cX2_init 40 = .ok (.bipush 8, 2) := by decide +kernel
theorem dX2_init_42 : decode cX2_init 42 = .ok (.newarray .int, 2) := by decide +kernel
theorem dX2_init_44 : decode cX2_init 44 = .ok (.putfield 29, 3) := by decide +kernel
theorem dX2_init_47 : decode cX2_init 47 = .ok (.aload_n 0, 1) := by decide +kernel
theorem dX2_init_48 : decode cX2_init 48 = .ok (.bipush 8, 2) := by decide +kernel
theorem dX2_init_50 : decode cX2_init 50 = .ok (.newarray .boolean, 2) := by decide +kernel
theorem dX2_init_52 : decode cX2_init 52 = .ok (.putfield 32, 3) := by decide +kernel
theorem dX2_init_55 : decode cX2_init 55 = .ok (.aload_n 0, 1) := by decide +kernel
theorem dX2_init_56 : decode cX2_init 56 = .ok (.bipush 8, 2) := by decide +kernel
theorem dX2_init_58 : decode cX2_init 58 = .ok (.newarray .boolean, 2) := by decide +kernel
theorem dX2_init_60 : decode cX2_init 60 = .ok (.putfield 36, 3) := by decide +kernel
theorem dX2_init_63 : decode cX2_init 63 = .ok (.return_, 1) := by decide +kernel
theorem dX2_startAnew_0 : decode cX2_startAnew 0 = .ok (.aload_n 0, 1) := by decide +kernel
theorem dX2_startAnew_1 : decode cX2_startAnew 1 = .ok (.iconst 0, 1) := by decide +kernel
theorem dX2_startAnew_2 : decode cX2_startAnew 2 = .ok (.putfield 39, 3) := by decide +kernel
theorem dX2_startAnew_5 : decode cX2_startAnew 5 = .ok (.aload_n 0, 1) := by decide +kernel
theorem dX2_startAnew_6 : decode cX2_startAnew 6 = .ok (.iconst 0, 1) := by decide +kernel
theorem dX2_startAnew_7 : decode cX2_startAnew 7 = .ok (.iconst 0, 1) := by decide +kernel
theorem dX2_startAnew_8 : decode cX2_startAnew 8 = .ok (.bipush 96, 2) := by decide +kernel
theorem dX2_startAnew_10 : decode cX2_startAnew 10 = .ok (.invokevirtual 42, 3) := by decide +kernel
theorem dX2_startAnew_13 : decode cX2_startAnew 13 = .ok (.return_, 1) := by decide +kernel
theorem dX2_settle_0 : decode cX2_settle 0 = .ok (.aload_n 0, 1) := by decide +kernel
theorem dX2_settle_1 : decode cX2_settle 1 = .ok (.iload_n 1, 1) := by decide +kernel
theorem dX2_settle_2 : decode cX2_settle 2 = .ok (.putfield 46, 3) := by decide +kernel
theorem dX2_settle_5 : decode cX2_settle 5 = .ok (.aload_n 0, 1) := by decide +kernel
theorem dX2_settle_6 : decode cX2_settle 6 = .ok (.iload_n 2, 1) := by decide +kernel
theorem dX2_settle_7 : decode cX2_settle 7 = .ok (.putfield 49, 3) := by decide +kernel
theorem dX2_settle_10 : decode cX2_settle 10 = .ok (.aload_n 0, 1) := by decide +kernel
theorem dX2_settle_11 : decode cX2_settle 11 = .ok (.iload_n 3, 1) := by decide +kernel
theorem dX2_settle_12 : decode cX2_settle 12 = .ok (.putfield 9, 3) := by decide +kernel
theorem dX2_settle_15 : decode cX2_settle 15 = .ok (.aload_n 0, 1) := by decide +kernel
theorem dX2_settle_16 : decode cX2_settle 16 = .ok (.iconst 1, 1) := by decide +kernel
theorem dX2_settle_17 : decode cX2_settle 17 = .ok (.putfield 15, 3) := by decide +kernel
theorem dX2_settle_20 : decode cX2_settle 20 = .ok (.return_, 1) := by decide +kernel
theorem dX2_add_0 : decode cX2_add 0 = .ok (.aload_n 0, 1) := by decide +kernel
theorem dX2_add_1 : decode cX2_add 1 = .ok (.getfield 39, 3) := by decide +kernel
theorem dX2_add_4 : decode cX2_add 4 = .ok (.bipush 8, 2) := by decide +kernel
theorem dX2_add_6 : decode cX2_add 6 = .ok (.if_icmp .ge 15, 3) := by decide +kernel
theorem dX2_add_9 : decode cX2_add 9 = .ok (.aload_n 0, 1) := by decide +kernel
theorem dX2_add_10 : decode cX2_add 10 = .ok (.iload_n 1, 1) := by decide +kernel
theorem dX2_add_11 : decode cX2_add 11 = .ok (.invokevirtual 52, 3) := by decide +kernel
theorem dX2_add_14 : decode cX2_add 14 = .ok (.iload_n 1, 1) := by decide +kernel
theorem dX2_add_15 : decode cX2_add 15 = .ok (.invokestatic 56, 3) := by decide +kernel
theorem dX2_add_18 : decode cX2_add 18 = .ok (.if_icmp .lt 5, 3) := by decide +kernel
theorem dX2_add_21 : decode cX2_add 21 = .ok (.iconst (-1), 1) := by decide +kernel
theorem dX2_add_22 : decode cX2_add 22 = .ok (.ireturn, 1) := by decide +kernel
theorem dX2_add_23 : decode cX2_add 23 = .ok (.aload_n 0, 1) := by decide +kernel
theorem dX2_add_24 : decode cX2_add 24 = .ok (.getfield 19, 3) := by decide +kernel
theorem dX2_add_27 : decode cX2_add 27 = .ok (.aload_n 0, 1) := by decide +kernel
theorem dX2_add_28 : decode cX2_add 28 = .ok (.getfield 39, 3) := by decide +kernel
theorem dX2_add_31 : decode cX2_add 31 = .ok (.iload_n 1, 1) := by decide +kernel
theorem dX2_add_32 : decode cX2_add 32 = .ok (.iastore, 1) := by decide +kernel
theorem dX2_add_33 : decode cX2_add 33 = .ok (.aload_n 0, 1) := by decide +kernel
theorem dX2_add_34 : decode cX2_add 34 = .ok (.getfield 23, 3) := by decide +kernel
theorem dX2_add_37 : decode cX2_add 37 = .ok (.aload_n 0, 1) := by decide +kernel
theorem dX2_add_38 : decode cX2_add 38 = .ok (.getfield 39, 3) := by decide +kernel
theorem dX2_add_41 : decode cX2_add 41 = .ok (.iload_n 2, 1) := by decide +kernel
theorem dX2_add_42 : decode cX2_add 42 = .ok (.iastore, 1) := by decide +kernel
theorem dX2_add_43 : decode cX2_add 43 = .ok (.aload_n 0, 1) := by decide +kernel
theorem dX2_add_44 : decode cX2_add 44 = .ok (.getfield 26, 3) := by decide +kernel
theorem dX2_add_47 : decode cX2_add 47 = .ok (.aload_n 0, 1) := by decide +kernel
theorem dX2_add_48 : decode cX2_add 48 = .ok (.getfield 39, 3) := by decide +kernel
theorem dX2_add_51 : decode cX2_add 51 = .ok (.iload_n 3, 1) := by decide +kernel
theorem dX2_add_52 : decode cX2_add 52 = .ok (.iastore, 1) := by decide +kernel
theorem dX2_add_53 : decode cX2_add 53 = .ok (.aload_n 0, 1) := by decide +kernel
theorem dX2_add_54 : decode cX2_add 54 = .ok (.getfield 29, 3) := by decide +kernel
theorem dX2_add_57 : decode cX2_add 57 = .ok (.aload_n 0, 1) := by decide +kernel
theorem dX2_add_58 : decode cX2_add 58 = .ok (.getfield 39, 3) := by decide +kernel
theorem dX2_add_61 : decode cX2_add 61 = .ok (.iload 4, 2) := by decide +kernel
theorem dX2_add_63 : decode cX2_add 63 = .ok (.iastore, 1) := by decide +kernel
theorem dX2_add_64 : decode cX2_add 64 = .ok (.aload_n 0, 1) := by decide +kernel
theorem dX2_add_65 : decode cX2_add 65 = .ok (.getfield 32, 3) := by decide +kernel
theorem dX2_add_68 : decode cX2_add 68 = .ok (.aload_n 0, 1) := by decide +kernel
theorem dX2_add_69 : decode cX2_add 69 = .ok (.getfield 39, 3) := by decide +kernel
theorem dX2_add_72 : decode cX2_add 72 = .ok (.iconst 0, 1) := by decide +kernel
theorem dX2_add_73 : decode cX2_add 73 = .ok (.bastore, 1) := by decide +kernel
theorem dX2_add_74 : decode cX2_add 74 = .ok (.aload_n 0, 1) := by decide +kernel
theorem dX2_add_75 : decode cX2_add 75 = .ok (.getfield 36, 3) := by decide +kernel
theorem dX2_add_78 : decode cX2_add 78 = .ok (.aload_n 0, 1) := by decide +kernel
theorem dX2_add_79 : decode cX2_add 79 = .ok (.getfield 39, 3) := by decide +kernel
theorem dX2_add_82 : decode cX2_add 82 = .ok (.iconst 0, 1) := by decide +kernel
theorem dX2_add_83 : decode cX2_add 83 = .ok (.bastore, 1) := by decide +kernel
theorem dX2_add_84 : decode cX2_add 84 = .ok (.aload_n 0, 1) := by decide +kernel
theorem dX2_add_85 : decode cX2_add 85 = .ok (.dup, 1) := by decide +kernel
theorem dX2_add_86 : decode cX2_add 86 = .ok (.getfield 39, 3) := by decide +kernel
theorem dX2_add_89 : decode cX2_add 89 = .ok (.iconst 1, 1) := by decide +kernel
theorem dX2_add_90 : decode cX2_add 90 = .ok (.iadd, 1) := by decide +kernel
theorem dX2_add_91 : decode cX2_add 91 = .ok (.putfield 39, 3) := by decide +kernel
theorem dX2_add_94 : decode cX2_add 94 = .ok (.aload_n 0, 1) := by decide +kernel
theorem dX2_add_95 : decode cX2_add 95 = .ok (.iconst 1, 1) := by decide +kernel
theorem dX2_add_96 : decode cX2_add 96 = .ok (.putfield 15, 3) := by decide +kernel
theorem dX2_add_99 : decode cX2_add 99 = .ok (.aload_n 0, 1) := by decide +kernel
theorem dX2_add_100 : decode cX2_add 100 = .ok (.getfield 39, 3) := by decide +kernel
theorem dX2_add_103 : decode cX2_add 103 = .ok (.iconst 1, 1) := by decide +kernel
theorem dX2_add_104 : decode cX2_add 104 = .ok (.isub, 1) := by decide +kernel
theorem dX2_add_105 : decode cX2_add 105 = .ok (.ireturn, 1) := by decide +kernel
theorem dX2_howMany_0 : decode cX2_howMany 0 = .ok (.iconst 0, 1) := by decide +kernel
theorem dX2_howMany_1 : decode cX2_howMany 1 = .ok (.istore_n 2, 1) := by decide +kernel
theorem dX2_howMany_2 : decode cX2_howMany 2 = .ok (.iconst 0, 1) := by decide +kernel
theorem dX2_howMany_3 : decode cX2_howMany 3 = .ok (.istore_n 3, 1) := by decide +kernel
theorem dX2_howMany_4 : decode cX2_howMany 4 = .ok (.iload_n 3, 1) := by decide +kernel
theorem dX2_howMany_5 : decode cX2_howMany 5 = .ok (.aload_n 0, 1) := by decide +kernel
theorem dX2_howMany_6 : decode cX2_howMany 6 = .ok (.getfield 39, 3) := by decide +kernel
theorem dX2_howMany_9 : decode cX2_howMany 9 = .ok (.if_icmp .ge 22, 3) := by decide +kernel
theorem dX2_howMany_12 : decode cX2_howMany 12 = .ok (.aload_n 0, 1) := by decide +kernel
theorem dX2_howMany_13 : decode cX2_howMany 13 = .ok (.getfield 19, 3) := by decide +kernel
theorem dX2_howMany_16 : decode cX2_howMany 16 = .ok (.iload_n 3, 1) := by decide +kernel
theorem dX2_howMany_17 : decode cX2_howMany 17 = .ok (.iaload, 1) := by decide +kernel
theorem dX2_howMany_18 : decode cX2_howMany 18 = .ok (.iload_n 1, 1) := by decide +kernel
theorem dX2_howMany_19 : decode cX2_howMany 19 = .ok (.if_icmp .ne 6, 3) := by decide +kernel
theorem dX2_howMany_22 : decode cX2_howMany 22 = .ok (.iinc 2 1, 3) := by decide +kernel
theorem dX2_howMany_25 : decode cX2_howMany 25 = .ok (.iinc 3 1, 3) := by decide +kernel
theorem dX2_howMany_28 : decode cX2_howMany 28 = .ok (.goto (-24), 3) := by decide +kernel
theorem dX2_howMany_31 : decode cX2_howMany 31 = .ok (.iload_n 2, 1) := by decide +kernel
theorem dX2_howMany_32 : decode cX2_howMany 32 = .ok (.ireturn, 1) := by decide +kernel
theorem dX2_mostOf_0 : decode cX2_mostOf 0 = .ok (.iload_n 0, 1) := by decide +kernel
theorem dX2_mostOf_1 : decode cX2_mostOf 1 = .ok (.ifCond .ne 6, 3) := by decide +kernel
theorem dX2_mostOf_4 : decode cX2_mostOf 4 = .ok (.bipush 6, 2) := by decide +kernel
theorem dX2_mostOf_6 : decode cX2_mostOf 6 = .ok (.ireturn, 1) := by decide +kernel
theorem dX2_mostOf_7 : decode cX2_mostOf 7 = .ok (.iload_n 0, 1) := by decide +kernel
theorem dX2_mostOf_8 : decode cX2_mostOf 8 = .ok (.iconst 2, 1) := by decide +kernel
theorem dX2_mostOf_9 : decode cX2_mostOf 9 = .ok (.if_icmp .ne 7, 3) := by decide +kernel
theorem dX2_mostOf_12 : decode cX2_mostOf 12 = .ok (.iconst 2, 1) := by decide +kernel
theorem dX2_mostOf_13 : decode cX2_mostOf 13 = .ok (.goto 5, 3) := by decide +kernel
theorem dX2_mostOf_16 : decode cX2_mostOf 16 = .ok (.bipush 8, 2) := by decide +kernel
theorem dX2_mostOf_18 : decode cX2_mostOf 18 = .ok (.ireturn, 1) := by decide +kernel
theorem dX2_has_0 : decode cX2_has 0 = .ok (.iload_n 1, 1) := by decide +kernel
theorem dX2_has_1 : decode cX2_has 1 = .ok (.ifCond .lt 15, 3) := by decide +kernel
theorem dX2_has_4 : decode cX2_has 4 = .ok (.iload_n 1, 1) := by decide +kernel
theorem dX2_has_5 : decode cX2_has 5 = .ok (.aload_n 0, 1) := by decide +kernel
theorem dX2_has_6 : decode cX2_has 6 = .ok (.getfield 39, 3) := by decide +kernel
theorem dX2_has_9 : decode cX2_has 9 = .ok (.if_icmp .ge 7, 3) := by decide +kernel
theorem dX2_has_12 : decode cX2_has 12 = .ok (.iconst 1, 1) := by decide +kernel
theorem dX2_has_13 : decode cX2_has 13 = .ok (.goto 4, 3) := by decide +kernel
theorem dX2_has_16 : decode cX2_has 16 = .ok (.iconst 0, 1) := by decide +kernel
theorem dX2_has_17 : decode cX2_has 17 = .ok (.ireturn, 1) := by decide +kernel
theorem dX2_setDoubted_0 : decode cX2_setDoubted 0 = .ok (.aload_n 0, 1) := by decide +kernel
theorem dX2_setDoubted_1 : decode cX2_setDoubted 1 = .ok (.iload_n 1, 1) := by decide +kernel
theorem dX2_setDoubted_2 : decode cX2_setDoubted 2 = .ok (.invokevirtual 59, 3) := by decide +kernel
theorem dX2_setDoubted_5 : decode cX2_setDoubted 5 = .ok (.ifCond .eq 13, 3) := by decide +kernel
theorem dX2_setDoubted_8 : decode cX2_setDoubted 8 = .ok (.aload_n 0, 1) := by decide +kernel
theorem dX2_setDoubted_9 : decode cX2_setDoubted 9 = .ok (.getfield 36, 3) := by decide +kernel
theorem dX2_setDoubted_12 : decode cX2_setDoubted 12 = .ok (.iload_n 1, 1) := by decide +kernel
theorem dX2_setDoubted_13 : decode cX2_setDoubted 13 = .ok (.baload, 1) := by decide +kernel
theorem dX2_setDoubted_14 : decode cX2_setDoubted 14 = .ok (.iload_n 2, 1) := by decide +kernel
theorem dX2_setDoubted_15 : decode cX2_setDoubted 15 = .ok (.if_icmp .ne 5, 3) := by decide +kernel
theorem dX2_setDoubted_18 : decode cX2_setDoubted 18 = .ok (.iconst 0, 1) := by decide +kernel
theorem dX2_setDoubted_19 : decode cX2_setDoubted 19 = .ok (.ireturn, 1) := by decide +kernel
theorem dX2_setDoubted_20 : decode cX2_setDoubted 20 = .ok (.aload_n 0, 1) := by decide +kernel
theorem dX2_setDoubted_21 : decode cX2_setDoubted 21 = .ok (.getfield 36, 3) := by decide +kernel
theorem dX2_setDoubted_24 : decode cX2_setDoubted 24 = .ok (.iload_n 1, 1) := by decide +kernel
theorem dX2_setDoubted_25 : decode cX2_setDoubted 25 = .ok (.iload_n 2, 1) := by decide +kernel
theorem dX2_setDoubted_26 : decode cX2_setDoubted 26 = .ok (.bastore, 1) := by decide +kernel
theorem dX2_setDoubted_27 : decode cX2_setDoubted 27 = .ok (.aload_n 0, 1) := by decide +kernel
theorem dX2_setDoubted_28 : decode cX2_setDoubted 28 = .ok (.iconst 1, 1) := by decide +kernel
theorem dX2_setDoubted_29 : decode cX2_setDoubted 29 = .ok (.putfield 15, 3) := by decide +kernel
theorem dX2_setDoubted_32 : decode cX2_setDoubted 32 = .ok (.iconst 1, 1) := by decide +kernel
theorem dX2_setDoubted_33 : decode cX2_setDoubted 33 = .ok (.ireturn, 1) := by decide +kernel
theorem dX2_dropLast_0 : decode cX2_dropLast 0 = .ok (.aload_n 0, 1) := by decide +kernel
theorem dX2_dropLast_1 : decode cX2_dropLast 1 = .ok (.getfield 39, 3) := by decide +kernel
theorem dX2_dropLast_4 : decode cX2_dropLast 4 = .ok (.ifCond .ne 5, 3) := by decide +kernel
theorem dX2_dropLast_7 : decode cX2_dropLast 7 = .ok (.iconst (-1), 1) := by decide +kernel
theorem dX2_dropLast_8 : decode cX2_dropLast 8 = .ok (.ireturn, 1) := by decide +kernel
theorem dX2_dropLast_9 : decode cX2_dropLast 9 = .ok (.aload_n 0, 1) := by decide +kernel
theorem dX2_dropLast_10 : decode cX2_dropLast 10 = .ok (.dup, 1) := by decide +kernel
theorem dX2_dropLast_11 : decode cX2_dropLast 11 = .ok (.getfield 39, 3) := by decide +kernel
theorem dX2_dropLast_14 : decode cX2_dropLast 14 = .ok (.iconst 1, 1) := by decide +kernel
theorem dX2_dropLast_15 : decode cX2_dropLast 15 = .ok (.isub, 1) := by decide +kernel
theorem dX2_dropLast_16 : decode cX2_dropLast 16 = .ok (.putfield 39, 3) := by decide +kernel
theorem dX2_dropLast_19 : decode cX2_dropLast 19 = .ok (.aload_n 0, 1) := by decide +kernel
theorem dX2_dropLast_20 : decode cX2_dropLast 20 = .ok (.iconst 1, 1) := by decide +kernel
theorem dX2_dropLast_21 : decode cX2_dropLast 21 = .ok (.putfield 15, 3) := by decide +kernel
theorem dX2_dropLast_24 : decode cX2_dropLast 24 = .ok (.aload_n 0, 1) := by decide +kernel
theorem dX2_dropLast_25 : decode cX2_dropLast 25 = .ok (.getfield 39, 3) := by decide +kernel
theorem dX2_dropLast_28 : decode cX2_dropLast 28 = .ok (.ireturn, 1) := by decide +kernel
theorem dX2_counts_0 : decode cX2_counts 0 = .ok (.aload_n 0, 1) := by decide +kernel
theorem dX2_counts_1 : decode cX2_counts 1 = .ok (.iload_n 1, 1) := by decide +kernel
theorem dX2_counts_2 : decode cX2_counts 2 = .ok (.invokevirtual 59, 3) := by decide +kernel
theorem dX2_counts_5 : decode cX2_counts 5 = .ok (.ifCond .eq 26, 3) := by decide +kernel
theorem dX2_counts_8 : decode cX2_counts 8 = .ok (.aload_n 0, 1) := by decide +kernel
theorem dX2_counts_9 : decode cX2_counts 9 = .ok (.getfield 19, 3) := by decide +kernel
theorem dX2_counts_12 : decode cX2_counts 12 = .ok (.iload_n 1, 1) := by decide +kernel
theorem dX2_counts_13 : decode cX2_counts 13 = .ok (.iaload, 1) := by decide +kernel
theorem dX2_counts_14 : decode cX2_counts 14 = .ok (.iload_n 2, 1) := by decide +kernel
theorem dX2_counts_15 : decode cX2_counts 15 = .ok (.if_icmp .ne 16, 3) := by decide +kernel
theorem dX2_counts_18 : decode cX2_counts 18 = .ok (.aload_n 0, 1) := by decide +kernel
theorem dX2_counts_19 : decode cX2_counts 19 = .ok (.getfield 36, 3) := by decide +kernel
theorem dX2_counts_22 : decode cX2_counts 22 = .ok (.iload_n 1, 1) := by decide +kernel
theorem dX2_counts_23 : decode cX2_counts 23 = .ok (.baload, 1) := by decide +kernel
theorem dX2_counts_24 : decode cX2_counts 24 = .ok (.ifCond .ne 7, 3) := by decide +kernel
theorem dX2_counts_27 : decode cX2_counts 27 = .ok (.iconst 1, 1) := by decide +kernel
theorem dX2_counts_28 : decode cX2_counts 28 = .ok (.goto 4, 3) := by decide +kernel
theorem dX2_counts_31 : decode cX2_counts 31 = .ok (.iconst 0, 1) := by decide +kernel
theorem dX2_counts_32 : decode cX2_counts 32 = .ok (.ireturn, 1) := by decide +kernel
theorem dX2_stampFits_0 : decode cX2_stampFits 0 = .ok (.iload_n 1, 1) := by decide +kernel
theorem dX2_stampFits_1 : decode cX2_stampFits 1 = .ok (.ifCond .lt 57, 3) := by decide +kernel
theorem dX2_stampFits_4 : decode cX2_stampFits 4 = .ok (.iload_n 1, 1) := by decide +kernel
theorem dX2_stampFits_5 : decode cX2_stampFits 5 = .ok (.aload_n 0, 1) := by decide +kernel
theorem dX2_stampFits_6 : decode cX2_stampFits 6 = .ok (.getfield 39, 3) := by decide +kernel
theorem dX2_stampFits_9 : decode cX2_stampFits 9 = .ok (.if_icmp .ge 49, 3) := by decide +kernel
theorem dX2_stampFits_12 : decode cX2_stampFits 12 = .ok (.aload_n 0, 1) := by decide +kernel
theorem dX2_stampFits_13 : decode cX2_stampFits 13 = .ok (.getfield 23, 3) := by decide +kernel
theorem dX2_stampFits_16 : decode cX2_stampFits 16 = .ok (.iload_n 1, 1) := by decide +kernel
theorem dX2_stampFits_17 : decode cX2_stampFits 17 = .ok (.iaload, 1) := by decide +kernel
theorem dX2_stampFits_18 : decode cX2_stampFits 18 = .ok (.iload_n 2, 1) := by decide +kernel
theorem dX2_stampFits_19 : decode cX2_stampFits 19 = .ok (.if_icmp .ne 39, 3) := by decide +kernel
theorem dX2_stampFits_22 : decode cX2_stampFits 22 = .ok (.aload_n 0, 1) := by decide +kernel
theorem dX2_stampFits_23 : decode cX2_stampFits 23 = .ok (.getfield 32, 3) := by decide +kernel
theorem dX2_stampFits_26 : decode cX2_stampFits 26 = .ok (.iload_n 1, 1) := by decide +kernel
theorem dX2_stampFits_27 : decode cX2_stampFits 27 = .ok (.baload, 1) := by decide +kernel
theorem dX2_stampFits_28 : decode cX2_stampFits 28 = .ok (.iload_n 3, 1) := by decide +kernel
theorem dX2_stampFits_29 : decode cX2_stampFits 29 = .ok (.if_icmp .ne 29, 3) := by decide +kernel
theorem dX2_stampFits_32 : decode cX2_stampFits 32 = .ok (.iload 4, 2) := by decide +kernel
theorem dX2_stampFits_34 : decode cX2_stampFits 34 = .ok (.aload_n 0, 1) := by decide +kernel
theorem dX2_stampFits_35 : decode cX2_stampFits 35 = .ok (.getfield 26, 3) := by decide +kernel
theorem dX2_stampFits_38 : decode cX2_stampFits 38 = .ok (.iload_n 1, 1) := by decide +kernel
theorem dX2_stampFits_39 : decode cX2_stampFits 39 = .ok (.iaload, 1) := by decide +kernel
theorem dX2_stampFits_40 : decode cX2_stampFits 40 = .ok (.if_icmp .lt 18, 3) := by decide +kernel
theorem dX2_stampFits_43 : decode cX2_stampFits 43 = .ok (.iload 4, 2) := by decide +kernel
theorem dX2_stampFits_45 : decode cX2_stampFits 45 = .ok (.aload_n 0, 1) := by decide +kernel
theorem dX2_stampFits_46 : decode cX2_stampFits 46 = .ok (.getfield 29, 3) := by decide +kernel
theorem dX2_stampFits_49 : decode cX2_stampFits 49 = .ok (.iload_n 1, 1) := by decide +kernel
theorem dX2_stampFits_50 : decode cX2_stampFits 50 = .ok (.iaload, 1) := by decide +kernel
theorem dX2_stampFits_51 : decode cX2_stampFits 51 = .ok (.if_icmp .gt 7, 3) := by decide +kernel
theorem dX2_stampFits_54 : decode cX2_stampFits 54 = .ok (.iconst 1, 1) := by decide +kernel
theorem dX2_stampFits_55 : decode cX2_stampFits 55 = .ok (.goto 4, 3) := by decide +kernel
theorem dX2_stampFits_58 : decode cX2_stampFits 58 = .ok (.iconst 0, 1) := by decide +kernel
theorem dX2_stampFits_59 : decode cX2_stampFits 59 = .ok (.ireturn, 1) := by decide +kernel
theorem dX3_init_0 : decode cX3_init 0 = .ok (.aload_n 0, 1) := by decide +kernel
theorem dX3_init_1 : decode cX3_init 1 = .ok (.invokespecial 3, 3) := by decide +kernel
theorem dX3_init_4 : decode cX3_init 4 = .ok (.aload_n 0, 1) := by decide +kernel
theorem dX3_init_5 : decode cX3_init 5 = .ok (.iconst 4, 1) := by decide +kernel
theorem dX3_init_6 : decode cX3_init 6 = .ok (.newarray .long, 2) := by decide +kernel
theorem dX3_init_8 : decode cX3_init 8 = .ok (.putfield 11, 3) := by decide +kernel
theorem dX3_init_11 : decode cX3_init 11 = .ok (.aload_n 0, 1) := by decide +kernel
theorem dX3_init_12 : decode cX3_init 12 = .ok (.bipush 8, 2) := by decide +kernel
theorem dX3_init_14 : decode cX3_init 14 = .ok (.newarray .long, 2) := by decide +kernel
theorem dX3_init_16 : decode cX3_init 16 = .ok (.putfield 17, 3) := by decide +kernel
theorem dX3_init_19 : decode cX3_init 19 = .ok (.aload_n 0, 1) := by decide +kernel
theorem dX3_init_20 : decode cX3_init 20 = .ok (.aload_n 1, 1) := by decide +kernel
theorem dX3_init_21 : decode cX3_init 21 = .ok (.putfield 20, 3) := by decide +kernel
theorem dX3_init_24 : decode cX3_init 24 = .ok (.aload_n 0, 1) := by decide +kernel
theorem dX3_init_25 : decode cX3_init 25 = .ok (.aload_n 2, 1) := by decide +kernel
theorem dX3_init_26 : decode cX3_init 26 = .ok (.putfield 24, 3) := by decide +kernel
theorem dX3_init_29 : decode cX3_init 29 = .ok (.return_, 1) := by decide +kernel
theorem dX3_faultOf_0 : decode cX3_faultOf 0 = .ok (.aload_n 0, 1) := by decide +kernel
theorem dX3_faultOf_1 : decode cX3_faultOf 1 = .ok (.iload_n 1, 1) := by decide +kernel
theorem dX3_faultOf_2 : decode cX3_faultOf 2 = .ok (.aload_n 0, 1) := by decide +kernel
theorem dX3_faultOf_3 : decode cX3_faultOf 3 = .ok (.getfield 20, 3) := by decide +kernel
theorem dX3_faultOf_6 : decode cX3_faultOf 6 = .ok (.arraylength, 1) := by decide +kernel
theorem dX3_faultOf_7 : decode cX3_faultOf 7 = .ok (.invokestatic 28, 3) := by decide +kernel
theorem dX3_faultOf_10 : decode cX3_faultOf 10 = .ok (.putfield 34, 3) := by decide +kernel
theorem dX3_faultOf_13 : decode cX3_faultOf 13 = .ok (.aload_n 0, 1) := by decide +kernel
theorem dX3_faultOf_14 : decode cX3_faultOf 14 = .ok (.iconst 0, 1) := by decide +kernel
theorem dX3_faultOf_15 : decode cX3_faultOf 15 = .ok (.putfield 38, 3) := by decide +kernel
theorem dX3_faultOf_18 : decode cX3_faultOf 18 = .ok (.aload_n 0, 1) := by decide +kernel
theorem dX3_faultOf_19 : decode cX3_faultOf 19 = .ok (.getfield 24, 3) := by decide +kernel
theorem dX3_faultOf_22 : decode cX3_faultOf 22 = .ok (.invokevirtual 41, 3) := by decide +kernel
theorem dX3_faultOf_25 : decode cX3_faultOf 25 = .ok (.aload_n 0, 1) := by decide +kernel
theorem dX3_faultOf_26 : decode cX3_faultOf 26 = .ok (.invokevirtual 44, 3) := by decide +kernel
theorem dX3_faultOf_29 : decode cX3_faultOf 29 = .ok (.iconst 0, 1) := by decide +kernel
theorem dX3_faultOf_30 : decode cX3_faultOf 30 = .ok (.istore_n 2, 1) := by decide +kernel
theorem dX3_faultOf_31 : decode cX3_faultOf 31 = .ok (.iload_n 2, 1) := by decide +kernel
theorem dX3_faultOf_32 : decode cX3_faultOf 32 = .ok (.sipush 500, 3) := by decide +kernel
theorem dX3_faultOf_35 : decode cX3_faultOf 35 = .ok (.if_icmp .ge 28, 3) := by decide +kernel
theorem dX3_faultOf_38 : decode cX3_faultOf 38 = .ok (.aload_n 0, 1) := by decide +kernel
theorem dX3_faultOf_39 : decode cX3_faultOf 39 = .ok (.getfield 47, 3) := by decide +kernel
theorem dX3_faultOf_42 : decode cX3_faultOf 42 = .ok (.ifCond .eq 21, 3) := by decide +kernel
theorem dX3_faultOf_45 : decode cX3_faultOf 45 = .ok (.aload_n 0, 1) := by decide +kernel
theorem dX3_faultOf_46 : decode cX3_faultOf 46 = .ok (.invokevirtual 50, 3) := by decide +kernel
theorem dX3_faultOf_49 : decode cX3_faultOf 49 = .ok (.ifCond .ne 8, 3) := by decide +kernel
theorem dX3_faultOf_52 : decode cX3_faultOf 52 = .ok (.aload_n 0, 1) := by decide +kernel
theorem dX3_faultOf_53 : decode cX3_faultOf 53 = .ok (.getfield 54, 3) := by decide +kernel
theorem dX3_faultOf_56 : decode cX3_faultOf 56 = .ok (.ireturn, 1) := by decide +kernel
theorem dX3_faultOf_57 : decode cX3_faultOf 57 = .ok (.iinc 2 1, 3) := by decide +kernel
theorem dX3_faultOf_60 : decode cX3_faultOf 60 = .ok (.goto (-29), 3) := by decide +kernel
theorem dX3_faultOf_63 : decode cX3_faultOf 63 = .ok (.aload_n 0, 1) := by decide +kernel
theorem dX3_faultOf_64 : decode cX3_faultOf 64 = .ok (.getfield 24, 3) := by decide +kernel
theorem dX3_faultOf_67 : decode cX3_faultOf 67 = .ok (.getfield 57, 3) := by decide +kernel
theorem dX3_faultOf_70 : decode cX3_faultOf 70 = .ok (.ifCond .ne 10, 3) := by decide +kernel
theorem dX3_faultOf_73 : decode cX3_faultOf 73 = .ok (.aload_n 0, 1) := by decide +kernel
theorem dX3_faultOf_74 : decode cX3_faultOf 74 = .ok (.getfield 34, 3) := by decide +kernel
theorem dX3_faultOf_77 : decode cX3_faultOf 77 = .ok (.goto 4, 3) := by decide +kernel
theorem dX3_faultOf_80 : decode cX3_faultOf 80 = .ok (.iconst (-1), 1) := by decide +kernel
theorem dX3_faultOf_81 : decode cX3_faultOf 81 = .ok (.ireturn, 1) := by decide +kernel
theorem dX3_readLine_0 : decode cX3_readLine 0 = .ok (.aload_n 0, 1) := by decide +kernel
theorem dX3_readLine_1 : decode cX3_readLine 1 = .ok (.ldc 60, 2) := by decide +kernel
theorem dX3_readLine_3 : decode cX3_readLine 3 = .ok (.invokevirtual 62, 3) := by decide +kernel
theorem dX3_readLine_6 : decode cX3_readLine 6 = .ok (.ifCond .eq 8, 3) := by decide +kernel
theorem dX3_readLine_9 : decode cX3_readLine 9 = .ok (.aload_n 0, 1) := by decide +kernel
theorem dX3_readLine_10 : decode cX3_readLine 10 = .ok (.invokevirtual 66, 3) := by decide +kernel
theorem dX3_readLine_13 : decode cX3_readLine 13 = .ok (.ireturn, 1) := by decide +kernel
theorem dX3_readLine_14 : decode cX3_readLine 14 = .ok (.aload_n 0, 1) := by decide +kernel
theorem dX3_readLine_15 : decode cX3_readLine 15 = .ok (.ldc 69, 2) := by decide +kernel
theorem dX3_readLine_17 : decode cX3_readLine 17 = .ok (.invokevirtual 62, 3) := by decide +kernel
theorem dX3_readLine_20 : decode cX3_readLine 20 = .ok (.ifCond .eq 8, 3) := by decide +kernel
theorem dX3_readLine_23 : decode cX3_readLine 23 = .ok (.aload_n 0, 1) := by decide +kernel
theorem dX3_readLine_24 : decode cX3_readLine 24 = .ok (.invokevirtual 71, 3) := by decide +kernel
theorem dX3_readLine_27 : decode cX3_readLine 27 = .ok (.ireturn, 1) := by decide +kernel
theorem dX3_readLine_28 : decode cX3_readLine 28 = .ok (.aload_n 0, 1) := by decide +kernel
theorem dX3_readLine_29 : decode cX3_readLine 29 = .ok (.ldc 74, 2) := by decide +kernel
theorem dX3_readLine_31 : decode cX3_readLine 31 = .ok (.invokevirtual 62, 3) := by decide +kernel
theorem dX3_readLine_34 : decode cX3_readLine 34 = .ok (.ifCond .eq 9, 3) := by decide +kernel
theorem dX3_readLine_37 : decode cX3_readLine 37 = .ok (.aload_n 0, 1) := by decide +kernel
theorem dX3_readLine_38 : decode cX3_readLine 38 = .ok (.iconst 1, 1) := by decide +kernel
theorem dX3_readLine_39 : decode cX3_readLine 39 = .ok (.invokevirtual 76, 3) := by decide +kernel
theorem dX3_readLine_42 : decode cX3_readLine 42 = .ok (.ireturn, 1) := by decide +kernel
theorem dX3_readLine_43 : decode cX3_readLine 43 = .ok (.aload_n 0, 1) := by decide +kernel
theorem dX3_readLine_44 : decode cX3_readLine 44 = .ok (.ldc 80, 2) := by decide +kernel
theorem dX3_readLine_46 : decode cX3_readLine 46 = .ok (.invokevirtual 62, 3) := by decide +kernel
theorem dX3_readLine_49 : decode cX3_readLine 49 = .ok (.ifCond .eq 15, 3) := by decide +kernel
theorem dX3_readLine_52 : decode cX3_readLine 52 = .ok (.aload_n 0, 1) := by decide +kernel
theorem dX3_readLine_53 : decode cX3_readLine 53 = .ok (.iconst 0, 1) := by decide +kernel
theorem dX3_readLine_54 : decode cX3_readLine 54 = .ok (.invokevirtual 76, 3) := by decide +kernel
theorem dX3_readLine_57 : decode cX3_readLine 57 = .ok (.ifCond .eq 7, 3) := by decide +kernel
theorem dX3_readLine_60 : decode cX3_readLine 60 = .ok (.iconst 1, 1) := by decide +kernel
theorem dX3_readLine_61 : decode cX3_readLine 61 = .ok (.goto 4, 3) := by decide +kernel
theorem dX3_readLine_64 : decode cX3_readLine 64 = .ok (.iconst 0, 1) := by decide +kernel
theorem dX3_readLine_65 : decode cX3_readLine 65 = .ok (.ireturn, 1) := by decide +kernel
theorem dX3_readLand_0 : decode cX3_readLand 0 = .ok (.aload_n 0, 1) := by decide +kernel
theorem dX3_readLand_1 : decode cX3_readLand 1 = .ok (.getfield 24, 3) := by decide +kernel
theorem dX3_readLand_4 : decode cX3_readLand 4 = .ok (.getfield 82, 3) := by decide +kernel
theorem dX3_readLand_7 : decode cX3_readLand 7 = .ok (.iconst 4, 1) := by decide +kernel
theorem dX3_readLand_8 : decode cX3_readLand 8 = .ok (.if_icmp .lt 5, 3) := by decide +kernel
theorem dX3_readLand_11 : decode cX3_readLand 11 = .ok (.iconst 0, 1) := by decide +kernel
theorem dX3_readLand_12 : decode cX3_readLand 12 = .ok (.ireturn, 1) := by decide +kernel
theorem dX3_readLand_13 : decode cX3_readLand 13 = .ok (.aload_n 0, 1) := by decide +kernel
theorem dX3_readLand_14 : decode cX3_readLand 14 = .ok (.invokevirtual 44, 3) := by decide +kernel
theorem dX3_readLand_17 : decode cX3_readLand 17 = .ok (.aload_n 0, 1) := by decide +kernel
theorem dX3_readLand_18 : decode cX3_readLand 18 = .ok (.invokevirtual 85, 3) := by decide +kernel
theorem dX3_readLand_21 : decode cX3_readLand 21 = .ok (.ifCond .ne 5, 3) := by decide +kernel
theorem dX3_readLand_24 : decode cX3_readLand 24 = .ok (.iconst 0, 1) := by decide +kernel
theorem dX3_readLand_25 : decode cX3_readLand 25 = .ok (.ireturn, 1) := by decide +kernel
theorem dX3_readLand_26 : decode cX3_readLand 26 = .ok (.aload_n 0, 1) := by decide +kernel
theorem dX3_readLand_27 : decode cX3_readLand 27 = .ok (.getfield 88, 3) := by decide +kernel
theorem dX3_readLand_30 : decode cX3_readLand 30 = .ok (.lstore_n 1, 1) := by decide +kernel
theorem dX3_readLand_31 : decode cX3_readLand 31 = .ok (.aload_n 0, 1) := by decide +kernel
theorem dX3_readLand_32 : decode cX3_readLand 32 = .ok (.invokevirtual 44, 3) := by decide +kernel
theorem dX3_readLand_35 : decode cX3_readLand 35 = .ok (.aload_n 0, 1) := by decide +kernel
theorem dX3_readLand_36 : decode cX3_readLand 36 = .ok (.invokevirtual 92, 3) := by decide +kernel
theorem dX3_readLand_39 : decode cX3_readLand 39 = .ok (.istore_n 3, 1) := by decide +kernel
theorem dX3_readLand_40 : decode cX3_readLand 40 = .ok (.iload_n 3, 1) := by decide +kernel
theorem dX3_readLand_41 : decode cX3_readLand 41 = .ok (.ifCond .ge 5, 3) := by decide +kernel
theorem dX3_readLand_44 : decode cX3_readLand 44 = .ok (.iconst 0, 1) := by decide +kernel
theorem dX3_readLand_45 : decode cX3_readLand 45 = .ok (.ireturn, 1) := by decide +kernel
theorem dX3_readLand_46 : decode cX3_readLand 46 = .ok (.aload_n 0, 1) := by decide +kernel
theorem dX3_readLand_47 : decode cX3_readLand 47 = .ok (.invokevirtual 44, 3) := by decide +kernel
theorem dX3_readLand_50 : decode cX3_readLand 50 = .ok (.aload_n 0, 1) := by decide +kernel
theorem dX3_readLand_51 : decode cX3_readLand 51 = .ok (.getfield 47, 3) := by decide +kernel
theorem dX3_readLand_54 : decode cX3_readLand 54 = .ok (.iconst 3, 1) := by decide +kernel
theorem dX3_readLand_55 : decode cX3_readLand 55 = .ok (.if_icmp .eq 5, 3) := by decide +kernel
theorem dX3_readLand_58 : decode cX3_readLand 58 = .ok (.iconst 0, 1) := by decide +kernel
theorem dX3_readLand_59 : decode cX3_readLand 59 = .ok (.ireturn, 1) := by decide +kernel
theorem dX3_readLand_60 : decode cX3_readLand 60 = .ok (.aload_n 0, 1) := by decide +kernel
theorem dX3_readLand_61 : decode cX3_readLand 61 = .ok (.invokevirtual 44, 3) := by decide +kernel
theorem dX3_readLand_64 : decode cX3_readLand 64 = .ok (.aload_n 0, 1) := by decide +kernel
theorem dX3_readLand_65 : decode cX3_readLand 65 = .ok (.getfield 11, 3) := by decide +kernel
theorem dX3_readLand_68 : decode cX3_readLand 68 = .ok (.aload_n 0, 1) := by decide +kernel
theorem dX3_readLand_69 : decode cX3_readLand 69 = .ok (.getfield 24, 3) := by decide +kernel
theorem dX3_readLand_72 : decode cX3_readLand 72 = .ok (.getfield 82, 3) := by decide +kernel
theorem dX3_readLand_75 : decode cX3_readLand 75 = .ok (.lload_n 1, 1) := by decide +kernel
theorem dX3_readLand_76 : decode cX3_readLand 76 = .ok (.lastore, 1) := by decide +kernel
theorem dX3_readLand_77 : decode cX3_readLand 77 = .ok (.aload_n 0, 1) := by decide +kernel
theorem dX3_readLand_78 : decode cX3_readLand 78 = .ok (.getfield 24, 3) := by decide +kernel
theorem dX3_readLand_81 : decode cX3_readLand 81 = .ok (.iload_n 3, 1) := by decide +kernel
theorem dX3_readLand_82 : decode cX3_readLand 82 = .ok (.invokevirtual 96, 3) := by decide +kernel
theorem dX3_readLand_85 : decode cX3_readLand 85 = .ok (.iconst 1, 1) := by decide +kernel
theorem dX3_readLand_86 : decode cX3_readLand 86 = .ok (.ireturn, 1) := by decide +kernel
theorem dX3_readTown_0 : decode cX3_readTown 0 = .ok (.aload_n 0, 1) := by decide +kernel
theorem dX3_readTown_1 : decode cX3_readTown 1 = .ok (.getfield 24, 3) := by decide +kernel
theorem dX3_readTown_4 : decode cX3_readTown 4 = .ok (.getfield 57, 3) := by decide +kernel
theorem dX3_readTown_7 : decode cX3_readTown 7 = .ok (.bipush 8, 2) := by decide +kernel
theorem dX3_readTown_9 : decode cX3_readTown 9 = .ok (.if_icmp .lt 5, 3) := by decide +kernel
theorem dX3_readTown_12 : decode cX3_readTown 12 = .ok (.iconst 0, 1) := by decide +kernel
theorem dX3_readTown_13 : decode cX3_readTown 13 = .ok (.ireturn, 1) := by decide +kernel
theorem dX3_readTown_14 : decode cX3_readTown 14 = .ok (.aload_n 0, 1) := by decide +kernel
theorem dX3_readTown_15 : decode cX3_readTown 15 = .ok (.invokevirtual 44, 3) := by decide +kernel
theorem dX3_readTown_18 : decode cX3_readTown 18 = .ok (.aload_n 0, 1) := by decide +kernel
theorem dX3_readTown_19 : decode cX3_readTown 19 = .ok (.invokevirtual 85, 3) := by decide +kernel
theorem dX3_readTown_22 : decode cX3_readTown 22 = .ok (.ifCond .ne 5, 3) := by decide +kernel
theorem dX3_readTown_25 : decode cX3_readTown 25 = .ok (.iconst 0, 1) := by decide +kernel
theorem dX3_readTown_26 : decode cX3_readTown 26 = .ok (.ireturn, 1) := by decide +kernel
theorem dX3_readTown_27 : decode cX3_readTown 27 = .ok (.aload_n 0, 1) := by decide +kernel
theorem dX3_readTown_28 : decode cX3_readTown 28 = .ok (.getfield 88, 3) := by decide +kernel
theorem dX3_readTown_31 : decode cX3_readTown 31 = .ok (.lstore_n 1, 1) := by decide +kernel
theorem dX3_readTown_32 : decode cX3_readTown 32 = .ok (.aload_n 0, 1) := by decide +kernel
theorem dX3_readTown_33 : decode cX3_readTown 33 = .ok (.invokevirtual 44, 3) := by decide +kernel
theorem dX3_readTown_36 : decode cX3_readTown 36 = .ok (.aload_n 0, 1) := by decide +kernel
theorem dX3_readTown_37 : decode cX3_readTown 37 = .ok (.ldc 100, 2) := by decide +kernel
theorem dX3_readTown_39 : decode cX3_readTown 39 = .ok (.invokevirtual 102, 3) := by decide +kernel
theorem dX3_readTown_42 : decode cX3_readTown 42 = .ok (.ifCond .ne 5, 3) := by decide +kernel
theorem dX3_readTown_45 : decode cX3_readTown 45 = .ok (.iconst 0, 1) := by decide +kernel
theorem dX3_readTown_46 : decode cX3_readTown 46 = .ok (.ireturn, 1) := by decide +kernel
theorem dX3_readTown_47 : decode cX3_readTown 47 = .ok (.aload_n 0, 1) := by decide +kernel
theorem dX3_readTown_48 : decode cX3_readTown 48 = .ok (.invokevirtual 105, 3) := by decide +kernel
theorem dX3_readTown_51 : decode cX3_readTown 51 = .ok (.istore_n 3, 1) := by decide +kernel
theorem dX3_readTown_52 : decode cX3_readTown 52 = .ok (.iload_n 3, 1) := by decide +kernel
theorem dX3_readTown_53 : decode cX3_readTown 53 = .ok (.ifCond .ge 5, 3) := by decide +kernel
theorem dX3_readTown_56 : decode cX3_readTown 56 = .ok (.iconst 0, 1) := by decide +kernel
theorem dX3_readTown_57 : decode cX3_readTown 57 = .ok (.ireturn, 1) := by decide +kernel
theorem dX3_readTown_58 : decode cX3_readTown 58 = .ok (.aload_n 0, 1) := by decide +kernel
theorem dX3_readTown_59 : decode cX3_readTown 59 = .ok (.invokevirtual 44, 3) := by decide +kernel
theorem dX3_readTown_62 : decode cX3_readTown 62 = .ok (.iconst 0, 1) := by decide +kernel
theorem dX3_readTown_63 : decode cX3_readTown 63 = .ok (.istore 4, 2) := by decide +kernel
theorem dX3_readTown_65 : decode cX3_readTown 65 = .ok (.aload_n 0, 1) := by decide +kernel
theorem dX3_readTown_66 : decode cX3_readTown 66 = .ok (.ldc 108, 2) := by decide +kernel
theorem dX3_readTown_68 : decode cX3_readTown 68 = .ok (.invokevirtual 62, 3) := by decide +kernel
theorem dX3_readTown_71 : decode cX3_readTown 71 = .ok (.ifCond .eq 7, 3) := by decide +kernel
theorem dX3_readTown_74 : decode cX3_readTown 74 = .ok (.iconst 1, 1) := by decide +kernel
theorem dX3_readTown_75 : decode cX3_readTown 75 = .ok (.goto 17, 3) := by decide +kernel
theorem dX3_readTown_78 : decode cX3_readTown 78 = .ok (.aload_n 0, 1) := by decide +kernel
theorem dX3_readTown_79 : decode cX3_readTown 79 = .ok (.ldc 110, 2) := by decide +kernel
theorem dX3_readTown_81 : decode cX3_readTown 81 = .ok (.invokevirtual 62, 3) := by decide +kernel
theorem dX3_readTown_84 : decode cX3_readTown 84 = .ok (.ifCond .eq 7, 3) := by decide +kernel
theorem dX3_readTown_87 : decode cX3_readTown 87 = .ok (.iconst (-1), 1) := by decide +kernel
theorem dX3_readTown_88 : decode cX3_readTown 88 = .ok (.goto 4, 3) := by decide +kernel
theorem dX3_readTown_91 : decode cX3_readTown 91 = .ok (.iconst 0, 1) := by decide +kernel
theorem dX3_readTown_92 : decode cX3_readTown 92 = .ok (.istore 5, 2) := by decide +kernel
theorem dX3_readTown_94 : decode cX3_readTown 94 = .ok (.iload 5, 2) := by decide +kernel
theorem dX3_readTown_96 : decode cX3_readTown 96 = .ok (.ifCond .eq 32, 3) := by decide +kernel
theorem dX3_readTown_99 : decode cX3_readTown 99 = .ok (.aload_n 0, 1) := by decide +kernel
theorem dX3_readTown_100 : decode cX3_readTown 100 = .ok (.invokevirtual 44, 3) := by decide +kernel
theorem dX3_readTown_103 : decode cX3_readTown 103 = .ok (.aload_n 0, 1) := by decide +kernel
theorem dX3_readTown_104 : decode cX3_readTown 104 = .ok (.iconst 0, 1) := by decide +kernel
theorem dX3_readTown_105 : decode cX3_readTown 105 = .ok (.bipush 12, 2) := by decide +kernel
theorem dX3_readTown_107 : decode cX3_readTown 107 = .ok (.invokevirtual 112, 3) := by decide +kernel
theorem dX3_readTown_110 : decode cX3_readTown 110 = .ok (.ifCond .ne 5, 3) := by decide +kernel
theorem dX3_readTown_113 : decode cX3_readTown 113 = .ok (.iconst 0, 1) := by decide +kernel
theorem dX3_readTown_114 : decode cX3_readTown 114 = .ok (.ireturn, 1) := by decide +kernel
theorem dX3_readTown_115 : decode cX3_readTown 115 = .ok (.iload 5, 2) := by decide +kernel
theorem dX3_readTown_117 : decode cX3_readTown 117 = .ok (.aload_n 0, 1) := by decide +kernel
theorem dX3_readTown_118 : decode cX3_readTown 118 = .ok (.getfield 116, 3) := by decide +kernel
theorem dX3_readTown_121 : decode cX3_readTown 121 = .ok (.imul, 1) := by decide +kernel
theorem dX3_readTown_122 : decode cX3_readTown 122 = .ok (.istore 4, 2) := by decide +kernel
theorem dX3_readTown_124 : decode cX3_readTown 124 = .ok (.aload_n 0, 1) := by decide +kernel
theorem dX3_readTown_125 : decode cX3_readTown 125 = .ok (.invokevirtual 44, 3) := by decide +kernel
theorem dX3_readTown_128 : decode cX3_readTown 128 = .ok (.aload_n 0, 1) := by decide +kernel
theorem dX3_readTown_129 : decode cX3_readTown 129 = .ok (.getfield 47, 3) := by decide +kernel
theorem dX3_readTown_132 : decode cX3_readTown 132 = .ok (.iconst 3, 1) := by decide +kernel
theorem dX3_readTown_133 : decode cX3_readTown 133 = .ok (.if_icmp .eq 5, 3) := by decide +kernel
theorem dX3_readTown_136 : decode cX3_readTown 136 = .ok (.iconst 0, 1) := by decide +kernel
theorem dX3_readTown_137 : decode cX3_readTown 137 = .ok (.ireturn, 1) := by decide +kernel
theorem dX3_readTown_138 : decode cX3_readTown 138 = .ok (.aload_n 0, 1) := by decide +kernel
theorem dX3_readTown_139 : decode cX3_readTown 139 = .ok (.invokevirtual 44, 3) := by decide +kernel
theorem dX3_readTown_142 : decode cX3_readTown 142 = .ok (.aload_n 0, 1) := by decide +kernel
theorem dX3_readTown_143 : decode cX3_readTown 143 = .ok (.getfield 17, 3) := by decide +kernel
theorem dX3_readTown_146 : decode cX3_readTown 146 = .ok (.aload_n 0, 1) := by decide +kernel
theorem dX3_readTown_147 : decode cX3_readTown 147 = .ok (.getfield 24, 3) := by decide +kernel
theorem dX3_readTown_150 : decode cX3_readTown 150 = .ok (.getfield 57, 3) := by decide +kernel
theorem dX3_readTown_153 : decode cX3_readTown 153 = .ok (.lload_n 1, 1) := by decide +kernel
theorem dX3_readTown_154 : decode cX3_readTown 154 = .ok (.lastore, 1) := by decide +kernel
theorem dX3_readTown_155 : decode cX3_readTown 155 = .ok (.aload_n 0, 1) := by decide +kernel
theorem dX3_readTown_156 : decode cX3_readTown 156 = .ok (.getfield 24, 3) := by decide +kernel
theorem dX3_readTown_159 : decode cX3_readTown 159 = .ok (.iload_n 3, 1) := by decide +kernel
theorem dX3_readTown_160 : decode cX3_readTown 160 = .ok (.iload 4, 2) := by decide +kernel
theorem dX3_readTown_162 : decode cX3_readTown 162 = .ok (.invokevirtual 119, 3) := by decide +kernel
theorem dX3_readTown_165 : decode cX3_readTown 165 = .ok (.iconst 1, 1) := by decide +kernel
theorem dX3_readTown_166 : decode cX3_readTown 166 = .ok (.ireturn, 1) := by decide +kernel
theorem dX3_readLink_0 : decode cX3_readLink 0 = .ok (.aload_n 0, 1) := by decide +kernel
theorem dX3_readLink_1 : decode cX3_readLink 1 = .ok (.getfield 24, 3) := by decide +kernel
theorem dX3_readLink_4 : decode cX3_readLink 4 = .ok (.getfield 123, 3) := by decide +kernel
theorem dX3_readLink_7 : decode cX3_readLink 7 = .ok (.bipush 16, 2) := by decide +kernel
theorem dX3_readLink_9 : decode cX3_readLink 9 = .ok (.if_icmp .lt 5, 3) := by decide +kernel
theorem dX3_readLink_12 : decode cX3_readLink 12 = .ok (.iconst 0, 1) := by decide +kernel
theorem dX3_readLink_13 : decode cX3_readLink 13 = .ok (.ireturn, 1) := by decide +kernel
theorem dX3_readLink_14 : decode cX3_readLink 14 = .ok (.aload_n 0, 1) := by decide +kernel
theorem dX3_readLink_15 : decode cX3_readLink 15 = .ok (.invokevirtual 44, 3) := by decide +kernel
theorem dX3_readLink_18 : decode cX3_readLink 18 = .ok (.aload_n 0, 1) := by decide +kernel
theorem dX3_readLink_19 : decode cX3_readLink 19 = .ok (.invokevirtual 126, 3) := by decide +kernel
theorem dX3_readLink_22 : decode cX3_readLink 22 = .ok (.istore_n 2, 1) := by decide +kernel
theorem dX3_readLink_23 : decode cX3_readLink 23 = .ok (.iload_n 2, 1) := by decide +kernel
theorem dX3_readLink_24 : decode cX3_readLink 24 = .ok (.ifCond .ge 5, 3) := by decide +kernel
theorem dX3_readLink_27 : decode cX3_readLink 27 = .ok (.iconst 0, 1) := by decide +kernel
theorem dX3_readLink_28 : decode cX3_readLink 28 = .ok (.ireturn, 1) := by decide +kernel
theorem dX3_readLink_29 : decode cX3_readLink 29 = .ok (.aload_n 0, 1) := by decide +kernel
theorem dX3_readLink_30 : decode cX3_readLink 30 = .ok (.invokevirtual 44, 3) := by decide +kernel
theorem dX3_readLink_33 : decode cX3_readLink 33 = .ok (.aload_n 0, 1) := by decide +kernel
theorem dX3_readLink_34 : decode cX3_readLink 34 = .ok (.invokevirtual 126, 3) := by decide +kernel
theorem dX3_readLink_37 : decode cX3_readLink 37 = .ok (.istore_n 3, 1) := by decide +kernel
theorem dX3_readLink_38 : decode cX3_readLink 38 = .ok (.iload_n 3, 1) := by decide +kernel
theorem dX3_readLink_39 : decode cX3_readLink 39 = .ok (.ifCond .lt 8, 3) := by decide +kernel
theorem dX3_readLink_42 : decode cX3_readLink 42 = .ok (.iload_n 3, 1) := by decide +kernel
theorem dX3_readLink_43 : decode cX3_readLink 43 = .ok (.iload_n 2, 1) := by decide +kernel
theorem dX3_readLink_44 : decode cX3_readLink 44 = .ok (.if_icmp .ne 5, 3) := by decide +kernel
theorem dX3_readLink_47 : decode cX3_readLink 47 = .ok (.iconst 0, 1) := by decide +kernel
theorem dX3_readLink_48 : decode cX3_readLink 48 = .ok (.ireturn, 1) := by decide +kernel
theorem dX3_readLink_49 : decode cX3_readLink 49 = .ok (.aload_n 0, 1) := by decide +kernel
theorem dX3_readLink_50 : decode cX3_readLink 50 = .ok (.invokevirtual 44, 3) := by decide +kernel
theorem dX3_readLink_53 : decode cX3_readLink 53 = .ok (.aload_n 0, 1) := by decide +kernel
theorem dX3_readLink_54 : decode cX3_readLink 54 = .ok (.ldc 129, 2) := by decide +kernel
theorem dX3_readLink_56 : decode cX3_readLink 56 = .ok (.invokevirtual 102, 3) := by decide +kernel
theorem dX3_readLink_59 : decode cX3_readLink 59 = .ok (.ifCond .eq 22, 3) := by decide +kernel
theorem dX3_readLink_62 : decode cX3_readLink 62 = .ok (.aload_n 0, 1) := by decide +kernel
theorem dX3_readLink_63 : decode cX3_readLink 63 = .ok (.iconst 0, 1) := by decide +kernel
theorem dX3_readLink_64 : decode cX3_readLink 64 = .ok (.iload_n 1, 1) := by decide +kernel
theorem dX3_readLink_65 : decode cX3_readLink 65 = .ok (.ifCond .eq 8, 3) := by decide +kernel
theorem dX3_readLink_68 : decode cX3_readLink 68 = .ok (.bipush 23, 2) := by decide +kernel
theorem dX3_readLink_70 : decode cX3_readLink 70 = .ok (.goto 5, 3) := by decide +kernel
theorem dX3_readLink_73 : decode cX3_readLink 73 = .ok (.bipush 95, 2) := by decide +kernel
theorem dX3_readLink_75 : decode cX3_readLink 75 = .ok (.invokevirtual 112, 3) := by decide +kernel
theorem dX3_readLink_78 : decode cX3_readLink 78 = .ok (.ifCond .ne 5, 3) := by decide +kernel
theorem dX3_readLink_81 : decode cX3_readLink 81 = .ok (.iconst 0, 1) := by decide +kernel
theorem dX3_readLink_82 : decode cX3_readLink 82 = .ok (.ireturn, 1) := by decide +kernel
theorem dX3_readLink_83 : decode cX3_readLink 83 = .ok (.aload_n 0, 1) := by decide +kernel
theorem dX3_readLink_84 : decode cX3_readLink 84 = .ok (.getfield 116, 3) := by decide +kernel
theorem dX3_readLink_87 : decode cX3_readLink 87 = .ok (.istore 4, 2) := by decide +kernel
theorem dX3_readLink_89 : decode cX3_readLink 89 = .ok (.aload_n 0, 1) := by decide +kernel
theorem dX3_readLink_90 : decode cX3_readLink 90 = .ok (.invokevirtual 44, 3) := by decide +kernel
theorem dX3_readLink_93 : decode cX3_readLink 93 = .ok (.aload_n 0, 1) := by decide +kernel
theorem dX3_readLink_94 : decode cX3_readLink 94 = .ok (.ldc 131, 2) := by decide +kernel
theorem dX3_readLink_96 : decode cX3_readLink 96 = .ok (.invokevirtual 102, 3) := by decide +kernel
theorem dX3_readLink_99 : decode cX3_readLink 99 = .ok (.ifCond .eq 13, 3) := by decide +kernel
theorem dX3_readLink_102 : decode cX3_readLink 102 = .ok (.aload_n 0, 1) := by decide +kernel
theorem dX3_readLink_103 : decode cX3_readLink 103 = .ok (.iconst 1, 1) := by decide +kernel
theorem dX3_readLink_104 : decode cX3_readLink 104 = .ok (.bipush 48, 2) := by decide +kernel
theorem dX3_readLink_106 : decode cX3_readLink 106 = .ok (.invokevirtual 112, 3) := by decide +kernel
theorem dX3_readLink_109 : decode cX3_readLink 109 = .ok (.ifCond .ne 5, 3) := by decide +kernel
theorem dX3_readLink_112 : decode cX3_readLink 112 = .ok (.iconst 0, 1) := by decide +kernel
theorem dX3_readLink_113 : decode cX3_readLink 113 = .ok (.ireturn, 1) := by decide +kernel
theorem dX3_readLink_114 : decode cX3_readLink 114 = .ok (.aload_n 0, 1) := by decide +kernel
theorem dX3_readLink_115 : decode cX3_readLink 115 = .ok (.getfield 116, 3) := by decide +kernel
theorem dX3_readLink_118 : decode cX3_readLink 118 = .ok (.istore 5, 2) := by decide +kernel
theorem dX3_readLink_120 : decode cX3_readLink 120 = .ok (.aload_n 0, 1) := by decide +kernel
theorem dX3_readLink_121 : decode cX3_readLink 121 = .ok (.invokevirtual 44, 3) := by decide +kernel
theorem dX3_readLink_124 : decode cX3_readLink 124 = .ok (.aload_n 0, 1) := by decide +kernel
theorem dX3_readLink_125 : decode cX3_readLink 125 = .ok (.ldc 133, 2) := by decide +kernel
theorem dX3_readLink_127 : decode cX3_readLink 127 = .ok (.invokevirtual 102, 3) := by decide +kernel
theorem dX3_readLink_130 : decode cX3_readLink 130 = .ok (.ifCond .eq 13, 3) := by decide +kernel
theorem dX3_readLink_133 : decode cX3_readLink 133 = .ok (.aload_n 0, 1) := by decide +kernel
theorem dX3_readLink_134 : decode cX3_readLink 134 = .ok (.iconst 0, 1) := by decide +kernel
theorem dX3_readLink_135 : decode cX3_readLink 135 = .ok (.bipush 99, 2) := by decide +kernel
theorem dX3_readLink_137 : decode cX3_readLink 137 = .ok (.invokevirtual 112, 3) := by decide +kernel
theorem dX3_readLink_140 : decode cX3_readLink 140 = .ok (.ifCond .ne 5, 3) := by decide +kernel
theorem dX3_readLink_143 : decode cX3_readLink 143 = .ok (.iconst 0, 1) := by decide +kernel
theorem dX3_readLink_144 : decode cX3_readLink 144 = .ok (.ireturn, 1) := by decide +kernel
theorem dX3_readLink_145 : decode cX3_readLink 145 = .ok (.aload_n 0, 1) := by decide +kernel
theorem dX3_readLink_146 : decode cX3_readLink 146 = .ok (.getfield 116, 3) := by decide +kernel
theorem dX3_readLink_149 : decode cX3_readLink 149 = .ok (.istore 6, 2) := by decide +kernel
theorem dX3_readLink_151 : decode cX3_readLink 151 = .ok (.aload_n 0, 1) := by decide +kernel
theorem dX3_readLink_152 : decode cX3_readLink 152 = .ok (.invokevirtual 44, 3) := by decide +kernel
theorem dX3_readLink_155 : decode cX3_readLink 155 = .ok (.aload_n 0, 1) := by decide +kernel
theorem dX3_readLink_156 : decode cX3_readLink 156 = .ok (.getfield 47, 3) := by decide +kernel
theorem dX3_readLink_159 : decode cX3_readLink 159 = .ok (.iconst 3, 1) := by decide +kernel
theorem dX3_readLink_160 : decode cX3_readLink 160 = .ok (.if_icmp .eq 5, 3) := by decide +kernel
theorem dX3_readLink_163 : decode cX3_readLink 163 = .ok (.iconst 0, 1) := by decide +kernel
theorem dX3_readLink_164 : decode cX3_readLink 164 = .ok (.ireturn, 1) := by decide +kernel
theorem dX3_readLink_165 : decode cX3_readLink 165 = .ok (.aload_n 0, 1) := by decide +kernel
theorem dX3_readLink_166 : decode cX3_readLink 166 = .ok (.invokevirtual 44, 3) := by decide +kernel
theorem dX3_readLink_169 : decode cX3_readLink 169 = .ok (.aload_n 0, 1) := by decide +kernel
theorem dX3_readLink_170 : decode cX3_readLink 170 = .ok (.getfield 24, 3) := by decide +kernel
theorem dX3_readLink_173 : decode cX3_readLink 173 = .ok (.iload_n 2, 1) := by decide +kernel
theorem dX3_readLink_174 : decode cX3_readLink 174 = .ok (.iload_n 3, 1) := by decide +kernel
theorem dX3_readLink_175 : decode cX3_readLink 175 = .ok (.iload_n 1, 1) := by decide +kernel
theorem dX3_readLink_176 : decode cX3_readLink 176 = .ok (.iload 4, 2) := by decide +kernel
theorem dX3_readLink_178 : decode cX3_readLink 178 = .ok (.iload 5, 2) := by decide +kernel
theorem dX3_readLink_180 : decode cX3_readLink 180 = .ok (.iload 6, 2) := by decide +kernel
theorem dX3_readLink_182 : decode cX3_readLink 182 = .ok (.invokevirtual 135, 3) := by decide +kernel
theorem dX3_readLink_185 : decode cX3_readLink 185 = .ok (.iconst 1, 1) := by decide +kernel
theorem dX3_readLink_186 : decode cX3_readLink 186 = .ok (.ireturn, 1) := by decide +kernel
theorem dX3_passWord_0 : decode cX3_passWord 0 = .ok (.aload_n 0, 1) := by decide +kernel
theorem dX3_passWord_1 : decode cX3_passWord 1 = .ok (.aload_n 1, 1) := by decide +kernel
theorem dX3_passWord_2 : decode cX3_passWord 2 = .ok (.invokevirtual 62, 3) := by decide +kernel
theorem dX3_passWord_5 : decode cX3_passWord 5 = .ok (.ifCond .ne 5, 3) := by decide +kernel
theorem dX3_passWord_8 : decode cX3_passWord 8 = .ok (.iconst 0, 1) := by decide +kernel
theorem dX3_passWord_9 : decode cX3_passWord 9 = .ok (.ireturn, 1) := by decide +kernel
theorem dX3_passWord_10 : decode cX3_passWord 10 = .ok (.aload_n 0, 1) := by decide +kernel
theorem dX3_passWord_11 : decode cX3_passWord 11 = .ok (.invokevirtual 44, 3) := by decide +kernel
theorem dX3_passWord_14 : decode cX3_passWord 14 = .ok (.iconst 1, 1) := by decide +kernel
theorem dX3_passWord_15 : decode cX3_passWord 15 = .ok (.ireturn, 1) := by decide +kernel
theorem dX3_isNumber_0 : decode cX3_isNumber 0 = .ok (.aload_n 0, 1) := by decide +kernel
theorem dX3_isNumber_1 : decode cX3_isNumber 1 = .ok (.getfield 47, 3) := by decide +kernel
theorem dX3_isNumber_4 : decode cX3_isNumber 4 = .ok (.iconst 2, 1) := by decide +kernel
theorem dX3_isNumber_5 : decode cX3_isNumber 5 = .ok (.if_icmp .ne 23, 3) := by decide +kernel
theorem dX3_isNumber_8 : decode cX3_isNumber 8 = .ok (.aload_n 0, 1) := by decide +kernel
theorem dX3_isNumber_9 : decode cX3_isNumber 9 = .ok (.getfield 116, 3) := by decide +kernel
theorem dX3_isNumber_12 : decode cX3_isNumber 12 = .ok (.iload_n 1, 1) := by decide +kernel
theorem dX3_isNumber_13 : decode cX3_isNumber 13 = .ok (.if_icmp .lt 15, 3) := by decide +kernel
theorem dX3_isNumber_16 : decode cX3_isNumber 16 = .ok (.aload_n 0, 1) := by decide +kernel
theorem dX3_isNumber_17 : decode cX3_isNumber 17 = .ok (.getfield 116, 3) := by decide +kernel
theorem dX3_isNumber_20 : decode cX3_isNumber 20 = .ok (.iload_n 2, 1) := by decide +kernel
theorem dX3_isNumber_21 : decode cX3_isNumber 21 = .ok (.if_icmp .gt 7, 3) := by decide +kernel
theorem dX3_isNumber_24 : decode cX3_isNumber 24 = .ok (.iconst 1, 1) := by decide +kernel
theorem dX3_isNumber_25 : decode cX3_isNumber 25 = .ok (.goto 4, 3) := by decide +kernel
theorem dX3_isNumber_28 : decode cX3_isNumber 28 = .ok (.iconst 0, 1) := by decide +kernel
theorem dX3_isNumber_29 : decode cX3_isNumber 29 = .ok (.ireturn, 1) := by decide +kernel
theorem dX3_howOfWord_0 : decode cX3_howOfWord 0 = .ok (.aload_n 0, 1) := by decide +kernel
theorem dX3_howOfWord_1 : decode cX3_howOfWord 1 = .ok (.ldc 139, 2) := by decide +kernel
theorem dX3_howOfWord_3 : decode cX3_howOfWord 3 = .ok (.invokevirtual 62, 3) := by decide +kernel
theorem dX3_howOfWord_6 : decode cX3_howOfWord 6 = .ok (.ifCond .eq 5, 3) := by decide +kernel
theorem dX3_howOfWord_9 : decode cX3_howOfWord 9 = .ok (.iconst 1, 1) := by decide +kernel
theorem dX3_howOfWord_10 : decode cX3_howOfWord 10 = .ok (.ireturn, 1) := by decide +kernel
theorem dX3_howOfWord_11 : decode cX3_howOfWord 11 = .ok (.aload_n 0, 1) := by decide +kernel
theorem dX3_howOfWord_12 : decode cX3_howOfWord 12 = .ok (.ldc 141, 2) := by decide +kernel
theorem dX3_howOfWord_14 : decode cX3_howOfWord 14 = .ok (.invokevirtual 62, 3) := by decide +kernel
theorem dX3_howOfWord_17 : decode cX3_howOfWord 17 = .ok (.ifCond .eq 5, 3) := by decide +kernel
theorem dX3_howOfWord_20 : decode cX3_howOfWord 20 = .ok (.iconst 2, 1) := by decide +kernel
theorem dX3_howOfWord_21 : decode cX3_howOfWord 21 = .ok (.ireturn, 1) := by decide +kernel
theorem dX3_howOfWord_22 : decode cX3_howOfWord 22 = .ok (.aload_n 0, 1) := by decide +kernel
theorem dX3_howOfWord_23 : decode cX3_howOfWord 23 = .ok (.ldc 143, 2) := by decide +kernel
theorem dX3_howOfWord_25 : decode cX3_howOfWord 25 = .ok (.invokevirtual 62, 3) := by decide +kernel
theorem dX3_howOfWord_28 : decode cX3_howOfWord 28 = .ok (.ifCond .eq 5, 3) := by decide +kernel
theorem dX3_howOfWord_31 : decode cX3_howOfWord 31 = .ok (.iconst 3, 1) := by decide +kernel
theorem dX3_howOfWord_32 : decode cX3_howOfWord 32 = .ok (.ireturn, 1) := by decide +kernel
theorem dX3_howOfWord_33 : decode cX3_howOfWord 33 = .ok (.aload_n 0, 1) := by decide +kernel
theorem dX3_howOfWord_34 : decode cX3_howOfWord 34 = .ok (.ldc 145, 2) := by decide +kernel
theorem dX3_howOfWord_36 : decode cX3_howOfWord 36 = .ok (.invokevirtual 62, 3) := by decide +kernel
theorem dX3_howOfWord_39 : decode cX3_howOfWord 39 = .ok (.ifCond .eq 7, 3) := by decide +kernel
theorem dX3_howOfWord_42 : decode cX3_howOfWord 42 = .ok (.iconst 0, 1) := by decide +kernel
theorem dX3_howOfWord_43 : decode cX3_howOfWord 43 = .ok (.goto 4, 3) := by decide +kernel
theorem dX3_howOfWord_46 : decode cX3_howOfWord 46 = .ok (.iconst (-1), 1) := by decide +kernel
theorem dX3_howOfWord_47 : decode cX3_howOfWord 47 = .ok (.ireturn, 1) := by decide +kernel
theorem dX3_isNewName_0 : decode cX3_isNewName 0 = .ok (.aload_n 0, 1) := by decide +kernel
theorem dX3_isNewName_1 : decode cX3_isNewName 1 = .ok (.getfield 47, 3) := by decide +kernel
theorem dX3_isNewName_4 : decode cX3_isNewName 4 = .ok (.iconst 1, 1) := by decide +kernel
theorem dX3_isNewName_5 : decode cX3_isNewName 5 = .ok (.if_icmp .ne 42, 3) := by decide +kernel
end
section
theorem dX3_isNewName_8 : decode cX3_isNewName 8 = .ok (.aload_n 0, 1) := by decide +kernel
theorem dX3_isNewName_9 : decode cX3_isNewName 9 = .ok (.getfield 38, 3) := by decide +kernel
theorem dX3_isNewName_12 : decode cX3_isNewName 12 = .ok (.aload_n 0, 1) := by decide +kernel
theorem dX3_isNewName_13 : decode cX3_isNewName 13 = .ok (.getfield 54, 3) := by decide +kernel
theorem dX3_isNewName_16 : decode cX3_isNewName 16 = .ok (.isub, 1) := by decide +kernel
theorem dX3_isNewName_17 : decode cX3_isNewName 17 = .ok (.bipush 8, 2) := by decide +kernel
theorem dX3_isNewName_19 : decode cX3_isNewName 19 = .ok (.if_icmp .gt 28, 3) := by decide +kernel
theorem dX3_isNewName_22 : decode cX3_isNewName 22 = .ok (.aload_n 0, 1) := by decide +kernel
theorem dX3_isNewName_23 : decode cX3_isNewName 23 = .ok (.invokevirtual 147, 3) := by decide +kernel
theorem dX3_isNewName_26 : decode cX3_isNewName 26 = .ok (.ifCond .ne 21, 3) := by decide +kernel
theorem dX3_isNewName_29 : decode cX3_isNewName 29 = .ok (.aload_n 0, 1) := by decide +kernel
theorem dX3_isNewName_30 : decode cX3_isNewName 30 = .ok (.invokevirtual 105, 3) := by decide +kernel
theorem dX3_isNewName_33 : decode cX3_isNewName 33 = .ok (.ifCond .ge 14, 3) := by decide +kernel
theorem dX3_isNewName_36 : decode cX3_isNewName 36 = .ok (.aload_n 0, 1) := by decide +kernel
theorem dX3_isNewName_37 : decode cX3_isNewName 37 = .ok (.invokevirtual 126, 3) := by decide +kernel
theorem dX3_isNewName_40 : decode cX3_isNewName 40 = .ok (.ifCond .ge 7, 3) := by decide +kernel
theorem dX3_isNewName_43 : decode cX3_isNewName 43 = .ok (.iconst 1, 1) := by decide +kernel
theorem dX3_isNewName_44 : decode cX3_isNewName 44 = .ok (.goto 4, 3) := by decide +kernel
theorem dX3_isNewName_47 : decode cX3_isNewName 47 = .ok (.iconst 0, 1) := by decide +kernel
theorem dX3_isNewName_48 : decode cX3_isNewName 48 = .ok (.ireturn, 1) := by decide +kernel
theorem dX3_isKept_0 : decode cX3_isKept 0 = .ok (.aload_n 0, 1) := by decide +kernel
theorem dX3_isKept_1 : decode cX3_isKept 1 = .ok (.ldc 60, 2) := by decide +kernel
theorem dX3_isKept_3 : decode cX3_isKept 3 = .ok (.invokevirtual 62, 3) := by decide +kernel
theorem dX3_isKept_6 : decode cX3_isKept 6 = .ok (.ifCond .ne 120, 3) := by decide +kernel
theorem dX3_isKept_9 : decode cX3_isKept 9 = .ok (.aload_n 0, 1) := by decide +kernel
theorem dX3_isKept_10 : decode cX3_isKept 10 = .ok (.ldc 139, 2) := by decide +kernel
theorem dX3_isKept_12 : decode cX3_isKept 12 = .ok (.invokevirtual 62, 3) := by decide +kernel
theorem dX3_isKept_15 : decode cX3_isKept 15 = .ok (.ifCond .ne 111, 3) := by decide +kernel
theorem dX3_isKept_18 : decode cX3_isKept 18 = .ok (.aload_n 0, 1) := by decide +kernel
theorem dX3_isKept_19 : decode cX3_isKept 19 = .ok (.ldc 141, 2) := by decide +kernel
theorem dX3_isKept_21 : decode cX3_isKept 21 = .ok (.invokevirtual 62, 3) := by decide +kernel
theorem dX3_isKept_24 : decode cX3_isKept 24 = .ok (.ifCond .ne 102, 3) := by decide +kernel
theorem dX3_isKept_27 : decode cX3_isKept 27 = .ok (.aload_n 0, 1) := by decide +kernel
theorem dX3_isKept_28 : decode cX3_isKept 28 = .ok (.ldc 143, 2) := by decide +kernel
theorem dX3_isKept_30 : decode cX3_isKept 30 = .ok (.invokevirtual 62, 3) := by decide +kernel
theorem dX3_isKept_33 : decode cX3_isKept 33 = .ok (.ifCond .ne 93, 3) := by decide +kernel
theorem dX3_isKept_36 : decode cX3_isKept 36 = .ok (.aload_n 0, 1) := by decide +kernel
theorem dX3_isKept_37 : decode cX3_isKept 37 = .ok (.ldc 145, 2) := by decide +kernel
theorem dX3_isKept_39 : decode cX3_isKept 39 = .ok (.invokevirtual 62, 3) := by decide +kernel
theorem dX3_isKept_42 : decode cX3_isKept 42 = .ok (.ifCond .ne 84, 3) := by decide +kernel
theorem dX3_isKept_45 : decode cX3_isKept 45 = .ok (.aload_n 0, 1) := by decide +kernel
theorem dX3_isKept_46 : decode cX3_isKept 46 = .ok (.ldc 69, 2) := by decide +kernel
theorem dX3_isKept_48 : decode cX3_isKept 48 = .ok (.invokevirtual 62, 3) := by decide +kernel
theorem dX3_isKept_51 : decode cX3_isKept 51 = .ok (.ifCond .ne 75, 3) := by decide +kernel
theorem dX3_isKept_54 : decode cX3_isKept 54 = .ok (.aload_n 0, 1) := by decide +kernel
theorem dX3_isKept_55 : decode cX3_isKept 55 = .ok (.ldc 100, 2) := by decide +kernel
theorem dX3_isKept_57 : decode cX3_isKept 57 = .ok (.invokevirtual 62, 3) := by decide +kernel
theorem dX3_isKept_60 : decode cX3_isKept 60 = .ok (.ifCond .ne 66, 3) := by decide +kernel
theorem dX3_isKept_63 : decode cX3_isKept 63 = .ok (.aload_n 0, 1) := by decide +kernel
theorem dX3_isKept_64 : decode cX3_isKept 64 = .ok (.ldc 108, 2) := by decide +kernel
theorem dX3_isKept_66 : decode cX3_isKept 66 = .ok (.invokevirtual 62, 3) := by decide +kernel
theorem dX3_isKept_69 : decode cX3_isKept 69 = .ok (.ifCond .ne 57, 3) := by decide +kernel
theorem dX3_isKept_72 : decode cX3_isKept 72 = .ok (.aload_n 0, 1) := by decide +kernel
theorem dX3_isKept_73 : decode cX3_isKept 73 = .ok (.ldc 110, 2) := by decide +kernel
theorem dX3_isKept_75 : decode cX3_isKept 75 = .ok (.invokevirtual 62, 3) := by decide +kernel
theorem dX3_isKept_78 : decode cX3_isKept 78 = .ok (.ifCond .ne 48, 3) := by decide +kernel
theorem dX3_isKept_81 : decode cX3_isKept 81 = .ok (.aload_n 0, 1) := by decide +kernel
theorem dX3_isKept_82 : decode cX3_isKept 82 = .ok (.ldc 74, 2) := by decide +kernel
theorem dX3_isKept_84 : decode cX3_isKept 84 = .ok (.invokevirtual 62, 3) := by decide +kernel
theorem dX3_isKept_87 : decode cX3_isKept 87 = .ok (.ifCond .ne 39, 3) := by decide +kernel
theorem dX3_isKept_90 : decode cX3_isKept 90 = .ok (.aload_n 0, 1) := by decide +kernel
theorem dX3_isKept_91 : decode cX3_isKept 91 = .ok (.ldc 80, 2) := by decide +kernel
theorem dX3_isKept_93 : decode cX3_isKept 93 = .ok (.invokevirtual 62, 3) := by decide +kernel
theorem dX3_isKept_96 : decode cX3_isKept 96 = .ok (.ifCond .ne 30, 3) := by decide +kernel
theorem dX3_isKept_99 : decode cX3_isKept 99 = .ok (.aload_n 0, 1) := by decide +kernel
theorem dX3_isKept_100 : decode cX3_isKept 100 = .ok (.ldc 129, 2) := by decide +kernel
theorem dX3_isKept_102 : decode cX3_isKept 102 = .ok (.invokevirtual 62, 3) := by decide +kernel
theorem dX3_isKept_105 : decode cX3_isKept 105 = .ok (.ifCond .ne 21, 3) := by decide +kernel
theorem dX3_isKept_108 : decode cX3_isKept 108 = .ok (.aload_n 0, 1) := by decide +kernel
theorem dX3_isKept_109 : decode cX3_isKept 109 = .ok (.ldc 131, 2) := by decide +kernel
theorem dX3_isKept_111 : decode cX3_isKept 111 = .ok (.invokevirtual 62, 3) := by decide +kernel
theorem dX3_isKept_114 : decode cX3_isKept 114 = .ok (.ifCond .ne 12, 3) := by decide +kernel
theorem dX3_isKept_117 : decode cX3_isKept 117 = .ok (.aload_n 0, 1) := by decide +kernel
theorem dX3_isKept_118 : decode cX3_isKept 118 = .ok (.ldc 133, 2) := by decide +kernel
theorem dX3_isKept_120 : decode cX3_isKept 120 = .ok (.invokevirtual 62, 3) := by decide +kernel
theorem dX3_isKept_123 : decode cX3_isKept 123 = .ok (.ifCond .eq 7, 3) := by decide +kernel
theorem dX3_isKept_126 : decode cX3_isKept 126 = .ok (.iconst 1, 1) := by decide +kernel
theorem dX3_isKept_127 : decode cX3_isKept 127 = .ok (.goto 4, 3) := by decide +kernel
theorem dX3_isKept_130 : decode cX3_isKept 130 = .ok (.iconst 0, 1) := by decide +kernel
theorem dX3_isKept_131 : decode cX3_isKept 131 = .ok (.ireturn, 1) := by decide +kernel
theorem dX3_landOfWord_0 : decode cX3_landOfWord 0 = .ok (.aload_n 0, 1) := by decide +kernel
theorem dX3_landOfWord_1 : decode cX3_landOfWord 1 = .ok (.aload_n 0, 1) := by decide +kernel
theorem dX3_landOfWord_2 : decode cX3_landOfWord 2 = .ok (.getfield 11, 3) := by decide +kernel
theorem dX3_landOfWord_5 : decode cX3_landOfWord 5 = .ok (.aload_n 0, 1) := by decide +kernel
theorem dX3_landOfWord_6 : decode cX3_landOfWord 6 = .ok (.getfield 24, 3) := by decide +kernel
theorem dX3_landOfWord_9 : decode cX3_landOfWord 9 = .ok (.getfield 82, 3) := by decide +kernel
theorem dX3_landOfWord_12 : decode cX3_landOfWord 12 = .ok (.invokevirtual 150, 3) := by decide +kernel
theorem dX3_landOfWord_15 : decode cX3_landOfWord 15 = .ok (.ireturn, 1) := by decide +kernel
theorem dX3_townOfWord_0 : decode cX3_townOfWord 0 = .ok (.aload_n 0, 1) := by decide +kernel
theorem dX3_townOfWord_1 : decode cX3_townOfWord 1 = .ok (.aload_n 0, 1) := by decide +kernel
theorem dX3_townOfWord_2 : decode cX3_townOfWord 2 = .ok (.getfield 17, 3) := by decide +kernel
theorem dX3_townOfWord_5 : decode cX3_townOfWord 5 = .ok (.aload_n 0, 1) := by decide +kernel
theorem dX3_townOfWord_6 : decode cX3_townOfWord 6 = .ok (.getfield 24, 3) := by decide +kernel
theorem dX3_townOfWord_9 : decode cX3_townOfWord 9 = .ok (.getfield 57, 3) := by decide +kernel
theorem dX3_townOfWord_12 : decode cX3_townOfWord 12 = .ok (.invokevirtual 150, 3) := by decide +kernel
theorem dX3_townOfWord_15 : decode cX3_townOfWord 15 = .ok (.ireturn, 1) := by decide +kernel
theorem dX3_placeOfName_0 : decode cX3_placeOfName 0 = .ok (.iconst 0, 1) := by decide +kernel
theorem dX3_placeOfName_1 : decode cX3_placeOfName 1 = .ok (.istore_n 3, 1) := by decide +kernel
theorem dX3_placeOfName_2 : decode cX3_placeOfName 2 = .ok (.iload_n 3, 1) := by decide +kernel
theorem dX3_placeOfName_3 : decode cX3_placeOfName 3 = .ok (.iload_n 2, 1) := by decide +kernel
theorem dX3_placeOfName_4 : decode cX3_placeOfName 4 = .ok (.if_icmp .ge 50, 3) := by decide +kernel
theorem dX3_placeOfName_7 : decode cX3_placeOfName 7 = .ok (.iload_n 3, 1) := by decide +kernel
theorem dX3_placeOfName_8 : decode cX3_placeOfName 8 = .ok (.aload_n 1, 1) := by decide +kernel
theorem dX3_placeOfName_9 : decode cX3_placeOfName 9 = .ok (.arraylength, 1) := by decide +kernel
theorem dX3_placeOfName_10 : decode cX3_placeOfName 10 = .ok (.if_icmp .ge 44, 3) := by decide +kernel
theorem dX3_placeOfName_13 : decode cX3_placeOfName 13 = .ok (.aload_n 0, 1) := by decide +kernel
theorem dX3_placeOfName_14 : decode cX3_placeOfName 14 = .ok (.getfield 47, 3) := by decide +kernel
theorem dX3_placeOfName_17 : decode cX3_placeOfName 17 = .ok (.iconst 1, 1) := by decide +kernel
theorem dX3_placeOfName_18 : decode cX3_placeOfName 18 = .ok (.if_icmp .ne 30, 3) := by decide +kernel
theorem dX3_placeOfName_21 : decode cX3_placeOfName 21 = .ok (.aload_n 0, 1) := by decide +kernel
theorem dX3_placeOfName_22 : decode cX3_placeOfName 22 = .ok (.getfield 38, 3) := by decide +kernel
theorem dX3_placeOfName_25 : decode cX3_placeOfName 25 = .ok (.aload_n 0, 1) := by decide +kernel
theorem dX3_placeOfName_26 : decode cX3_placeOfName 26 = .ok (.getfield 54, 3) := by decide +kernel
theorem dX3_placeOfName_29 : decode cX3_placeOfName 29 = .ok (.isub, 1) := by decide +kernel
theorem dX3_placeOfName_30 : decode cX3_placeOfName 30 = .ok (.bipush 8, 2) := by decide +kernel
theorem dX3_placeOfName_32 : decode cX3_placeOfName 32 = .ok (.if_icmp .gt 16, 3) := by decide +kernel
theorem dX3_placeOfName_35 : decode cX3_placeOfName 35 = .ok (.aload_n 1, 1) := by decide +kernel
theorem dX3_placeOfName_36 : decode cX3_placeOfName 36 = .ok (.iload_n 3, 1) := by decide +kernel
theorem dX3_placeOfName_37 : decode cX3_placeOfName 37 = .ok (.laload, 1) := by decide +kernel
theorem dX3_placeOfName_38 : decode cX3_placeOfName 38 = .ok (.aload_n 0, 1) := by decide +kernel
theorem dX3_placeOfName_39 : decode cX3_placeOfName 39 = .ok (.getfield 88, 3) := by decide +kernel
theorem dX3_placeOfName_42 : decode cX3_placeOfName 42 = .ok (.lcmp, 1) := by decide +kernel
theorem dX3_placeOfName_43 : decode cX3_placeOfName 43 = .ok (.ifCond .ne 5, 3) := by decide +kernel
theorem dX3_placeOfName_46 : decode cX3_placeOfName 46 = .ok (.iload_n 3, 1) := by decide +kernel
theorem dX3_placeOfName_47 : decode cX3_placeOfName 47 = .ok (.ireturn, 1) := by decide +kernel
theorem dX3_placeOfName_48 : decode cX3_placeOfName 48 = .ok (.iinc 3 1, 3) := by decide +kernel
theorem dX3_placeOfName_51 : decode cX3_placeOfName 51 = .ok (.goto (-49), 3) := by decide +kernel
theorem dX3_placeOfName_54 : decode cX3_placeOfName 54 = .ok (.iconst (-1), 1) := by decide +kernel
theorem dX3_placeOfName_55 : decode cX3_placeOfName 55 = .ok (.ireturn, 1) := by decide +kernel
theorem dX3_isWord_0 : decode cX3_isWord 0 = .ok (.aload_n 0, 1) := by decide +kernel
theorem dX3_isWord_1 : decode cX3_isWord 1 = .ok (.getfield 47, 3) := by decide +kernel
theorem dX3_isWord_4 : decode cX3_isWord 4 = .ok (.iconst 1, 1) := by decide +kernel
theorem dX3_isWord_5 : decode cX3_isWord 5 = .ok (.if_icmp .ne 19, 3) := by decide +kernel
theorem dX3_isWord_8 : decode cX3_isWord 8 = .ok (.aload_n 0, 1) := by decide +kernel
theorem dX3_isWord_9 : decode cX3_isWord 9 = .ok (.getfield 38, 3) := by decide +kernel
theorem dX3_isWord_12 : decode cX3_isWord 12 = .ok (.aload_n 0, 1) := by decide +kernel
theorem dX3_isWord_13 : decode cX3_isWord 13 = .ok (.getfield 54, 3) := by decide +kernel
theorem dX3_isWord_16 : decode cX3_isWord 16 = .ok (.isub, 1) := by decide +kernel
theorem dX3_isWord_17 : decode cX3_isWord 17 = .ok (.aload_n 1, 1) := by decide +kernel
theorem dX3_isWord_18 : decode cX3_isWord 18 = .ok (.invokevirtual 154, 3) := by decide +kernel
theorem dX3_isWord_21 : decode cX3_isWord 21 = .ok (.if_icmp .eq 5, 3) := by decide +kernel
theorem dX3_isWord_24 : decode cX3_isWord 24 = .ok (.iconst 0, 1) := by decide +kernel
theorem dX3_isWord_25 : decode cX3_isWord 25 = .ok (.ireturn, 1) := by decide +kernel
theorem dX3_isWord_26 : decode cX3_isWord 26 = .ok (.iconst 0, 1) := by decide +kernel
theorem dX3_isWord_27 : decode cX3_isWord 27 = .ok (.istore_n 2, 1) := by decide +kernel
theorem dX3_isWord_28 : decode cX3_isWord 28 = .ok (.iload_n 2, 1) := by decide +kernel
theorem dX3_isWord_29 : decode cX3_isWord 29 = .ok (.aload_n 1, 1) := by decide +kernel
theorem dX3_isWord_30 : decode cX3_isWord 30 = .ok (.invokevirtual 154, 3) := by decide +kernel
theorem dX3_isWord_33 : decode cX3_isWord 33 = .ok (.if_icmp .ge 30, 3) := by decide +kernel
theorem dX3_isWord_36 : decode cX3_isWord 36 = .ok (.aload_n 0, 1) := by decide +kernel
theorem dX3_isWord_37 : decode cX3_isWord 37 = .ok (.getfield 20, 3) := by decide +kernel
theorem dX3_isWord_40 : decode cX3_isWord 40 = .ok (.aload_n 0, 1) := by decide +kernel
theorem dX3_isWord_41 : decode cX3_isWord 41 = .ok (.getfield 54, 3) := by decide +kernel
theorem dX3_isWord_44 : decode cX3_isWord 44 = .ok (.iload_n 2, 1) := by decide +kernel
theorem dX3_isWord_45 : decode cX3_isWord 45 = .ok (.iadd, 1) := by decide +kernel
theorem dX3_isWord_46 : decode cX3_isWord 46 = .ok (.baload, 1) := by decide +kernel
theorem dX3_isWord_47 : decode cX3_isWord 47 = .ok (.aload_n 1, 1) := by decide +kernel
theorem dX3_isWord_48 : decode cX3_isWord 48 = .ok (.iload_n 2, 1) := by decide +kernel
theorem dX3_isWord_49 : decode cX3_isWord 49 = .ok (.invokevirtual 158, 3) := by decide +kernel
theorem dX3_isWord_52 : decode cX3_isWord 52 = .ok (.if_icmp .eq 5, 3) := by decide +kernel
theorem dX3_isWord_55 : decode cX3_isWord 55 = .ok (.iconst 0, 1) := by decide +kernel
theorem dX3_isWord_56 : decode cX3_isWord 56 = .ok (.ireturn, 1) := by decide +kernel
theorem dX3_isWord_57 : decode cX3_isWord 57 = .ok (.iinc 2 1, 3) := by decide +kernel
theorem dX3_isWord_60 : decode cX3_isWord 60 = .ok (.goto (-32), 3) := by decide +kernel
theorem dX3_isWord_63 : decode cX3_isWord 63 = .ok (.iconst 1, 1) := by decide +kernel
theorem dX3_isWord_64 : decode cX3_isWord 64 = .ok (.ireturn, 1) := by decide +kernel
theorem dX3_next_0 : decode cX3_next 0 = .ok (.aload_n 0, 1) := by decide +kernel
theorem dX3_next_1 : decode cX3_next 1 = .ok (.aload_n 0, 1) := by decide +kernel
theorem dX3_next_2 : decode cX3_next 2 = .ok (.getfield 38, 3) := by decide +kernel
theorem dX3_next_5 : decode cX3_next 5 = .ok (.putfield 54, 3) := by decide +kernel
theorem dX3_next_8 : decode cX3_next 8 = .ok (.aload_n 0, 1) := by decide +kernel
theorem dX3_next_9 : decode cX3_next 9 = .ok (.getfield 54, 3) := by decide +kernel
theorem dX3_next_12 : decode cX3_next 12 = .ok (.aload_n 0, 1) := by decide +kernel
theorem dX3_next_13 : decode cX3_next 13 = .ok (.getfield 34, 3) := by decide +kernel
theorem dX3_next_16 : decode cX3_next 16 = .ok (.if_icmp .ge 44, 3) := by decide +kernel
theorem dX3_next_19 : decode cX3_next 19 = .ok (.aload_n 0, 1) := by decide +kernel
theorem dX3_next_20 : decode cX3_next 20 = .ok (.getfield 20, 3) := by decide +kernel
theorem dX3_next_23 : decode cX3_next 23 = .ok (.aload_n 0, 1) := by decide +kernel
theorem dX3_next_24 : decode cX3_next 24 = .ok (.getfield 54, 3) := by decide +kernel
theorem dX3_next_27 : decode cX3_next 27 = .ok (.baload, 1) := by decide +kernel
theorem dX3_next_28 : decode cX3_next 28 = .ok (.bipush 32, 2) := by decide +kernel
theorem dX3_next_30 : decode cX3_next 30 = .ok (.if_icmp .eq 17, 3) := by decide +kernel
theorem dX3_next_33 : decode cX3_next 33 = .ok (.aload_n 0, 1) := by decide +kernel
theorem dX3_next_34 : decode cX3_next 34 = .ok (.getfield 20, 3) := by decide +kernel
theorem dX3_next_37 : decode cX3_next 37 = .ok (.aload_n 0, 1) := by decide +kernel
theorem dX3_next_38 : decode cX3_next 38 = .ok (.getfield 54, 3) := by decide +kernel
theorem dX3_next_41 : decode cX3_next 41 = .ok (.baload, 1) := by decide +kernel
theorem dX3_next_42 : decode cX3_next 42 = .ok (.bipush 10, 2) := by decide +kernel
theorem dX3_next_44 : decode cX3_next 44 = .ok (.if_icmp .ne 16, 3) := by decide +kernel
theorem dX3_next_47 : decode cX3_next 47 = .ok (.aload_n 0, 1) := by decide +kernel
theorem dX3_next_48 : decode cX3_next 48 = .ok (.dup, 1) := by decide +kernel
theorem dX3_next_49 : decode cX3_next 49 = .ok (.getfield 54, 3) := by decide +kernel
theorem dX3_next_52 : decode cX3_next 52 = .ok (.iconst 1, 1) := by decide +kernel
theorem dX3_next_53 : decode cX3_next 53 = .ok (.iadd, 1) := by decide +kernel
theorem dX3_next_54 : decode cX3_next 54 = .ok (.putfield 54, 3) := by decide +kernel
theorem dX3_next_57 : decode cX3_next 57 = .ok (.goto (-49), 3) := by decide +kernel
theorem dX3_next_60 : decode cX3_next 60 = .ok (.aload_n 0, 1) := by decide +kernel
theorem dX3_next_61 : decode cX3_next 61 = .ok (.aload_n 0, 1) := by decide +kernel
theorem dX3_next_62 : decode cX3_next 62 = .ok (.getfield 54, 3) := by decide +kernel
theorem dX3_next_65 : decode cX3_next 65 = .ok (.putfield 38, 3) := by decide +kernel
theorem dX3_next_68 : decode cX3_next 68 = .ok (.aload_n 0, 1) := by decide +kernel
theorem dX3_next_69 : decode cX3_next 69 = .ok (.getfield 54, 3) := by decide +kernel
theorem dX3_next_72 : decode cX3_next 72 = .ok (.aload_n 0, 1) := by decide +kernel
theorem dX3_next_73 : decode cX3_next 73 = .ok (.getfield 34, 3) := by decide +kernel
theorem dX3_next_76 : decode cX3_next 76 = .ok (.if_icmp .lt 11, 3) := by decide +kernel
theorem dX3_next_79 : decode cX3_next 79 = .ok (.aload_n 0, 1) := by decide +kernel
theorem dX3_next_80 : decode cX3_next 80 = .ok (.iconst 0, 1) := by decide +kernel
theorem dX3_next_81 : decode cX3_next 81 = .ok (.putfield 47, 3) := by decide +kernel
theorem dX3_next_84 : decode cX3_next 84 = .ok (.goto 72, 3) := by decide +kernel
theorem dX3_next_87 : decode cX3_next 87 = .ok (.aload_n 0, 1) := by decide +kernel
theorem dX3_next_88 : decode cX3_next 88 = .ok (.aload_n 0, 1) := by decide +kernel
theorem dX3_next_89 : decode cX3_next 89 = .ok (.getfield 54, 3) := by decide +kernel
theorem dX3_next_92 : decode cX3_next 92 = .ok (.invokevirtual 162, 3) := by decide +kernel
theorem dX3_next_95 : decode cX3_next 95 = .ok (.ifCond .eq 10, 3) := by decide +kernel
theorem dX3_next_98 : decode cX3_next 98 = .ok (.aload_n 0, 1) := by decide +kernel
theorem dX3_next_99 : decode cX3_next 99 = .ok (.invokevirtual 166, 3) := by decide +kernel
theorem dX3_next_102 : decode cX3_next 102 = .ok (.goto 54, 3) := by decide +kernel
theorem dX3_next_105 : decode cX3_next 105 = .ok (.aload_n 0, 1) := by decide +kernel
theorem dX3_next_106 : decode cX3_next 106 = .ok (.aload_n 0, 1) := by decide +kernel
theorem dX3_next_107 : decode cX3_next 107 = .ok (.getfield 54, 3) := by decide +kernel
theorem dX3_next_110 : decode cX3_next 110 = .ok (.invokevirtual 169, 3) := by decide +kernel
theorem dX3_next_113 : decode cX3_next 113 = .ok (.ifCond .eq 10, 3) := by decide +kernel
theorem dX3_next_116 : decode cX3_next 116 = .ok (.aload_n 0, 1) := by decide +kernel
theorem dX3_next_117 : decode cX3_next 117 = .ok (.invokevirtual 172, 3) := by decide +kernel
theorem dX3_next_120 : decode cX3_next 120 = .ok (.goto 36, 3) := by decide +kernel
theorem dX3_next_123 : decode cX3_next 123 = .ok (.aload_n 0, 1) := by decide +kernel
theorem dX3_next_124 : decode cX3_next 124 = .ok (.aload_n 0, 1) := by decide +kernel
theorem dX3_next_125 : decode cX3_next 125 = .ok (.getfield 20, 3) := by decide +kernel
theorem dX3_next_128 : decode cX3_next 128 = .ok (.aload_n 0, 1) := by decide +kernel
theorem dX3_next_129 : decode cX3_next 129 = .ok (.getfield 54, 3) := by decide +kernel
theorem dX3_next_132 : decode cX3_next 132 = .ok (.baload, 1) := by decide +kernel
theorem dX3_next_133 : decode cX3_next 133 = .ok (.bipush 59, 2) := by decide +kernel
theorem dX3_next_135 : decode cX3_next 135 = .ok (.if_icmp .ne 7, 3) := by decide +kernel
theorem dX3_next_138 : decode cX3_next 138 = .ok (.iconst 3, 1) := by decide +kernel
theorem dX3_next_139 : decode cX3_next 139 = .ok (.goto 4, 3) := by decide +kernel
theorem dX3_next_142 : decode cX3_next 142 = .ok (.iconst 4, 1) := by decide +kernel
theorem dX3_next_143 : decode cX3_next 143 = .ok (.putfield 47, 3) := by decide +kernel
theorem dX3_next_146 : decode cX3_next 146 = .ok (.aload_n 0, 1) := by decide +kernel
theorem dX3_next_147 : decode cX3_next 147 = .ok (.dup, 1) := by decide +kernel
theorem dX3_next_148 : decode cX3_next 148 = .ok (.getfield 38, 3) := by decide +kernel
theorem dX3_next_151 : decode cX3_next 151 = .ok (.iconst 1, 1) := by decide +kernel
theorem dX3_next_152 : decode cX3_next 152 = .ok (.iadd, 1) := by decide +kernel
theorem dX3_next_153 : decode cX3_next 153 = .ok (.putfield 38, 3) := by decide +kernel
theorem dX3_next_156 : decode cX3_next 156 = .ok (.return_, 1) := by decide +kernel
theorem dX3_takeWord_0 : decode cX3_takeWord 0 = .ok (.aload_n 0, 1) := by decide +kernel
theorem dX3_takeWord_1 : decode cX3_takeWord 1 = .ok (.iconst 1, 1) := by decide +kernel
theorem dX3_takeWord_2 : decode cX3_takeWord 2 = .ok (.putfield 47, 3) := by decide +kernel
theorem dX3_takeWord_5 : decode cX3_takeWord 5 = .ok (.aload_n 0, 1) := by decide +kernel
theorem dX3_takeWord_6 : decode cX3_takeWord 6 = .ok (.lconst 0, 1) := by decide +kernel
theorem dX3_takeWord_7 : decode cX3_takeWord 7 = .ok (.putfield 88, 3) := by decide +kernel
theorem dX3_takeWord_10 : decode cX3_takeWord 10 = .ok (.aload_n 0, 1) := by decide +kernel
theorem dX3_takeWord_11 : decode cX3_takeWord 11 = .ok (.getfield 38, 3) := by decide +kernel
theorem dX3_takeWord_14 : decode cX3_takeWord 14 = .ok (.aload_n 0, 1) := by decide +kernel
theorem dX3_takeWord_15 : decode cX3_takeWord 15 = .ok (.getfield 34, 3) := by decide +kernel
theorem dX3_takeWord_18 : decode cX3_takeWord 18 = .ok (.if_icmp .ge 55, 3) := by decide +kernel
theorem dX3_takeWord_21 : decode cX3_takeWord 21 = .ok (.aload_n 0, 1) := by decide +kernel
theorem dX3_takeWord_22 : decode cX3_takeWord 22 = .ok (.aload_n 0, 1) := by decide +kernel
theorem dX3_takeWord_23 : decode cX3_takeWord 23 = .ok (.getfield 38, 3) := by decide +kernel
theorem dX3_takeWord_26 : decode cX3_takeWord 26 = .ok (.invokevirtual 162, 3) := by decide +kernel
theorem dX3_takeWord_29 : decode cX3_takeWord 29 = .ok (.ifCond .eq 44, 3) := by decide +kernel
theorem dX3_takeWord_32 : decode cX3_takeWord 32 = .ok (.aload_n 0, 1) := by decide +kernel
theorem dX3_takeWord_33 : decode cX3_takeWord 33 = .ok (.aload_n 0, 1) := by decide +kernel
theorem dX3_takeWord_34 : decode cX3_takeWord 34 = .ok (.getfield 88, 3) := by decide +kernel
theorem dX3_takeWord_37 : decode cX3_takeWord 37 = .ok (.ldc2_w 175, 3) := by decide +kernel
theorem dX3_takeWord_40 : decode cX3_takeWord 40 = .ok (.lmul, 1) := by decide +kernel
theorem dX3_takeWord_41 : decode cX3_takeWord 41 = .ok (.aload_n 0, 1) := by decide +kernel
theorem dX3_takeWord_42 : decode cX3_takeWord 42 = .ok (.getfield 20, 3) := by decide +kernel
theorem dX3_takeWord_45 : decode cX3_takeWord 45 = .ok (.aload_n 0, 1) := by decide +kernel
theorem dX3_takeWord_46 : decode cX3_takeWord 46 = .ok (.getfield 38, 3) := by decide +kernel
theorem dX3_takeWord_49 : decode cX3_takeWord 49 = .ok (.baload, 1) := by decide +kernel
theorem dX3_takeWord_50 : decode cX3_takeWord 50 = .ok (.bipush 97, 2) := by decide +kernel
theorem dX3_takeWord_52 : decode cX3_takeWord 52 = .ok (.isub, 1) := by decide +kernel
theorem dX3_takeWord_53 : decode cX3_takeWord 53 = .ok (.iconst 1, 1) := by decide +kernel
theorem dX3_takeWord_54 : decode cX3_takeWord 54 = .ok (.iadd, 1) := by decide +kernel
theorem dX3_takeWord_55 : decode cX3_takeWord 55 = .ok (.i2l, 1) := by decide +kernel
theorem dX3_takeWord_56 : decode cX3_takeWord 56 = .ok (.ladd, 1) := by decide +kernel
theorem dX3_takeWord_57 : decode cX3_takeWord 57 = .ok (.putfield 88, 3) := by decide +kernel
theorem dX3_takeWord_60 : decode cX3_takeWord 60 = .ok (.aload_n 0, 1) := by decide +kernel
theorem dX3_takeWord_61 : decode cX3_takeWord 61 = .ok (.dup, 1) := by decide +kernel
theorem dX3_takeWord_62 : decode cX3_takeWord 62 = .ok (.getfield 38, 3) := by decide +kernel
theorem dX3_takeWord_65 : decode cX3_takeWord 65 = .ok (.iconst 1, 1) := by decide +kernel
theorem dX3_takeWord_66 : decode cX3_takeWord 66 = .ok (.iadd, 1) := by decide +kernel
theorem dX3_takeWord_67 : decode cX3_takeWord 67 = .ok (.putfield 38, 3) := by decide +kernel
theorem dX3_takeWord_70 : decode cX3_takeWord 70 = .ok (.goto (-60), 3) := by decide +kernel
theorem dX3_takeWord_73 : decode cX3_takeWord 73 = .ok (.return_, 1) := by decide +kernel
theorem dX3_takeNumber_0 : decode cX3_takeNumber 0 = .ok (.aload_n 0, 1) := by decide +kernel
theorem dX3_takeNumber_1 : decode cX3_takeNumber 1 = .ok (.iconst 2, 1) := by decide +kernel
theorem dX3_takeNumber_2 : decode cX3_takeNumber 2 = .ok (.putfield 47, 3) := by decide +kernel
theorem dX3_takeNumber_5 : decode cX3_takeNumber 5 = .ok (.aload_n 0, 1) := by decide +kernel
theorem dX3_takeNumber_6 : decode cX3_takeNumber 6 = .ok (.iconst 0, 1) := by decide +kernel
theorem dX3_takeNumber_7 : decode cX3_takeNumber 7 = .ok (.putfield 116, 3) := by decide +kernel
theorem dX3_takeNumber_10 : decode cX3_takeNumber 10 = .ok (.aload_n 0, 1) := by decide +kernel
theorem dX3_takeNumber_11 : decode cX3_takeNumber 11 = .ok (.getfield 38, 3) := by decide +kernel
theorem dX3_takeNumber_14 : decode cX3_takeNumber 14 = .ok (.aload_n 0, 1) := by decide +kernel
theorem dX3_takeNumber_15 : decode cX3_takeNumber 15 = .ok (.getfield 34, 3) := by decide +kernel
theorem dX3_takeNumber_18 : decode cX3_takeNumber 18 = .ok (.if_icmp .ge 57, 3) := by decide +kernel
theorem dX3_takeNumber_21 : decode cX3_takeNumber 21 = .ok (.aload_n 0, 1) := by decide +kernel
theorem dX3_takeNumber_22 : decode cX3_takeNumber 22 = .ok (.aload_n 0, 1) := by decide +kernel
theorem dX3_takeNumber_23 : decode cX3_takeNumber 23 = .ok (.getfield 38, 3) := by decide +kernel
theorem dX3_takeNumber_26 : decode cX3_takeNumber 26 = .ok (.invokevirtual 169, 3) := by decide +kernel
theorem dX3_takeNumber_29 : decode cX3_takeNumber 29 = .ok (.ifCond .eq 46, 3) := by decide +kernel
theorem dX3_takeNumber_32 : decode cX3_takeNumber 32 = .ok (.aload_n 0, 1) := by decide +kernel
theorem dX3_takeNumber_33 : decode cX3_takeNumber 33 = .ok (.sipush 1000, 3) := by decide +kernel
theorem dX3_takeNumber_36 : decode cX3_takeNumber 36 = .ok (.aload_n 0, 1) := by decide +kernel
theorem dX3_takeNumber_37 : decode cX3_takeNumber 37 = .ok (.getfield 116, 3) := by decide +kernel
theorem dX3_takeNumber_40 : decode cX3_takeNumber 40 = .ok (.bipush 10, 2) := by decide +kernel
theorem dX3_takeNumber_42 : decode cX3_takeNumber 42 = .ok (.imul, 1) := by decide +kernel
theorem dX3_takeNumber_43 : decode cX3_takeNumber 43 = .ok (.aload_n 0, 1) := by decide +kernel
theorem dX3_takeNumber_44 : decode cX3_takeNumber 44 = .ok (.getfield 20, 3) := by decide +kernel
theorem dX3_takeNumber_47 : decode cX3_takeNumber 47 = .ok (.aload_n 0, 1) := by decide +kernel
theorem dX3_takeNumber_48 : decode cX3_takeNumber 48 = .ok (.getfield 38, 3) := by decide +kernel
theorem dX3_takeNumber_51 : decode cX3_takeNumber 51 = .ok (.baload, 1) := by decide +kernel
theorem dX3_takeNumber_52 : decode cX3_takeNumber 52 = .ok (.bipush 48, 2) := by decide +kernel
theorem dX3_takeNumber_54 : decode cX3_takeNumber 54 = .ok (.isub, 1) := by decide +kernel
theorem dX3_takeNumber_55 : decode cX3_takeNumber 55 = .ok (.iadd, 1) := by decide +kernel
theorem dX3_takeNumber_56 : decode cX3_takeNumber 56 = .ok (.invokestatic 28, 3) := by decide +kernel
theorem dX3_takeNumber_59 : decode cX3_takeNumber 59 = .ok (.putfield 116, 3) := by decide +kernel
theorem dX3_takeNumber_62 : decode cX3_takeNumber 62 = .ok (.aload_n 0, 1) := by decide +kernel
theorem dX3_takeNumber_63 : decode cX3_takeNumber 63 = .ok (.dup, 1) := by decide +kernel
theorem dX3_takeNumber_64 : decode cX3_takeNumber 64 = .ok (.getfield 38, 3) := by decide +kernel
theorem dX3_takeNumber_67 : decode cX3_takeNumber 67 = .ok (.iconst 1, 1) := by decide +kernel
theorem dX3_takeNumber_68 : decode cX3_takeNumber 68 = .ok (.iadd, 1) := by decide +kernel
theorem dX3_takeNumber_69 : decode cX3_takeNumber 69 = .ok (.putfield 38, 3) := by decide +kernel
theorem dX3_takeNumber_72 : decode cX3_takeNumber 72 = .ok (.goto (-62), 3) := by decide +kernel
theorem dX3_takeNumber_75 : decode cX3_takeNumber 75 = .ok (.return_, 1) := by decide +kernel
theorem dX3_isLetter_0 : decode cX3_isLetter 0 = .ok (.aload_n 0, 1) := by decide +kernel
theorem dX3_isLetter_1 : decode cX3_isLetter 1 = .ok (.getfield 20, 3) := by decide +kernel
theorem dX3_isLetter_4 : decode cX3_isLetter 4 = .ok (.iload_n 1, 1) := by decide +kernel
theorem dX3_isLetter_5 : decode cX3_isLetter 5 = .ok (.baload, 1) := by decide +kernel
theorem dX3_isLetter_6 : decode cX3_isLetter 6 = .ok (.bipush 97, 2) := by decide +kernel
theorem dX3_isLetter_8 : decode cX3_isLetter 8 = .ok (.if_icmp .lt 18, 3) := by decide +kernel
theorem dX3_isLetter_11 : decode cX3_isLetter 11 = .ok (.aload_n 0, 1) := by decide +kernel
theorem dX3_isLetter_12 : decode cX3_isLetter 12 = .ok (.getfield 20, 3) := by decide +kernel
theorem dX3_isLetter_15 : decode cX3_isLetter 15 = .ok (.iload_n 1, 1) := by decide +kernel
theorem dX3_isLetter_16 : decode cX3_isLetter 16 = .ok (.baload, 1) := by decide +kernel
theorem dX3_isLetter_17 : decode cX3_isLetter 17 = .ok (.bipush 122, 2) := by decide +kernel
theorem dX3_isLetter_19 : decode cX3_isLetter 19 = .ok (.if_icmp .gt 7, 3) := by decide +kernel
theorem dX3_isLetter_22 : decode cX3_isLetter 22 = .ok (.iconst 1, 1) := by decide +kernel
theorem dX3_isLetter_23 : decode cX3_isLetter 23 = .ok (.goto 4, 3) := by decide +kernel
theorem dX3_isLetter_26 : decode cX3_isLetter 26 = .ok (.iconst 0, 1) := by decide +kernel
theorem dX3_isLetter_27 : decode cX3_isLetter 27 = .ok (.ireturn, 1) := by decide +kernel
theorem dX3_isDigit_0 : decode cX3_isDigit 0 = .ok (.aload_n 0, 1) := by decide +kernel
theorem dX3_isDigit_1 : decode cX3_isDigit 1 = .ok (.getfield 20, 3) := by decide +kernel
theorem dX3_isDigit_4 : decode cX3_isDigit 4 = .ok (.iload_n 1, 1) := by decide +kernel
theorem dX3_isDigit_5 : decode cX3_isDigit 5 = .ok (.baload, 1) := by decide +kernel
theorem dX3_isDigit_6 : decode cX3_isDigit 6 = .ok (.bipush 48, 2) := by decide +kernel
theorem dX3_isDigit_8 : decode cX3_isDigit 8 = .ok (.if_icmp .lt 18, 3) := by decide +kernel
theorem dX3_isDigit_11 : decode cX3_isDigit 11 = .ok (.aload_n 0, 1) := by decide +kernel
theorem dX3_isDigit_12 : decode cX3_isDigit 12 = .ok (.getfield 20, 3) := by decide +kernel
theorem dX3_isDigit_15 : decode cX3_isDigit 15 = .ok (.iload_n 1, 1) := by decide +kernel
theorem dX3_isDigit_16 : decode cX3_isDigit 16 = .ok (.baload, 1) := by decide +kernel
theorem dX3_isDigit_17 : decode cX3_isDigit 17 = .ok (.bipush 57, 2) := by decide +kernel
theorem dX3_isDigit_19 : decode cX3_isDigit 19 = .ok (.if_icmp .gt 7, 3) := by decide +kernel
theorem dX3_isDigit_22 : decode cX3_isDigit 22 = .ok (.iconst 1, 1) := by decide +kernel
theorem dX3_isDigit_23 : decode cX3_isDigit 23 = .ok (.goto 4, 3) := by decide +kernel
theorem dX3_isDigit_26 : decode cX3_isDigit 26 = .ok (.iconst 0, 1) := by decide +kernel
theorem dX3_isDigit_27 : decode cX3_isDigit 27 = .ok (.ireturn, 1) := by decide +kernel
theorem dX4_init_0 : decode cX4_init 0 = .ok (.aload_n 0, 1) := by decide +kernel
theorem dX4_init_1 : decode cX4_init 1 = .ok (.invokespecial 5, 3) := by decide +kernel
theorem dX4_init_4 : decode cX4_init 4 = .ok (.aload_n 0, 1) := by decide +kernel
theorem dX4_init_5 : decode cX4_init 5 = .ok (.new 11, 3) := by decide +kernel
theorem dX4_init_8 : decode cX4_init 8 = .ok (.dup, 1) := by decide +kernel
theorem dX4_init_9 : decode cX4_init 9 = .ok (.invokespecial 13, 3) := by decide +kernel
theorem dX4_init_12 : decode cX4_init 12 = .ok (.putfield 14, 3) := by decide +kernel
theorem dX4_init_15 : decode cX4_init 15 = .ok (.aload_n 0, 1) := by decide +kernel
theorem dX4_init_16 : decode cX4_init 16 = .ok (.sipush 256, 3) := by decide +kernel
theorem dX4_init_19 : decode cX4_init 19 = .ok (.newarray .int, 2) := by decide +kernel
theorem dX4_init_21 : decode cX4_init 21 = .ok (.putfield 18, 3) := by decide +kernel
theorem dX4_init_24 : decode cX4_init 24 = .ok (.aload_n 0, 1) := by decide +kernel
theorem dX4_init_25 : decode cX4_init 25 = .ok (.bipush 97, 2) := by decide +kernel
theorem dX4_init_27 : decode cX4_init 27 = .ok (.newarray .int, 2) := by decide +kernel
theorem dX4_init_29 : decode cX4_init 29 = .ok (.putfield 22, 3) := by decide +kernel
theorem dX4_init_32 : decode cX4_init 32 = .ok (.aload_n 0, 1) := by decide +kernel
theorem dX4_init_33 : decode cX4_init 33 = .ok (.bipush 6, 2) := by decide +kernel
theorem dX4_init_35 : decode cX4_init 35 = .ok (.newarray .int, 2) := by decide +kernel
theorem dX4_init_37 : decode cX4_init 37 = .ok (.putfield 27, 3) := by decide +kernel
theorem dX4_init_40 : decode cX4_init 40 = .ok (.aload_n 0, 1) := by decide +kernel
theorem dX4_init_41 : decode cX4_init 41 = .ok (.iconst 2, 1) := by decide +kernel
theorem dX4_init_42 : decode cX4_init 42 = .ok (.newarray .int, 2) := by decide +kernel
theorem dX4_init_44 : decode cX4_init 44 = .ok (.putfield 30, 3) := by decide +kernel
theorem dX4_init_47 : decode cX4_init 47 = .ok (.aload_n 0, 1) := by decide +kernel
theorem dX4_init_48 : decode cX4_init 48 = .ok (.aload_n 1, 1) := by decide +kernel
theorem dX4_init_49 : decode cX4_init 49 = .ok (.putfield 33, 3) := by decide +kernel
theorem dX4_init_52 : decode cX4_init 52 = .ok (.aload_n 0, 1) := by decide +kernel
theorem dX4_init_53 : decode cX4_init 53 = .ok (.aload_n 2, 1) := by decide +kernel
theorem dX4_init_54 : decode cX4_init 54 = .ok (.putfield 37, 3) := by decide +kernel
theorem dX4_init_57 : decode cX4_init 57 = .ok (.aload_n 0, 1) := by decide +kernel
theorem dX4_init_58 : decode cX4_init 58 = .ok (.aload_n 3, 1) := by decide +kernel
theorem dX4_init_59 : decode cX4_init 59 = .ok (.putfield 41, 3) := by decide +kernel
theorem dX4_init_62 : decode cX4_init 62 = .ok (.return_, 1) := by decide +kernel
theorem dX4_howManyWays_0 : decode cX4_howManyWays 0 = .ok (.aload_n 0, 1) := by decide +kernel
theorem dX4_howManyWays_1 : decode cX4_howManyWays 1 = .ok (.invokevirtual 44, 3) := by decide +kernel
theorem dX4_howManyWays_4 : decode cX4_howManyWays 4 = .ok (.aload_n 0, 1) := by decide +kernel
theorem dX4_howManyWays_5 : decode cX4_howManyWays 5 = .ok (.getfield 14, 3) := by decide +kernel
theorem dX4_howManyWays_8 : decode cX4_howManyWays 8 = .ok (.getfield 47, 3) := by decide +kernel
theorem dX4_howManyWays_11 : decode cX4_howManyWays 11 = .ok (.ireturn, 1) := by decide +kernel
theorem dX4_whereAt_0 : decode cX4_whereAt 0 = .ok (.aload_n 0, 1) := by decide +kernel
theorem dX4_whereAt_1 : decode cX4_whereAt 1 = .ok (.invokevirtual 44, 3) := by decide +kernel
theorem dX4_whereAt_4 : decode cX4_whereAt 4 = .ok (.iload_n 1, 1) := by decide +kernel
theorem dX4_whereAt_5 : decode cX4_whereAt 5 = .ok (.ifCond .lt 21, 3) := by decide +kernel
theorem dX4_whereAt_8 : decode cX4_whereAt 8 = .ok (.iload_n 1, 1) := by decide +kernel
theorem dX4_whereAt_9 : decode cX4_whereAt 9 = .ok (.bipush 96, 2) := by decide +kernel
theorem dX4_whereAt_11 : decode cX4_whereAt 11 = .ok (.if_icmp .gt 15, 3) := by decide +kernel
theorem dX4_whereAt_14 : decode cX4_whereAt 14 = .ok (.aload_n 0, 1) := by decide +kernel
theorem dX4_whereAt_15 : decode cX4_whereAt 15 = .ok (.getfield 14, 3) := by decide +kernel
theorem dX4_whereAt_18 : decode cX4_whereAt 18 = .ok (.getfield 51, 3) := by decide +kernel
theorem dX4_whereAt_21 : decode cX4_whereAt 21 = .ok (.iload_n 1, 1) := by decide +kernel
theorem dX4_whereAt_22 : decode cX4_whereAt 22 = .ok (.iaload, 1) := by decide +kernel
theorem dX4_whereAt_23 : decode cX4_whereAt 23 = .ok (.goto 4, 3) := by decide +kernel
theorem dX4_whereAt_26 : decode cX4_whereAt 26 = .ok (.iconst (-1), 1) := by decide +kernel
theorem dX4_whereAt_27 : decode cX4_whereAt 27 = .ok (.ireturn, 1) := by decide +kernel
theorem dX4_extremeOf_0 : decode cX4_extremeOf 0 = .ok (.iload_n 1, 1) := by decide +kernel
theorem dX4_extremeOf_1 : decode cX4_extremeOf 1 = .ok (.ifCond .lt 8, 3) := by decide +kernel
theorem dX4_extremeOf_4 : decode cX4_extremeOf 4 = .ok (.iload_n 1, 1) := by decide +kernel
theorem dX4_extremeOf_5 : decode cX4_extremeOf 5 = .ok (.iconst 3, 1) := by decide +kernel
theorem dX4_extremeOf_6 : decode cX4_extremeOf 6 = .ok (.if_icmp .le 5, 3) := by decide +kernel
theorem dX4_extremeOf_9 : decode cX4_extremeOf 9 = .ok (.iconst (-1), 1) := by decide +kernel
theorem dX4_extremeOf_10 : decode cX4_extremeOf 10 = .ok (.ireturn, 1) := by decide +kernel
theorem dX4_extremeOf_11 : decode cX4_extremeOf 11 = .ok (.aload_n 0, 1) := by decide +kernel
theorem dX4_extremeOf_12 : decode cX4_extremeOf 12 = .ok (.iload_n 1, 1) := by decide +kernel
theorem dX4_extremeOf_13 : decode cX4_extremeOf 13 = .ok (.invokevirtual 54, 3) := by decide +kernel
theorem dX4_extremeOf_16 : decode cX4_extremeOf 16 = .ok (.ifCond .eq 26, 3) := by decide +kernel
theorem dX4_extremeOf_19 : decode cX4_extremeOf 19 = .ok (.aload_n 0, 1) := by decide +kernel
theorem dX4_extremeOf_20 : decode cX4_extremeOf 20 = .ok (.iconst 0, 1) := by decide +kernel
theorem dX4_extremeOf_21 : decode cX4_extremeOf 21 = .ok (.invokevirtual 58, 3) := by decide +kernel
theorem dX4_extremeOf_24 : decode cX4_extremeOf 24 = .ok (.aload_n 0, 1) := by decide +kernel
theorem dX4_extremeOf_25 : decode cX4_extremeOf 25 = .ok (.iload_n 1, 1) := by decide +kernel
theorem dX4_extremeOf_26 : decode cX4_extremeOf 26 = .ok (.invokevirtual 62, 3) := by decide +kernel
theorem dX4_extremeOf_29 : decode cX4_extremeOf 29 = .ok (.aload_n 0, 1) := by decide +kernel
theorem dX4_extremeOf_30 : decode cX4_extremeOf 30 = .ok (.getfield 14, 3) := by decide +kernel
theorem dX4_extremeOf_33 : decode cX4_extremeOf 33 = .ok (.getfield 65, 3) := by decide +kernel
theorem dX4_extremeOf_36 : decode cX4_extremeOf 36 = .ok (.iload_n 1, 1) := by decide +kernel
theorem dX4_extremeOf_37 : decode cX4_extremeOf 37 = .ok (.aload_n 0, 1) := by decide +kernel
theorem dX4_extremeOf_38 : decode cX4_extremeOf 38 = .ok (.invokevirtual 68, 3) := by decide +kernel
theorem dX4_extremeOf_41 : decode cX4_extremeOf 41 = .ok (.iastore, 1) := by decide +kernel
theorem dX4_extremeOf_42 : decode cX4_extremeOf 42 = .ok (.aload_n 0, 1) := by decide +kernel
theorem dX4_extremeOf_43 : decode cX4_extremeOf 43 = .ok (.getfield 14, 3) := by decide +kernel
theorem dX4_extremeOf_46 : decode cX4_extremeOf 46 = .ok (.getfield 65, 3) := by decide +kernel
theorem dX4_extremeOf_49 : decode cX4_extremeOf 49 = .ok (.iload_n 1, 1) := by decide +kernel
theorem dX4_extremeOf_50 : decode cX4_extremeOf 50 = .ok (.iaload, 1) := by decide +kernel
theorem dX4_extremeOf_51 : decode cX4_extremeOf 51 = .ok (.ireturn, 1) := by decide +kernel
theorem dX4_taleAt_0 : decode cX4_taleAt 0 = .ok (.aload_n 0, 1) := by decide +kernel
theorem dX4_taleAt_1 : decode cX4_taleAt 1 = .ok (.bipush 6, 2) := by decide +kernel
theorem dX4_taleAt_3 : decode cX4_taleAt 3 = .ok (.invokevirtual 54, 3) := by decide +kernel
theorem dX4_taleAt_6 : decode cX4_taleAt 6 = .ok (.ifCond .eq 17, 3) := by decide +kernel
theorem dX4_taleAt_9 : decode cX4_taleAt 9 = .ok (.aload_n 0, 1) := by decide +kernel
theorem dX4_taleAt_10 : decode cX4_taleAt 10 = .ok (.iconst 0, 1) := by decide +kernel
theorem dX4_taleAt_11 : decode cX4_taleAt 11 = .ok (.invokevirtual 58, 3) := by decide +kernel
theorem dX4_taleAt_14 : decode cX4_taleAt 14 = .ok (.aload_n 0, 1) := by decide +kernel
theorem dX4_taleAt_15 : decode cX4_taleAt 15 = .ok (.iconst 0, 1) := by decide +kernel
theorem dX4_taleAt_16 : decode cX4_taleAt 16 = .ok (.invokevirtual 62, 3) := by decide +kernel
theorem dX4_taleAt_19 : decode cX4_taleAt 19 = .ok (.aload_n 0, 1) := by decide +kernel
theorem dX4_taleAt_20 : decode cX4_taleAt 20 = .ok (.invokevirtual 72, 3) := by decide +kernel
theorem dX4_taleAt_23 : decode cX4_taleAt 23 = .ok (.iload_n 1, 1) := by decide +kernel
theorem dX4_taleAt_24 : decode cX4_taleAt 24 = .ok (.iconst (-1), 1) := by decide +kernel
theorem dX4_taleAt_25 : decode cX4_taleAt 25 = .ok (.if_icmp .ne 11, 3) := by decide +kernel
theorem dX4_taleAt_28 : decode cX4_taleAt 28 = .ok (.aload_n 0, 1) := by decide +kernel
theorem dX4_taleAt_29 : decode cX4_taleAt 29 = .ok (.getfield 14, 3) := by decide +kernel
theorem dX4_taleAt_32 : decode cX4_taleAt 32 = .ok (.getfield 75, 3) := by decide +kernel
theorem dX4_taleAt_35 : decode cX4_taleAt 35 = .ok (.ireturn, 1) := by decide +kernel
theorem dX4_taleAt_36 : decode cX4_taleAt 36 = .ok (.iload_n 1, 1) := by decide +kernel
theorem dX4_taleAt_37 : decode cX4_taleAt 37 = .ok (.ifCond .lt 26, 3) := by decide +kernel
theorem dX4_taleAt_40 : decode cX4_taleAt 40 = .ok (.iload_n 1, 1) := by decide +kernel
theorem dX4_taleAt_41 : decode cX4_taleAt 41 = .ok (.aload_n 0, 1) := by decide +kernel
theorem dX4_taleAt_42 : decode cX4_taleAt 42 = .ok (.getfield 14, 3) := by decide +kernel
theorem dX4_taleAt_45 : decode cX4_taleAt 45 = .ok (.getfield 75, 3) := by decide +kernel
theorem dX4_taleAt_48 : decode cX4_taleAt 48 = .ok (.if_icmp .ge 15, 3) := by decide +kernel
theorem dX4_taleAt_51 : decode cX4_taleAt 51 = .ok (.aload_n 0, 1) := by decide +kernel
theorem dX4_taleAt_52 : decode cX4_taleAt 52 = .ok (.getfield 14, 3) := by decide +kernel
theorem dX4_taleAt_55 : decode cX4_taleAt 55 = .ok (.getfield 78, 3) := by decide +kernel
theorem dX4_taleAt_58 : decode cX4_taleAt 58 = .ok (.iload_n 1, 1) := by decide +kernel
theorem dX4_taleAt_59 : decode cX4_taleAt 59 = .ok (.iaload, 1) := by decide +kernel
theorem dX4_taleAt_60 : decode cX4_taleAt 60 = .ok (.goto 4, 3) := by decide +kernel
theorem dX4_taleAt_63 : decode cX4_taleAt 63 = .ok (.iconst (-1), 1) := by decide +kernel
theorem dX4_taleAt_64 : decode cX4_taleAt 64 = .ok (.ireturn, 1) := by decide +kernel
theorem dX4_fewestToDoubt_0 : decode cX4_fewestToDoubt 0 = .ok (.aload_n 0, 1) := by decide +kernel
theorem dX4_fewestToDoubt_1 : decode cX4_fewestToDoubt 1 = .ok (.iconst 5, 1) := by decide +kernel
theorem dX4_fewestToDoubt_2 : decode cX4_fewestToDoubt 2 = .ok (.invokevirtual 54, 3) := by decide +kernel
theorem dX4_fewestToDoubt_5 : decode cX4_fewestToDoubt 5 = .ok (.ifCond .eq 38, 3) := by decide +kernel
theorem dX4_fewestToDoubt_8 : decode cX4_fewestToDoubt 8 = .ok (.aload_n 0, 1) := by decide +kernel
theorem dX4_fewestToDoubt_9 : decode cX4_fewestToDoubt 9 = .ok (.iconst 0, 1) := by decide +kernel
theorem dX4_fewestToDoubt_10 : decode cX4_fewestToDoubt 10 = .ok (.invokevirtual 58, 3) := by decide +kernel
theorem dX4_fewestToDoubt_13 : decode cX4_fewestToDoubt 13 = .ok (.aload_n 0, 1) := by decide +kernel
theorem dX4_fewestToDoubt_14 : decode cX4_fewestToDoubt 14 = .ok (.iconst 5, 1) := by decide +kernel
theorem dX4_fewestToDoubt_15 : decode cX4_fewestToDoubt 15 = .ok (.invokevirtual 62, 3) := by decide +kernel
theorem dX4_fewestToDoubt_18 : decode cX4_fewestToDoubt 18 = .ok (.aload_n 0, 1) := by decide +kernel
theorem dX4_fewestToDoubt_19 : decode cX4_fewestToDoubt 19 = .ok (.invokevirtual 68, 3) := by decide +kernel
theorem dX4_fewestToDoubt_22 : decode cX4_fewestToDoubt 22 = .ok (.istore_n 1, 1) := by decide +kernel
theorem dX4_fewestToDoubt_23 : decode cX4_fewestToDoubt 23 = .ok (.aload_n 0, 1) := by decide +kernel
theorem dX4_fewestToDoubt_24 : decode cX4_fewestToDoubt 24 = .ok (.getfield 14, 3) := by decide +kernel
theorem dX4_fewestToDoubt_27 : decode cX4_fewestToDoubt 27 = .ok (.iload_n 1, 1) := by decide +kernel
theorem dX4_fewestToDoubt_28 : decode cX4_fewestToDoubt 28 = .ok (.ifCond .ge 7, 3) := by decide +kernel
theorem dX4_fewestToDoubt_31 : decode cX4_fewestToDoubt 31 = .ok (.iconst (-1), 1) := by decide +kernel
theorem dX4_fewestToDoubt_32 : decode cX4_fewestToDoubt 32 = .ok (.goto 8, 3) := by decide +kernel
theorem dX4_fewestToDoubt_35 : decode cX4_fewestToDoubt 35 = .ok (.iload_n 1, 1) := by decide +kernel
theorem dX4_fewestToDoubt_36 : decode cX4_fewestToDoubt 36 = .ok (.sipush 256, 3) := by decide +kernel
theorem dX4_fewestToDoubt_39 : decode cX4_fewestToDoubt 39 = .ok (.irem, 1) := by decide +kernel
theorem dX4_fewestToDoubt_40 : decode cX4_fewestToDoubt 40 = .ok (.putfield 81, 3) := by decide +kernel
theorem dX4_fewestToDoubt_43 : decode cX4_fewestToDoubt 43 = .ok (.aload_n 0, 1) := by decide +kernel
theorem dX4_fewestToDoubt_44 : decode cX4_fewestToDoubt 44 = .ok (.getfield 14, 3) := by decide +kernel
theorem dX4_fewestToDoubt_47 : decode cX4_fewestToDoubt 47 = .ok (.getfield 81, 3) := by decide +kernel
theorem dX4_fewestToDoubt_50 : decode cX4_fewestToDoubt 50 = .ok (.ireturn, 1) := by decide +kernel
theorem dX4_freestWithout_0 : decode cX4_freestWithout 0 = .ok (.aload_n 0, 1) := by decide +kernel
theorem dX4_freestWithout_1 : decode cX4_freestWithout 1 = .ok (.invokevirtual 44, 3) := by decide +kernel
theorem dX4_freestWithout_4 : decode cX4_freestWithout 4 = .ok (.aload_n 0, 1) := by decide +kernel
theorem dX4_freestWithout_5 : decode cX4_freestWithout 5 = .ok (.bipush 7, 2) := by decide +kernel
theorem dX4_freestWithout_7 : decode cX4_freestWithout 7 = .ok (.invokevirtual 54, 3) := by decide +kernel
theorem dX4_freestWithout_10 : decode cX4_freestWithout 10 = .ok (.ifCond .eq 83, 3) := by decide +kernel
theorem dX4_freestWithout_13 : decode cX4_freestWithout 13 = .ok (.aload_n 0, 1) := by decide +kernel
theorem dX4_freestWithout_14 : decode cX4_freestWithout 14 = .ok (.getfield 14, 3) := by decide +kernel
theorem dX4_freestWithout_17 : decode cX4_freestWithout 17 = .ok (.getfield 47, 3) := by decide +kernel
theorem dX4_freestWithout_20 : decode cX4_freestWithout 20 = .ok (.istore_n 1, 1) := by decide +kernel
theorem dX4_freestWithout_21 : decode cX4_freestWithout 21 = .ok (.aload_n 0, 1) := by decide +kernel
theorem dX4_freestWithout_22 : decode cX4_freestWithout 22 = .ok (.getfield 14, 3) := by decide +kernel
theorem dX4_freestWithout_25 : decode cX4_freestWithout 25 = .ok (.iconst (-1), 1) := by decide +kernel
theorem dX4_freestWithout_26 : decode cX4_freestWithout 26 = .ok (.putfield 84, 3) := by decide +kernel
theorem dX4_freestWithout_29 : decode cX4_freestWithout 29 = .ok (.iconst 0, 1) := by decide +kernel
theorem dX4_freestWithout_30 : decode cX4_freestWithout 30 = .ok (.istore_n 2, 1) := by decide +kernel
theorem dX4_freestWithout_31 : decode cX4_freestWithout 31 = .ok (.iload_n 2, 1) := by decide +kernel
theorem dX4_freestWithout_32 : decode cX4_freestWithout 32 = .ok (.aload_n 0, 1) := by decide +kernel
theorem dX4_freestWithout_33 : decode cX4_freestWithout 33 = .ok (.getfield 37, 3) := by decide +kernel
theorem dX4_freestWithout_36 : decode cX4_freestWithout 36 = .ok (.getfield 87, 3) := by decide +kernel
theorem dX4_freestWithout_39 : decode cX4_freestWithout 39 = .ok (.if_icmp .ge 54, 3) := by decide +kernel
theorem dX4_freestWithout_42 : decode cX4_freestWithout 42 = .ok (.aload_n 0, 1) := by decide +kernel
theorem dX4_freestWithout_43 : decode cX4_freestWithout 43 = .ok (.getfield 37, 3) := by decide +kernel
theorem dX4_freestWithout_46 : decode cX4_freestWithout 46 = .ok (.getfield 90, 3) := by decide +kernel
theorem dX4_freestWithout_49 : decode cX4_freestWithout 49 = .ok (.iload_n 2, 1) := by decide +kernel
theorem dX4_freestWithout_50 : decode cX4_freestWithout 50 = .ok (.baload, 1) := by decide +kernel
theorem dX4_freestWithout_51 : decode cX4_freestWithout 51 = .ok (.ifCond .ne 36, 3) := by decide +kernel
theorem dX4_freestWithout_54 : decode cX4_freestWithout 54 = .ok (.aload_n 0, 1) := by decide +kernel
theorem dX4_freestWithout_55 : decode cX4_freestWithout 55 = .ok (.iconst 1, 1) := by decide +kernel
theorem dX4_freestWithout_56 : decode cX4_freestWithout 56 = .ok (.iload_n 2, 1) := by decide +kernel
theorem dX4_freestWithout_57 : decode cX4_freestWithout 57 = .ok (.ishl, 1) := by decide +kernel
theorem dX4_freestWithout_58 : decode cX4_freestWithout 58 = .ok (.invokevirtual 58, 3) := by decide +kernel
theorem dX4_freestWithout_61 : decode cX4_freestWithout 61 = .ok (.aload_n 0, 1) := by decide +kernel
theorem dX4_freestWithout_62 : decode cX4_freestWithout 62 = .ok (.iconst 4, 1) := by decide +kernel
theorem dX4_freestWithout_63 : decode cX4_freestWithout 63 = .ok (.invokevirtual 62, 3) := by decide +kernel
theorem dX4_freestWithout_66 : decode cX4_freestWithout 66 = .ok (.aload_n 0, 1) := by decide +kernel
theorem dX4_freestWithout_67 : decode cX4_freestWithout 67 = .ok (.invokevirtual 68, 3) := by decide +kernel
theorem dX4_freestWithout_70 : decode cX4_freestWithout 70 = .ok (.iload_n 1, 1) := by decide +kernel
theorem dX4_freestWithout_71 : decode cX4_freestWithout 71 = .ok (.if_icmp .le 16, 3) := by decide +kernel
theorem dX4_freestWithout_74 : decode cX4_freestWithout 74 = .ok (.aload_n 0, 1) := by decide +kernel
theorem dX4_freestWithout_75 : decode cX4_freestWithout 75 = .ok (.invokevirtual 68, 3) := by decide +kernel
theorem dX4_freestWithout_78 : decode cX4_freestWithout 78 = .ok (.istore_n 1, 1) := by decide +kernel
theorem dX4_freestWithout_79 : decode cX4_freestWithout 79 = .ok (.aload_n 0, 1) := by decide +kernel
theorem dX4_freestWithout_80 : decode cX4_freestWithout 80 = .ok (.getfield 14, 3) := by decide +kernel
theorem dX4_freestWithout_83 : decode cX4_freestWithout 83 = .ok (.iload_n 2, 1) := by decide +kernel
theorem dX4_freestWithout_84 : decode cX4_freestWithout 84 = .ok (.putfield 84, 3) := by decide +kernel
theorem dX4_freestWithout_87 : decode cX4_freestWithout 87 = .ok (.iinc 2 1, 3) := by decide +kernel
theorem dX4_freestWithout_90 : decode cX4_freestWithout 90 = .ok (.goto (-59), 3) := by decide +kernel
theorem dX4_freestWithout_93 : decode cX4_freestWithout 93 = .ok (.aload_n 0, 1) := by decide +kernel
theorem dX4_freestWithout_94 : decode cX4_freestWithout 94 = .ok (.getfield 14, 3) := by decide +kernel
theorem dX4_freestWithout_97 : decode cX4_freestWithout 97 = .ok (.getfield 84, 3) := by decide +kernel
theorem dX4_freestWithout_100 : decode cX4_freestWithout 100 = .ok (.ireturn, 1) := by decide +kernel
theorem dX4_mustLearn_0 : decode cX4_mustLearn 0 = .ok (.aload_n 0, 1) := by decide +kernel
theorem dX4_mustLearn_1 : decode cX4_mustLearn 1 = .ok (.getfield 37, 3) := by decide +kernel
theorem dX4_mustLearn_4 : decode cX4_mustLearn 4 = .ok (.getfield 94, 3) := by decide +kernel
theorem dX4_mustLearn_7 : decode cX4_mustLearn 7 = .ok (.ifCond .eq 19, 3) := by decide +kernel
theorem dX4_mustLearn_10 : decode cX4_mustLearn 10 = .ok (.aload_n 0, 1) := by decide +kernel
theorem dX4_mustLearn_11 : decode cX4_mustLearn 11 = .ok (.getfield 37, 3) := by decide +kernel
theorem dX4_mustLearn_14 : decode cX4_mustLearn 14 = .ok (.iconst 0, 1) := by decide +kernel
theorem dX4_mustLearn_15 : decode cX4_mustLearn 15 = .ok (.putfield 94, 3) := by decide +kernel
theorem dX4_mustLearn_18 : decode cX4_mustLearn 18 = .ok (.aload_n 0, 1) := by decide +kernel
theorem dX4_mustLearn_19 : decode cX4_mustLearn 19 = .ok (.getfield 14, 3) := by decide +kernel
theorem dX4_mustLearn_22 : decode cX4_mustLearn 22 = .ok (.iconst 0, 1) := by decide +kernel
theorem dX4_mustLearn_23 : decode cX4_mustLearn 23 = .ok (.putfield 98, 3) := by decide +kernel
theorem dX4_mustLearn_26 : decode cX4_mustLearn 26 = .ok (.aload_n 0, 1) := by decide +kernel
theorem dX4_mustLearn_27 : decode cX4_mustLearn 27 = .ok (.getfield 14, 3) := by decide +kernel
theorem dX4_mustLearn_30 : decode cX4_mustLearn 30 = .ok (.getfield 98, 3) := by decide +kernel
theorem dX4_mustLearn_33 : decode cX4_mustLearn 33 = .ok (.iload_n 1, 1) := by decide +kernel
theorem dX4_mustLearn_34 : decode cX4_mustLearn 34 = .ok (.ishr, 1) := by decide +kernel
theorem dX4_mustLearn_35 : decode cX4_mustLearn 35 = .ok (.iconst 1, 1) := by decide +kernel
theorem dX4_mustLearn_36 : decode cX4_mustLearn 36 = .ok (.iand, 1) := by decide +kernel
theorem dX4_mustLearn_37 : decode cX4_mustLearn 37 = .ok (.ifCond .ne 7, 3) := by decide +kernel
theorem dX4_mustLearn_40 : decode cX4_mustLearn 40 = .ok (.iconst 1, 1) := by decide +kernel
theorem dX4_mustLearn_41 : decode cX4_mustLearn 41 = .ok (.goto 4, 3) := by decide +kernel
theorem dX4_mustLearn_44 : decode cX4_mustLearn 44 = .ok (.iconst 0, 1) := by decide +kernel
theorem dX4_mustLearn_45 : decode cX4_mustLearn 45 = .ok (.istore_n 2, 1) := by decide +kernel
theorem dX4_mustLearn_46 : decode cX4_mustLearn 46 = .ok (.aload_n 0, 1) := by decide +kernel
theorem dX4_mustLearn_47 : decode cX4_mustLearn 47 = .ok (.getfield 14, 3) := by decide +kernel
theorem dX4_mustLearn_50 : decode cX4_mustLearn 50 = .ok (.dup, 1) := by decide +kernel
theorem dX4_mustLearn_51 : decode cX4_mustLearn 51 = .ok (.getfield 98, 3) := by decide +kernel
theorem dX4_mustLearn_54 : decode cX4_mustLearn 54 = .ok (.iconst 1, 1) := by decide +kernel
theorem dX4_mustLearn_55 : decode cX4_mustLearn 55 = .ok (.iload_n 1, 1) := by decide +kernel
theorem dX4_mustLearn_56 : decode cX4_mustLearn 56 = .ok (.ishl, 1) := by decide +kernel
theorem dX4_mustLearn_57 : decode cX4_mustLearn 57 = .ok (.ior, 1) := by decide +kernel
theorem dX4_mustLearn_58 : decode cX4_mustLearn 58 = .ok (.putfield 98, 3) := by decide +kernel
theorem dX4_mustLearn_61 : decode cX4_mustLearn 61 = .ok (.iload_n 2, 1) := by decide +kernel
theorem dX4_mustLearn_62 : decode cX4_mustLearn 62 = .ok (.ireturn, 1) := by decide +kernel
theorem dX4_learnWhere_0 : decode cX4_learnWhere 0 = .ok (.aload_n 0, 1) := by decide +kernel
theorem dX4_learnWhere_1 : decode cX4_learnWhere 1 = .ok (.iconst 4, 1) := by decide +kernel
theorem dX4_learnWhere_2 : decode cX4_learnWhere 2 = .ok (.invokevirtual 54, 3) := by decide +kernel
theorem dX4_learnWhere_5 : decode cX4_learnWhere 5 = .ok (.ifCond .ne 4, 3) := by decide +kernel
theorem dX4_learnWhere_8 : decode cX4_learnWhere 8 = .ok (.return_, 1) := by decide +kernel
theorem dX4_learnWhere_9 : decode cX4_learnWhere 9 = .ok (.aload_n 0, 1) := by decide +kernel
theorem dX4_learnWhere_10 : decode cX4_learnWhere 10 = .ok (.iconst 0, 1) := by decide +kernel
theorem dX4_learnWhere_11 : decode cX4_learnWhere 11 = .ok (.invokevirtual 58, 3) := by decide +kernel
theorem dX4_learnWhere_14 : decode cX4_learnWhere 14 = .ok (.aload_n 0, 1) := by decide +kernel
theorem dX4_learnWhere_15 : decode cX4_learnWhere 15 = .ok (.iconst 4, 1) := by decide +kernel
theorem dX4_learnWhere_16 : decode cX4_learnWhere 16 = .ok (.invokevirtual 62, 3) := by decide +kernel
theorem dX4_learnWhere_19 : decode cX4_learnWhere 19 = .ok (.aload_n 0, 1) := by decide +kernel
theorem dX4_learnWhere_20 : decode cX4_learnWhere 20 = .ok (.getfield 14, 3) := by decide +kernel
theorem dX4_learnWhere_23 : decode cX4_learnWhere 23 = .ok (.iconst 0, 1) := by decide +kernel
theorem dX4_learnWhere_24 : decode cX4_learnWhere 24 = .ok (.aload_n 0, 1) := by decide +kernel
theorem dX4_learnWhere_25 : decode cX4_learnWhere 25 = .ok (.invokevirtual 68, 3) := by decide +kernel
theorem dX4_learnWhere_28 : decode cX4_learnWhere 28 = .ok (.invokestatic 101, 3) := by decide +kernel
theorem dX4_learnWhere_31 : decode cX4_learnWhere 31 = .ok (.putfield 47, 3) := by decide +kernel
theorem dX4_learnWhere_34 : decode cX4_learnWhere 34 = .ok (.iconst 0, 1) := by decide +kernel
theorem dX4_learnWhere_35 : decode cX4_learnWhere 35 = .ok (.istore_n 1, 1) := by decide +kernel
theorem dX4_learnWhere_36 : decode cX4_learnWhere 36 = .ok (.iload_n 1, 1) := by decide +kernel
theorem dX4_learnWhere_37 : decode cX4_learnWhere 37 = .ok (.bipush 96, 2) := by decide +kernel
theorem dX4_learnWhere_39 : decode cX4_learnWhere 39 = .ok (.if_icmp .gt 19, 3) := by decide +kernel
theorem dX4_learnWhere_42 : decode cX4_learnWhere 42 = .ok (.aload_n 0, 1) := by decide +kernel
theorem dX4_learnWhere_43 : decode cX4_learnWhere 43 = .ok (.getfield 14, 3) := by decide +kernel
theorem dX4_learnWhere_46 : decode cX4_learnWhere 46 = .ok (.getfield 51, 3) := by decide +kernel
theorem dX4_learnWhere_49 : decode cX4_learnWhere 49 = .ok (.iload_n 1, 1) := by decide +kernel
theorem dX4_learnWhere_50 : decode cX4_learnWhere 50 = .ok (.iconst 0, 1) := by decide +kernel
theorem dX4_learnWhere_51 : decode cX4_learnWhere 51 = .ok (.iastore, 1) := by decide +kernel
theorem dX4_learnWhere_52 : decode cX4_learnWhere 52 = .ok (.iinc 1 1, 3) := by decide +kernel
theorem dX4_learnWhere_55 : decode cX4_learnWhere 55 = .ok (.goto (-19), 3) := by decide +kernel
theorem dX4_learnWhere_58 : decode cX4_learnWhere 58 = .ok (.aload_n 0, 1) := by decide +kernel
theorem dX4_learnWhere_59 : decode cX4_learnWhere 59 = .ok (.iconst 0, 1) := by decide +kernel
theorem dX4_learnWhere_60 : decode cX4_learnWhere 60 = .ok (.aload_n 0, 1) := by decide +kernel
theorem dX4_learnWhere_61 : decode cX4_learnWhere 61 = .ok (.invokevirtual 107, 3) := by decide +kernel
theorem dX4_learnWhere_64 : decode cX4_learnWhere 64 = .ok (.invokevirtual 110, 3) := by decide +kernel
theorem dX4_learnWhere_67 : decode cX4_learnWhere 67 = .ok (.pop, 1) := by decide +kernel
theorem dX4_learnWhere_68 : decode cX4_learnWhere 68 = .ok (.iconst 0, 1) := by decide +kernel
theorem dX4_learnWhere_69 : decode cX4_learnWhere 69 = .ok (.istore_n 1, 1) := by decide +kernel
theorem dX4_learnWhere_70 : decode cX4_learnWhere 70 = .ok (.iload_n 1, 1) := by decide +kernel
theorem dX4_learnWhere_71 : decode cX4_learnWhere 71 = .ok (.aload_n 0, 1) := by decide +kernel
theorem dX4_learnWhere_72 : decode cX4_learnWhere 72 = .ok (.getfield 37, 3) := by decide +kernel
theorem dX4_learnWhere_75 : decode cX4_learnWhere 75 = .ok (.getfield 114, 3) := by decide +kernel
theorem dX4_learnWhere_78 : decode cX4_learnWhere 78 = .ok (.if_icmp .gt 84, 3) := by decide +kernel
theorem dX4_learnWhere_81 : decode cX4_learnWhere 81 = .ok (.aload_n 0, 1) := by decide +kernel
theorem dX4_learnWhere_82 : decode cX4_learnWhere 82 = .ok (.iload_n 1, 1) := by decide +kernel
theorem dX4_learnWhere_83 : decode cX4_learnWhere 83 = .ok (.invokevirtual 117, 3) := by decide +kernel
theorem dX4_learnWhere_86 : decode cX4_learnWhere 86 = .ok (.istore_n 2, 1) := by decide +kernel
theorem dX4_learnWhere_87 : decode cX4_learnWhere 87 = .ok (.iconst 0, 1) := by decide +kernel
theorem dX4_learnWhere_88 : decode cX4_learnWhere 88 = .ok (.istore_n 3, 1) := by decide +kernel
theorem dX4_learnWhere_89 : decode cX4_learnWhere 89 = .ok (.iload_n 3, 1) := by decide +kernel
theorem dX4_learnWhere_90 : decode cX4_learnWhere 90 = .ok (.iload_n 2, 1) := by decide +kernel
theorem dX4_learnWhere_91 : decode cX4_learnWhere 91 = .ok (.if_icmp .gt 65, 3) := by decide +kernel
theorem dX4_learnWhere_94 : decode cX4_learnWhere 94 = .ok (.iconst 0, 1) := by decide +kernel
theorem dX4_learnWhere_95 : decode cX4_learnWhere 95 = .ok (.istore 4, 2) := by decide +kernel
theorem dX4_learnWhere_97 : decode cX4_learnWhere 97 = .ok (.iload 4, 2) := by decide +kernel
theorem dX4_learnWhere_99 : decode cX4_learnWhere 99 = .ok (.aload_n 0, 1) := by decide +kernel
theorem dX4_learnWhere_100 : decode cX4_learnWhere 100 = .ok (.getfield 121, 3) := by decide +kernel
theorem dX4_learnWhere_103 : decode cX4_learnWhere 103 = .ok (.if_icmp .ge 47, 3) := by decide +kernel
theorem dX4_learnWhere_106 : decode cX4_learnWhere 106 = .ok (.iload_n 3, 1) := by decide +kernel
theorem dX4_learnWhere_107 : decode cX4_learnWhere 107 = .ok (.sipush 256, 3) := by decide +kernel
theorem dX4_learnWhere_110 : decode cX4_learnWhere 110 = .ok (.imul, 1) := by decide +kernel
theorem dX4_learnWhere_111 : decode cX4_learnWhere 111 = .ok (.aload_n 0, 1) := by decide +kernel
theorem dX4_learnWhere_112 : decode cX4_learnWhere 112 = .ok (.getfield 18, 3) := by decide +kernel
theorem dX4_learnWhere_115 : decode cX4_learnWhere 115 = .ok (.iload 4, 2) := by decide +kernel
theorem dX4_learnWhere_117 : decode cX4_learnWhere 117 = .ok (.iaload, 1) := by decide +kernel
theorem dX4_learnWhere_118 : decode cX4_learnWhere 118 = .ok (.iadd, 1) := by decide +kernel
theorem dX4_learnWhere_119 : decode cX4_learnWhere 119 = .ok (.istore 5, 2) := by decide +kernel
theorem dX4_learnWhere_121 : decode cX4_learnWhere 121 = .ok (.aload_n 0, 1) := by decide +kernel
theorem dX4_learnWhere_122 : decode cX4_learnWhere 122 = .ok (.getfield 41, 3) := by decide +kernel
theorem dX4_learnWhere_125 : decode cX4_learnWhere 125 = .ok (.iload_n 1, 1) := by decide +kernel
theorem dX4_learnWhere_126 : decode cX4_learnWhere 126 = .ok (.iload 5, 2) := by decide +kernel
theorem dX4_learnWhere_128 : decode cX4_learnWhere 128 = .ok (.invokestatic 124, 3) := by decide +kernel
theorem dX4_learnWhere_131 : decode cX4_learnWhere 131 = .ok (.iaload, 1) := by decide +kernel
theorem dX4_learnWhere_132 : decode cX4_learnWhere 132 = .ok (.ldc 127, 2) := by decide +kernel
theorem dX4_learnWhere_134 : decode cX4_learnWhere 134 = .ok (.if_icmp .lt 10, 3) := by decide +kernel
theorem dX4_learnWhere_137 : decode cX4_learnWhere 137 = .ok (.aload_n 0, 1) := by decide +kernel
theorem dX4_learnWhere_138 : decode cX4_learnWhere 138 = .ok (.iload_n 1, 1) := by decide +kernel
theorem dX4_learnWhere_139 : decode cX4_learnWhere 139 = .ok (.iload 5, 2) := by decide +kernel
theorem dX4_learnWhere_141 : decode cX4_learnWhere 141 = .ok (.invokevirtual 128, 3) := by decide +kernel
theorem dX4_learnWhere_144 : decode cX4_learnWhere 144 = .ok (.iinc 4 1, 3) := by decide +kernel
theorem dX4_learnWhere_147 : decode cX4_learnWhere 147 = .ok (.goto (-50), 3) := by decide +kernel
theorem dX4_learnWhere_150 : decode cX4_learnWhere 150 = .ok (.iinc 3 1, 3) := by decide +kernel
theorem dX4_learnWhere_153 : decode cX4_learnWhere 153 = .ok (.goto (-64), 3) := by decide +kernel
theorem dX4_learnWhere_156 : decode cX4_learnWhere 156 = .ok (.iinc 1 1, 3) := by decide +kernel
theorem dX4_learnWhere_159 : decode cX4_learnWhere 159 = .ok (.goto (-89), 3) := by decide +kernel
theorem dX4_learnWhere_162 : decode cX4_learnWhere 162 = .ok (.return_, 1) := by decide +kernel
theorem dX4_goOnFrom_0 : decode cX4_goOnFrom 0 = .ok (.aload_n 0, 1) := by decide +kernel
theorem dX4_goOnFrom_1 : decode cX4_goOnFrom 1 = .ok (.getfield 14, 3) := by decide +kernel
theorem dX4_goOnFrom_4 : decode cX4_goOnFrom 4 = .ok (.getfield 51, 3) := by decide +kernel
theorem dX4_goOnFrom_7 : decode cX4_goOnFrom 7 = .ok (.iload_n 1, 1) := by decide +kernel
theorem dX4_goOnFrom_8 : decode cX4_goOnFrom 8 = .ok (.dup2, 1) := by decide +kernel
theorem dX4_goOnFrom_9 : decode cX4_goOnFrom 9 = .ok (.iaload, 1) := by decide +kernel
theorem dX4_goOnFrom_10 : decode cX4_goOnFrom 10 = .ok (.iconst 1, 1) := by decide +kernel
theorem dX4_goOnFrom_11 : decode cX4_goOnFrom 11 = .ok (.iload_n 2, 1) := by decide +kernel
theorem dX4_goOnFrom_12 : decode cX4_goOnFrom 12 = .ok (.invokestatic 132, 3) := by decide +kernel
theorem dX4_goOnFrom_15 : decode cX4_goOnFrom 15 = .ok (.ishl, 1) := by decide +kernel
theorem dX4_goOnFrom_16 : decode cX4_goOnFrom 16 = .ok (.ior, 1) := by decide +kernel
theorem dX4_goOnFrom_17 : decode cX4_goOnFrom 17 = .ok (.iastore, 1) := by decide +kernel
theorem dX4_goOnFrom_18 : decode cX4_goOnFrom 18 = .ok (.iload_n 1, 1) := by decide +kernel
theorem dX4_goOnFrom_19 : decode cX4_goOnFrom 19 = .ok (.aload_n 0, 1) := by decide +kernel
theorem dX4_goOnFrom_20 : decode cX4_goOnFrom 20 = .ok (.getfield 37, 3) := by decide +kernel
theorem dX4_goOnFrom_23 : decode cX4_goOnFrom 23 = .ok (.getfield 114, 3) := by decide +kernel
theorem dX4_goOnFrom_26 : decode cX4_goOnFrom 26 = .ok (.if_icmp .lt 4, 3) := by decide +kernel
theorem dX4_goOnFrom_29 : decode cX4_goOnFrom 29 = .ok (.return_, 1) := by decide +kernel
theorem dX4_goOnFrom_30 : decode cX4_goOnFrom 30 = .ok (.aload_n 0, 1) := by decide +kernel
theorem dX4_goOnFrom_31 : decode cX4_goOnFrom 31 = .ok (.iload_n 1, 1) := by decide +kernel
theorem dX4_goOnFrom_32 : decode cX4_goOnFrom 32 = .ok (.iconst 1, 1) := by decide +kernel
theorem dX4_goOnFrom_33 : decode cX4_goOnFrom 33 = .ok (.iadd, 1) := by decide +kernel
theorem dX4_goOnFrom_34 : decode cX4_goOnFrom 34 = .ok (.aload_n 0, 1) := by decide +kernel
theorem dX4_goOnFrom_35 : decode cX4_goOnFrom 35 = .ok (.iload_n 1, 1) := by decide +kernel
theorem dX4_goOnFrom_36 : decode cX4_goOnFrom 36 = .ok (.iload_n 2, 1) := by decide +kernel
theorem dX4_goOnFrom_37 : decode cX4_goOnFrom 37 = .ok (.invokevirtual 135, 3) := by decide +kernel
theorem dX4_goOnFrom_40 : decode cX4_goOnFrom 40 = .ok (.invokevirtual 110, 3) := by decide +kernel
theorem dX4_goOnFrom_43 : decode cX4_goOnFrom 43 = .ok (.pop, 1) := by decide +kernel
theorem dX4_goOnFrom_44 : decode cX4_goOnFrom 44 = .ok (.iconst 0, 1) := by decide +kernel
theorem dX4_goOnFrom_45 : decode cX4_goOnFrom 45 = .ok (.istore_n 3, 1) := by decide +kernel
theorem dX4_goOnFrom_46 : decode cX4_goOnFrom 46 = .ok (.iload_n 3, 1) := by decide +kernel
theorem dX4_goOnFrom_47 : decode cX4_goOnFrom 47 = .ok (.aload_n 0, 1) := by decide +kernel
theorem dX4_goOnFrom_48 : decode cX4_goOnFrom 48 = .ok (.getfield 33, 3) := by decide +kernel
theorem dX4_goOnFrom_51 : decode cX4_goOnFrom 51 = .ok (.getfield 138, 3) := by decide +kernel
theorem dX4_goOnFrom_54 : decode cX4_goOnFrom 54 = .ok (.if_icmp .ge 92, 3) := by decide +kernel
theorem dX4_goOnFrom_57 : decode cX4_goOnFrom 57 = .ok (.aload_n 0, 1) := by decide +kernel
theorem dX4_goOnFrom_58 : decode cX4_goOnFrom 58 = .ok (.iload_n 3, 1) := by decide +kernel
theorem dX4_goOnFrom_59 : decode cX4_goOnFrom 59 = .ok (.iload_n 1, 1) := by decide +kernel
theorem dX4_goOnFrom_60 : decode cX4_goOnFrom 60 = .ok (.iload_n 2, 1) := by decide +kernel
theorem dX4_goOnFrom_61 : decode cX4_goOnFrom 61 = .ok (.invokevirtual 143, 3) := by decide +kernel
theorem dX4_goOnFrom_64 : decode cX4_goOnFrom 64 = .ok (.ifCond .eq 76, 3) := by decide +kernel
theorem dX4_goOnFrom_67 : decode cX4_goOnFrom 67 = .ok (.aload_n 0, 1) := by decide +kernel
theorem dX4_goOnFrom_68 : decode cX4_goOnFrom 68 = .ok (.iload_n 3, 1) := by decide +kernel
theorem dX4_goOnFrom_69 : decode cX4_goOnFrom 69 = .ok (.iload_n 1, 1) := by decide +kernel
theorem dX4_goOnFrom_70 : decode cX4_goOnFrom 70 = .ok (.invokevirtual 147, 3) := by decide +kernel
theorem dX4_goOnFrom_73 : decode cX4_goOnFrom 73 = .ok (.ifCond .ne 67, 3) := by decide +kernel
theorem dX4_goOnFrom_76 : decode cX4_goOnFrom 76 = .ok (.iload_n 1, 1) := by decide +kernel
theorem dX4_goOnFrom_77 : decode cX4_goOnFrom 77 = .ok (.aload_n 0, 1) := by decide +kernel
theorem dX4_goOnFrom_78 : decode cX4_goOnFrom 78 = .ok (.getfield 33, 3) := by decide +kernel
theorem dX4_goOnFrom_81 : decode cX4_goOnFrom 81 = .ok (.getfield 150, 3) := by decide +kernel
theorem dX4_goOnFrom_84 : decode cX4_goOnFrom 84 = .ok (.iload_n 3, 1) := by decide +kernel
theorem dX4_goOnFrom_85 : decode cX4_goOnFrom 85 = .ok (.iaload, 1) := by decide +kernel
theorem dX4_goOnFrom_86 : decode cX4_goOnFrom 86 = .ok (.iadd, 1) := by decide +kernel
theorem dX4_goOnFrom_87 : decode cX4_goOnFrom 87 = .ok (.istore 4, 2) := by decide +kernel
theorem dX4_goOnFrom_89 : decode cX4_goOnFrom 89 = .ok (.aload_n 0, 1) := by decide +kernel
theorem dX4_goOnFrom_90 : decode cX4_goOnFrom 90 = .ok (.iload 4, 2) := by decide +kernel
theorem dX4_goOnFrom_92 : decode cX4_goOnFrom 92 = .ok (.aload_n 0, 1) := by decide +kernel
theorem dX4_goOnFrom_93 : decode cX4_goOnFrom 93 = .ok (.iload_n 3, 1) := by decide +kernel
theorem dX4_goOnFrom_94 : decode cX4_goOnFrom 94 = .ok (.iload_n 1, 1) := by decide +kernel
theorem dX4_goOnFrom_95 : decode cX4_goOnFrom 95 = .ok (.iload_n 2, 1) := by decide +kernel
theorem dX4_goOnFrom_96 : decode cX4_goOnFrom 96 = .ok (.iconst 0, 1) := by decide +kernel
theorem dX4_goOnFrom_97 : decode cX4_goOnFrom 97 = .ok (.invokevirtual 153, 3) := by decide +kernel
theorem dX4_goOnFrom_100 : decode cX4_goOnFrom 100 = .ok (.invokevirtual 110, 3) := by decide +kernel
theorem dX4_goOnFrom_103 : decode cX4_goOnFrom 103 = .ok (.ifCond .eq 37, 3) := by decide +kernel
theorem dX4_goOnFrom_106 : decode cX4_goOnFrom 106 = .ok (.iload_n 1, 1) := by decide +kernel
theorem dX4_goOnFrom_107 : decode cX4_goOnFrom 107 = .ok (.iconst 1, 1) := by decide +kernel
theorem dX4_goOnFrom_108 : decode cX4_goOnFrom 108 = .ok (.iadd, 1) := by decide +kernel
theorem dX4_goOnFrom_109 : decode cX4_goOnFrom 109 = .ok (.istore 5, 2) := by decide +kernel
theorem dX4_goOnFrom_111 : decode cX4_goOnFrom 111 = .ok (.iload 5, 2) := by decide +kernel
theorem dX4_goOnFrom_113 : decode cX4_goOnFrom 113 = .ok (.iload 4, 2) := by decide +kernel
theorem dX4_goOnFrom_115 : decode cX4_goOnFrom 115 = .ok (.if_icmp .ge 25, 3) := by decide +kernel
theorem dX4_goOnFrom_118 : decode cX4_goOnFrom 118 = .ok (.aload_n 0, 1) := by decide +kernel
theorem dX4_goOnFrom_119 : decode cX4_goOnFrom 119 = .ok (.getfield 14, 3) := by decide +kernel
theorem dX4_goOnFrom_122 : decode cX4_goOnFrom 122 = .ok (.getfield 51, 3) := by decide +kernel
theorem dX4_goOnFrom_125 : decode cX4_goOnFrom 125 = .ok (.iload 5, 2) := by decide +kernel
theorem dX4_goOnFrom_127 : decode cX4_goOnFrom 127 = .ok (.dup2, 1) := by decide +kernel
theorem dX4_goOnFrom_128 : decode cX4_goOnFrom 128 = .ok (.iaload, 1) := by decide +kernel
theorem dX4_goOnFrom_129 : decode cX4_goOnFrom 129 = .ok (.sipush 256, 3) := by decide +kernel
theorem dX4_goOnFrom_132 : decode cX4_goOnFrom 132 = .ok (.ior, 1) := by decide +kernel
theorem dX4_goOnFrom_133 : decode cX4_goOnFrom 133 = .ok (.iastore, 1) := by decide +kernel
theorem dX4_goOnFrom_134 : decode cX4_goOnFrom 134 = .ok (.iinc 5 1, 3) := by decide +kernel
theorem dX4_goOnFrom_137 : decode cX4_goOnFrom 137 = .ok (.goto (-26), 3) := by decide +kernel
theorem dX4_goOnFrom_140 : decode cX4_goOnFrom 140 = .ok (.iinc 3 1, 3) := by decide +kernel
theorem dX4_goOnFrom_143 : decode cX4_goOnFrom 143 = .ok (.goto (-97), 3) := by decide +kernel
theorem dX4_goOnFrom_146 : decode cX4_goOnFrom 146 = .ok (.return_, 1) := by decide +kernel
theorem dX4_reach_0 : decode cX4_reach 0 = .ok (.iload_n 2, 1) := by decide +kernel
theorem dX4_reach_1 : decode cX4_reach 1 = .ok (.ifCond .lt 16, 3) := by decide +kernel
theorem dX4_reach_4 : decode cX4_reach 4 = .ok (.aload_n 0, 1) := by decide +kernel
theorem dX4_reach_5 : decode cX4_reach 5 = .ok (.getfield 41, 3) := by decide +kernel
theorem dX4_reach_8 : decode cX4_reach 8 = .ok (.iload_n 1, 1) := by decide +kernel
theorem dX4_reach_9 : decode cX4_reach 9 = .ok (.iload_n 2, 1) := by decide +kernel
theorem dX4_reach_10 : decode cX4_reach 10 = .ok (.invokestatic 124, 3) := by decide +kernel
theorem dX4_reach_13 : decode cX4_reach 13 = .ok (.iaload, 1) := by decide +kernel
theorem dX4_reach_14 : decode cX4_reach 14 = .ok (.ifCond .ge 5, 3) := by decide +kernel
theorem dX4_reach_17 : decode cX4_reach 17 = .ok (.iconst 0, 1) := by decide +kernel
theorem dX4_reach_18 : decode cX4_reach 18 = .ok (.ireturn, 1) := by decide +kernel
theorem dX4_reach_19 : decode cX4_reach 19 = .ok (.aload_n 0, 1) := by decide +kernel
theorem dX4_reach_20 : decode cX4_reach 20 = .ok (.getfield 41, 3) := by decide +kernel
theorem dX4_reach_23 : decode cX4_reach 23 = .ok (.iload_n 1, 1) := by decide +kernel
theorem dX4_reach_24 : decode cX4_reach 24 = .ok (.iload_n 2, 1) := by decide +kernel
theorem dX4_reach_25 : decode cX4_reach 25 = .ok (.invokestatic 124, 3) := by decide +kernel
theorem dX4_reach_28 : decode cX4_reach 28 = .ok (.dup2, 1) := by decide +kernel
theorem dX4_reach_29 : decode cX4_reach 29 = .ok (.iaload, 1) := by decide +kernel
theorem dX4_reach_30 : decode cX4_reach 30 = .ok (.ldc 127, 2) := by decide +kernel
theorem dX4_reach_32 : decode cX4_reach 32 = .ok (.ior, 1) := by decide +kernel
theorem dX4_reach_33 : decode cX4_reach 33 = .ok (.iastore, 1) := by decide +kernel
theorem dX4_reach_34 : decode cX4_reach 34 = .ok (.iconst 1, 1) := by decide +kernel
theorem dX4_reach_35 : decode cX4_reach 35 = .ok (.ireturn, 1) := by decide +kernel
theorem dX4_followTale_0 : decode cX4_followTale 0 = .ok (.aload_n 0, 1) := by decide +kernel
theorem dX4_followTale_1 : decode cX4_followTale 1 = .ok (.invokevirtual 107, 3) := by decide +kernel
theorem dX4_followTale_4 : decode cX4_followTale 4 = .ok (.istore_n 1, 1) := by decide +kernel
theorem dX4_followTale_5 : decode cX4_followTale 5 = .ok (.iconst 0, 1) := by decide +kernel
theorem dX4_followTale_6 : decode cX4_followTale 6 = .ok (.istore_n 2, 1) := by decide +kernel
theorem dX4_followTale_7 : decode cX4_followTale 7 = .ok (.aload_n 0, 1) := by decide +kernel
theorem dX4_followTale_8 : decode cX4_followTale 8 = .ok (.getfield 14, 3) := by decide +kernel
theorem dX4_followTale_11 : decode cX4_followTale 11 = .ok (.aload_n 0, 1) := by decide +kernel
theorem dX4_followTale_12 : decode cX4_followTale 12 = .ok (.invokevirtual 68, 3) := by decide +kernel
theorem dX4_followTale_15 : decode cX4_followTale 15 = .ok (.ifCond .ge 7, 3) := by decide +kernel
theorem dX4_followTale_18 : decode cX4_followTale 18 = .ok (.iconst (-1), 1) := by decide +kernel
theorem dX4_followTale_19 : decode cX4_followTale 19 = .ok (.goto 4, 3) := by decide +kernel
theorem dX4_followTale_22 : decode cX4_followTale 22 = .ok (.iconst 0, 1) := by decide +kernel
theorem dX4_followTale_23 : decode cX4_followTale 23 = .ok (.putfield 75, 3) := by decide +kernel
theorem dX4_followTale_26 : decode cX4_followTale 26 = .ok (.iconst 0, 1) := by decide +kernel
theorem dX4_followTale_27 : decode cX4_followTale 27 = .ok (.istore_n 3, 1) := by decide +kernel
theorem dX4_followTale_28 : decode cX4_followTale 28 = .ok (.iload_n 3, 1) := by decide +kernel
theorem dX4_followTale_29 : decode cX4_followTale 29 = .ok (.bipush 96, 2) := by decide +kernel
theorem dX4_followTale_31 : decode cX4_followTale 31 = .ok (.if_icmp .ge 118, 3) := by decide +kernel
theorem dX4_followTale_34 : decode cX4_followTale 34 = .ok (.iload_n 2, 1) := by decide +kernel
theorem dX4_followTale_35 : decode cX4_followTale 35 = .ok (.aload_n 0, 1) := by decide +kernel
theorem dX4_followTale_36 : decode cX4_followTale 36 = .ok (.getfield 37, 3) := by decide +kernel
theorem dX4_followTale_39 : decode cX4_followTale 39 = .ok (.getfield 114, 3) := by decide +kernel
theorem dX4_followTale_42 : decode cX4_followTale 42 = .ok (.if_icmp .ge 107, 3) := by decide +kernel
theorem dX4_followTale_45 : decode cX4_followTale 45 = .ok (.aload_n 0, 1) := by decide +kernel
theorem dX4_followTale_46 : decode cX4_followTale 46 = .ok (.getfield 14, 3) := by decide +kernel
theorem dX4_followTale_49 : decode cX4_followTale 49 = .ok (.getfield 75, 3) := by decide +kernel
theorem dX4_followTale_52 : decode cX4_followTale 52 = .ok (.ifCond .lt 97, 3) := by decide +kernel
theorem dX4_followTale_55 : decode cX4_followTale 55 = .ok (.iload_n 1, 1) := by decide +kernel
theorem dX4_followTale_56 : decode cX4_followTale 56 = .ok (.ifCond .lt 93, 3) := by decide +kernel
theorem dX4_followTale_59 : decode cX4_followTale 59 = .ok (.aload_n 0, 1) := by decide +kernel
theorem dX4_followTale_60 : decode cX4_followTale 60 = .ok (.iload_n 2, 1) := by decide +kernel
theorem dX4_followTale_61 : decode cX4_followTale 61 = .ok (.iload_n 1, 1) := by decide +kernel
theorem dX4_followTale_62 : decode cX4_followTale 62 = .ok (.invokevirtual 157, 3) := by decide +kernel
theorem dX4_followTale_65 : decode cX4_followTale 65 = .ok (.istore 4, 2) := by decide +kernel
theorem dX4_followTale_67 : decode cX4_followTale 67 = .ok (.iload 4, 2) := by decide +kernel
theorem dX4_followTale_69 : decode cX4_followTale 69 = .ok (.ifCond .ge 16, 3) := by decide +kernel
theorem dX4_followTale_72 : decode cX4_followTale 72 = .ok (.aload_n 0, 1) := by decide +kernel
theorem dX4_followTale_73 : decode cX4_followTale 73 = .ok (.iload_n 2, 1) := by decide +kernel
theorem dX4_followTale_74 : decode cX4_followTale 74 = .ok (.iload_n 1, 1) := by decide +kernel
theorem dX4_followTale_75 : decode cX4_followTale 75 = .ok (.invokevirtual 135, 3) := by decide +kernel
theorem dX4_followTale_78 : decode cX4_followTale 78 = .ok (.istore_n 1, 1) := by decide +kernel
theorem dX4_followTale_79 : decode cX4_followTale 79 = .ok (.iinc 2 1, 3) := by decide +kernel
theorem dX4_followTale_82 : decode cX4_followTale 82 = .ok (.goto 61, 3) := by decide +kernel
theorem dX4_followTale_85 : decode cX4_followTale 85 = .ok (.aload_n 0, 1) := by decide +kernel
theorem dX4_followTale_86 : decode cX4_followTale 86 = .ok (.getfield 14, 3) := by decide +kernel
theorem dX4_followTale_89 : decode cX4_followTale 89 = .ok (.getfield 78, 3) := by decide +kernel
theorem dX4_followTale_92 : decode cX4_followTale 92 = .ok (.aload_n 0, 1) := by decide +kernel
theorem dX4_followTale_93 : decode cX4_followTale 93 = .ok (.getfield 14, 3) := by decide +kernel
theorem dX4_followTale_96 : decode cX4_followTale 96 = .ok (.getfield 75, 3) := by decide +kernel
theorem dX4_followTale_99 : decode cX4_followTale 99 = .ok (.iload 4, 2) := by decide +kernel
theorem dX4_followTale_101 : decode cX4_followTale 101 = .ok (.bipush 100, 2) := by decide +kernel
theorem dX4_followTale_103 : decode cX4_followTale 103 = .ok (.imul, 1) := by decide +kernel
theorem dX4_followTale_104 : decode cX4_followTale 104 = .ok (.iload_n 2, 1) := by decide +kernel
theorem dX4_followTale_105 : decode cX4_followTale 105 = .ok (.iadd, 1) := by decide +kernel
theorem dX4_followTale_106 : decode cX4_followTale 106 = .ok (.iastore, 1) := by decide +kernel
theorem dX4_followTale_107 : decode cX4_followTale 107 = .ok (.aload_n 0, 1) := by decide +kernel
theorem dX4_followTale_108 : decode cX4_followTale 108 = .ok (.getfield 14, 3) := by decide +kernel
theorem dX4_followTale_111 : decode cX4_followTale 111 = .ok (.dup, 1) := by decide +kernel
theorem dX4_followTale_112 : decode cX4_followTale 112 = .ok (.getfield 75, 3) := by decide +kernel
theorem dX4_followTale_115 : decode cX4_followTale 115 = .ok (.iconst 1, 1) := by decide +kernel
theorem dX4_followTale_116 : decode cX4_followTale 116 = .ok (.iadd, 1) := by decide +kernel
theorem dX4_followTale_117 : decode cX4_followTale 117 = .ok (.putfield 75, 3) := by decide +kernel
theorem dX4_followTale_120 : decode cX4_followTale 120 = .ok (.aload_n 0, 1) := by decide +kernel
theorem dX4_followTale_121 : decode cX4_followTale 121 = .ok (.iload 4, 2) := by decide +kernel
theorem dX4_followTale_123 : decode cX4_followTale 123 = .ok (.iload_n 2, 1) := by decide +kernel
theorem dX4_followTale_124 : decode cX4_followTale 124 = .ok (.iload_n 1, 1) := by decide +kernel
theorem dX4_followTale_125 : decode cX4_followTale 125 = .ok (.iconst 0, 1) := by decide +kernel
theorem dX4_followTale_126 : decode cX4_followTale 126 = .ok (.invokevirtual 153, 3) := by decide +kernel
theorem dX4_followTale_129 : decode cX4_followTale 129 = .ok (.istore_n 1, 1) := by decide +kernel
theorem dX4_followTale_130 : decode cX4_followTale 130 = .ok (.iload_n 2, 1) := by decide +kernel
theorem dX4_followTale_131 : decode cX4_followTale 131 = .ok (.aload_n 0, 1) := by decide +kernel
theorem dX4_followTale_132 : decode cX4_followTale 132 = .ok (.getfield 33, 3) := by decide +kernel
theorem dX4_followTale_135 : decode cX4_followTale 135 = .ok (.getfield 150, 3) := by decide +kernel
theorem dX4_followTale_138 : decode cX4_followTale 138 = .ok (.iload 4, 2) := by decide +kernel
theorem dX4_followTale_140 : decode cX4_followTale 140 = .ok (.iaload, 1) := by decide +kernel
theorem dX4_followTale_141 : decode cX4_followTale 141 = .ok (.iadd, 1) := by decide +kernel
theorem dX4_followTale_142 : decode cX4_followTale 142 = .ok (.istore_n 2, 1) := by decide +kernel
theorem dX4_followTale_143 : decode cX4_followTale 143 = .ok (.iinc 3 1, 3) := by decide +kernel
theorem dX4_followTale_146 : decode cX4_followTale 146 = .ok (.goto (-118), 3) := by decide +kernel
theorem dX4_followTale_149 : decode cX4_followTale 149 = .ok (.return_, 1) := by decide +kernel
theorem dX4_firstMove_0 : decode cX4_firstMove 0 = .ok (.aload_n 0, 1) := by decide +kernel
theorem dX4_firstMove_1 : decode cX4_firstMove 1 = .ok (.getfield 41, 3) := by decide +kernel
theorem dX4_firstMove_4 : decode cX4_firstMove 4 = .ok (.iload_n 1, 1) := by decide +kernel
theorem dX4_firstMove_5 : decode cX4_firstMove 5 = .ok (.iload_n 2, 1) := by decide +kernel
theorem dX4_firstMove_6 : decode cX4_firstMove 6 = .ok (.invokestatic 124, 3) := by decide +kernel
theorem dX4_firstMove_9 : decode cX4_firstMove 9 = .ok (.iaload, 1) := by decide +kernel
theorem dX4_firstMove_10 : decode cX4_firstMove 10 = .ok (.istore_n 3, 1) := by decide +kernel
theorem dX4_firstMove_11 : decode cX4_firstMove 11 = .ok (.aload_n 0, 1) := by decide +kernel
theorem dX4_firstMove_12 : decode cX4_firstMove 12 = .ok (.iload_n 1, 1) := by decide +kernel
theorem dX4_firstMove_13 : decode cX4_firstMove 13 = .ok (.iload_n 2, 1) := by decide +kernel
theorem dX4_firstMove_14 : decode cX4_firstMove 14 = .ok (.invokevirtual 135, 3) := by decide +kernel
theorem dX4_firstMove_17 : decode cX4_firstMove 17 = .ok (.istore 4, 2) := by decide +kernel
theorem dX4_firstMove_19 : decode cX4_firstMove 19 = .ok (.iload 4, 2) := by decide +kernel
theorem dX4_firstMove_21 : decode cX4_firstMove 21 = .ok (.ifCond .lt 22, 3) := by decide +kernel
theorem dX4_firstMove_24 : decode cX4_firstMove 24 = .ok (.aload_n 0, 1) := by decide +kernel
theorem dX4_firstMove_25 : decode cX4_firstMove 25 = .ok (.getfield 41, 3) := by decide +kernel
theorem dX4_firstMove_28 : decode cX4_firstMove 28 = .ok (.iload_n 1, 1) := by decide +kernel
theorem dX4_firstMove_29 : decode cX4_firstMove 29 = .ok (.iconst 1, 1) := by decide +kernel
theorem dX4_firstMove_30 : decode cX4_firstMove 30 = .ok (.iadd, 1) := by decide +kernel
theorem dX4_firstMove_31 : decode cX4_firstMove 31 = .ok (.iload 4, 2) := by decide +kernel
theorem dX4_firstMove_33 : decode cX4_firstMove 33 = .ok (.invokestatic 124, 3) := by decide +kernel
theorem dX4_firstMove_36 : decode cX4_firstMove 36 = .ok (.iaload, 1) := by decide +kernel
theorem dX4_firstMove_37 : decode cX4_firstMove 37 = .ok (.iload_n 3, 1) := by decide +kernel
theorem dX4_firstMove_38 : decode cX4_firstMove 38 = .ok (.if_icmp .ne 5, 3) := by decide +kernel
theorem dX4_firstMove_41 : decode cX4_firstMove 41 = .ok (.iconst (-1), 1) := by decide +kernel
theorem dX4_firstMove_42 : decode cX4_firstMove 42 = .ok (.ireturn, 1) := by decide +kernel
theorem dX4_firstMove_43 : decode cX4_firstMove 43 = .ok (.iconst 0, 1) := by decide +kernel
theorem dX4_firstMove_44 : decode cX4_firstMove 44 = .ok (.istore 5, 2) := by decide +kernel
theorem dX4_firstMove_46 : decode cX4_firstMove 46 = .ok (.iload 5, 2) := by decide +kernel
theorem dX4_firstMove_48 : decode cX4_firstMove 48 = .ok (.aload_n 0, 1) := by decide +kernel
theorem dX4_firstMove_49 : decode cX4_firstMove 49 = .ok (.getfield 33, 3) := by decide +kernel
theorem dX4_firstMove_52 : decode cX4_firstMove 52 = .ok (.getfield 138, 3) := by decide +kernel
theorem dX4_firstMove_55 : decode cX4_firstMove 55 = .ok (.if_icmp .ge 35, 3) := by decide +kernel
theorem dX4_firstMove_58 : decode cX4_firstMove 58 = .ok (.aload_n 0, 1) := by decide +kernel
theorem dX4_firstMove_59 : decode cX4_firstMove 59 = .ok (.iload 5, 2) := by decide +kernel
theorem dX4_firstMove_61 : decode cX4_firstMove 61 = .ok (.iload_n 1, 1) := by decide +kernel
theorem dX4_firstMove_62 : decode cX4_firstMove 62 = .ok (.iload_n 2, 1) := by decide +kernel
theorem dX4_firstMove_63 : decode cX4_firstMove 63 = .ok (.invokevirtual 143, 3) := by decide +kernel
theorem dX4_firstMove_66 : decode cX4_firstMove 66 = .ok (.ifCond .eq 18, 3) := by decide +kernel
theorem dX4_firstMove_69 : decode cX4_firstMove 69 = .ok (.aload_n 0, 1) := by decide +kernel
theorem dX4_firstMove_70 : decode cX4_firstMove 70 = .ok (.iload 5, 2) := by decide +kernel
theorem dX4_firstMove_72 : decode cX4_firstMove 72 = .ok (.iload_n 1, 1) := by decide +kernel
theorem dX4_firstMove_73 : decode cX4_firstMove 73 = .ok (.iload_n 2, 1) := by decide +kernel
theorem dX4_firstMove_74 : decode cX4_firstMove 74 = .ok (.invokevirtual 160, 3) := by decide +kernel
theorem dX4_firstMove_77 : decode cX4_firstMove 77 = .ok (.iload_n 3, 1) := by decide +kernel
theorem dX4_firstMove_78 : decode cX4_firstMove 78 = .ok (.if_icmp .ne 6, 3) := by decide +kernel
theorem dX4_firstMove_81 : decode cX4_firstMove 81 = .ok (.iload 5, 2) := by decide +kernel
theorem dX4_firstMove_83 : decode cX4_firstMove 83 = .ok (.ireturn, 1) := by decide +kernel
theorem dX4_firstMove_84 : decode cX4_firstMove 84 = .ok (.iinc 5 1, 3) := by decide +kernel
theorem dX4_firstMove_87 : decode cX4_firstMove 87 = .ok (.goto (-41), 3) := by decide +kernel
theorem dX4_firstMove_90 : decode cX4_firstMove 90 = .ok (.iconst (-1), 1) := by decide +kernel
theorem dX4_firstMove_91 : decode cX4_firstMove 91 = .ok (.ireturn, 1) := by decide +kernel
theorem dX4_prepare_0 : decode cX4_prepare 0 = .ok (.aload_n 0, 1) := by decide +kernel
theorem dX4_prepare_1 : decode cX4_prepare 1 = .ok (.iconst 0, 1) := by decide +kernel
theorem dX4_prepare_2 : decode cX4_prepare 2 = .ok (.putfield 164, 3) := by decide +kernel
theorem dX4_prepare_5 : decode cX4_prepare 5 = .ok (.aload_n 0, 1) := by decide +kernel
theorem dX4_prepare_6 : decode cX4_prepare 6 = .ok (.iconst 0, 1) := by decide +kernel
theorem dX4_prepare_7 : decode cX4_prepare 7 = .ok (.putfield 167, 3) := by decide +kernel
theorem dX4_prepare_10 : decode cX4_prepare 10 = .ok (.aload_n 0, 1) := by decide +kernel
theorem dX4_prepare_11 : decode cX4_prepare 11 = .ok (.iconst 0, 1) := by decide +kernel
theorem dX4_prepare_12 : decode cX4_prepare 12 = .ok (.putfield 170, 3) := by decide +kernel
theorem dX4_prepare_15 : decode cX4_prepare 15 = .ok (.iconst 0, 1) := by decide +kernel
theorem dX4_prepare_16 : decode cX4_prepare 16 = .ok (.istore_n 2, 1) := by decide +kernel
theorem dX4_prepare_17 : decode cX4_prepare 17 = .ok (.iload_n 2, 1) := by decide +kernel
theorem dX4_prepare_18 : decode cX4_prepare 18 = .ok (.aload_n 0, 1) := by decide +kernel
theorem dX4_prepare_19 : decode cX4_prepare 19 = .ok (.getfield 37, 3) := by decide +kernel
theorem dX4_prepare_22 : decode cX4_prepare 22 = .ok (.getfield 87, 3) := by decide +kernel
theorem dX4_prepare_25 : decode cX4_prepare 25 = .ok (.if_icmp .ge 159, 3) := by decide +kernel
theorem dX4_prepare_28 : decode cX4_prepare 28 = .ok (.iload_n 1, 1) := by decide +kernel
theorem dX4_prepare_29 : decode cX4_prepare 29 = .ok (.iload_n 2, 1) := by decide +kernel
theorem dX4_prepare_30 : decode cX4_prepare 30 = .ok (.ishr, 1) := by decide +kernel
theorem dX4_prepare_31 : decode cX4_prepare 31 = .ok (.iconst 1, 1) := by decide +kernel
theorem dX4_prepare_32 : decode cX4_prepare 32 = .ok (.iand, 1) := by decide +kernel
theorem dX4_prepare_33 : decode cX4_prepare 33 = .ok (.ifCond .eq 7, 3) := by decide +kernel
theorem dX4_prepare_36 : decode cX4_prepare 36 = .ok (.iconst 1, 1) := by decide +kernel
theorem dX4_prepare_37 : decode cX4_prepare 37 = .ok (.goto 4, 3) := by decide +kernel
theorem dX4_prepare_40 : decode cX4_prepare 40 = .ok (.iconst 0, 1) := by decide +kernel
theorem dX4_prepare_41 : decode cX4_prepare 41 = .ok (.istore_n 3, 1) := by decide +kernel
theorem dX4_prepare_42 : decode cX4_prepare 42 = .ok (.iload_n 3, 1) := by decide +kernel
theorem dX4_prepare_43 : decode cX4_prepare 43 = .ok (.ifCond .ne 44, 3) := by decide +kernel
theorem dX4_prepare_46 : decode cX4_prepare 46 = .ok (.aload_n 0, 1) := by decide +kernel
theorem dX4_prepare_47 : decode cX4_prepare 47 = .ok (.getfield 37, 3) := by decide +kernel
theorem dX4_prepare_50 : decode cX4_prepare 50 = .ok (.iload_n 2, 1) := by decide +kernel
theorem dX4_prepare_51 : decode cX4_prepare 51 = .ok (.iconst 0, 1) := by decide +kernel
theorem dX4_prepare_52 : decode cX4_prepare 52 = .ok (.invokevirtual 173, 3) := by decide +kernel
theorem dX4_prepare_55 : decode cX4_prepare 55 = .ok (.ifCond .eq 32, 3) := by decide +kernel
theorem dX4_prepare_58 : decode cX4_prepare 58 = .ok (.aload_n 0, 1) := by decide +kernel
theorem dX4_prepare_59 : decode cX4_prepare 59 = .ok (.getfield 164, 3) := by decide +kernel
theorem dX4_prepare_62 : decode cX4_prepare 62 = .ok (.bipush 6, 2) := by decide +kernel
theorem dX4_prepare_64 : decode cX4_prepare 64 = .ok (.if_icmp .ge 23, 3) := by decide +kernel
theorem dX4_prepare_67 : decode cX4_prepare 67 = .ok (.aload_n 0, 1) := by decide +kernel
theorem dX4_prepare_68 : decode cX4_prepare 68 = .ok (.getfield 27, 3) := by decide +kernel
theorem dX4_prepare_71 : decode cX4_prepare 71 = .ok (.aload_n 0, 1) := by decide +kernel
theorem dX4_prepare_72 : decode cX4_prepare 72 = .ok (.getfield 164, 3) := by decide +kernel
theorem dX4_prepare_75 : decode cX4_prepare 75 = .ok (.iload_n 2, 1) := by decide +kernel
theorem dX4_prepare_76 : decode cX4_prepare 76 = .ok (.iastore, 1) := by decide +kernel
theorem dX4_prepare_77 : decode cX4_prepare 77 = .ok (.aload_n 0, 1) := by decide +kernel
theorem dX4_prepare_78 : decode cX4_prepare 78 = .ok (.dup, 1) := by decide +kernel
theorem dX4_prepare_79 : decode cX4_prepare 79 = .ok (.getfield 164, 3) := by decide +kernel
theorem dX4_prepare_82 : decode cX4_prepare 82 = .ok (.iconst 1, 1) := by decide +kernel
theorem dX4_prepare_83 : decode cX4_prepare 83 = .ok (.iadd, 1) := by decide +kernel
theorem dX4_prepare_84 : decode cX4_prepare 84 = .ok (.putfield 164, 3) := by decide +kernel
theorem dX4_prepare_87 : decode cX4_prepare 87 = .ok (.iload_n 3, 1) := by decide +kernel
theorem dX4_prepare_88 : decode cX4_prepare 88 = .ok (.ifCond .ne 43, 3) := by decide +kernel
theorem dX4_prepare_91 : decode cX4_prepare 91 = .ok (.aload_n 0, 1) := by decide +kernel
theorem dX4_prepare_92 : decode cX4_prepare 92 = .ok (.getfield 37, 3) := by decide +kernel
theorem dX4_prepare_95 : decode cX4_prepare 95 = .ok (.iload_n 2, 1) := by decide +kernel
theorem dX4_prepare_96 : decode cX4_prepare 96 = .ok (.iconst 2, 1) := by decide +kernel
theorem dX4_prepare_97 : decode cX4_prepare 97 = .ok (.invokevirtual 173, 3) := by decide +kernel
theorem dX4_prepare_100 : decode cX4_prepare 100 = .ok (.ifCond .eq 31, 3) := by decide +kernel
theorem dX4_prepare_103 : decode cX4_prepare 103 = .ok (.aload_n 0, 1) := by decide +kernel
theorem dX4_prepare_104 : decode cX4_prepare 104 = .ok (.getfield 167, 3) := by decide +kernel
theorem dX4_prepare_107 : decode cX4_prepare 107 = .ok (.iconst 2, 1) := by decide +kernel
theorem dX4_prepare_108 : decode cX4_prepare 108 = .ok (.if_icmp .ge 23, 3) := by decide +kernel
theorem dX4_prepare_111 : decode cX4_prepare 111 = .ok (.aload_n 0, 1) := by decide +kernel
theorem dX4_prepare_112 : decode cX4_prepare 112 = .ok (.getfield 30, 3) := by decide +kernel
theorem dX4_prepare_115 : decode cX4_prepare 115 = .ok (.aload_n 0, 1) := by decide +kernel
theorem dX4_prepare_116 : decode cX4_prepare 116 = .ok (.getfield 167, 3) := by decide +kernel
theorem dX4_prepare_119 : decode cX4_prepare 119 = .ok (.iload_n 2, 1) := by decide +kernel
theorem dX4_prepare_120 : decode cX4_prepare 120 = .ok (.iastore, 1) := by decide +kernel
theorem dX4_prepare_121 : decode cX4_prepare 121 = .ok (.aload_n 0, 1) := by decide +kernel
theorem dX4_prepare_122 : decode cX4_prepare 122 = .ok (.dup, 1) := by decide +kernel
theorem dX4_prepare_123 : decode cX4_prepare 123 = .ok (.getfield 167, 3) := by decide +kernel
theorem dX4_prepare_126 : decode cX4_prepare 126 = .ok (.iconst 1, 1) := by decide +kernel
theorem dX4_prepare_127 : decode cX4_prepare 127 = .ok (.iadd, 1) := by decide +kernel
theorem dX4_prepare_128 : decode cX4_prepare 128 = .ok (.putfield 167, 3) := by decide +kernel
theorem dX4_prepare_131 : decode cX4_prepare 131 = .ok (.iload_n 3, 1) := by decide +kernel
theorem dX4_prepare_132 : decode cX4_prepare 132 = .ok (.ifCond .ne 46, 3) := by decide +kernel
theorem dX4_prepare_135 : decode cX4_prepare 135 = .ok (.aload_n 0, 1) := by decide +kernel
theorem dX4_prepare_136 : decode cX4_prepare 136 = .ok (.getfield 37, 3) := by decide +kernel
theorem dX4_prepare_139 : decode cX4_prepare 139 = .ok (.iload_n 2, 1) := by decide +kernel
theorem dX4_prepare_140 : decode cX4_prepare 140 = .ok (.iconst 1, 1) := by decide +kernel
theorem dX4_prepare_141 : decode cX4_prepare 141 = .ok (.invokevirtual 173, 3) := by decide +kernel
theorem dX4_prepare_144 : decode cX4_prepare 144 = .ok (.ifCond .eq 34, 3) := by decide +kernel
theorem dX4_prepare_147 : decode cX4_prepare 147 = .ok (.aload_n 0, 1) := by decide +kernel
end
section
theorem dX4_prepare_148 : decode cX4_prepare 148 = .ok (.getfield 37, 3) := by decide +kernel
theorem dX4_prepare_151 : decode cX4_prepare 151 = .ok (.getfield 176, 3) := by decide +kernel
theorem dX4_prepare_154 : decode cX4_prepare 154 = .ok (.iload_n 2, 1) := by decide +kernel
theorem dX4_prepare_155 : decode cX4_prepare 155 = .ok (.iaload, 1) := by decide +kernel
theorem dX4_prepare_156 : decode cX4_prepare 156 = .ok (.aload_n 0, 1) := by decide +kernel
theorem dX4_prepare_157 : decode cX4_prepare 157 = .ok (.getfield 37, 3) := by decide +kernel
theorem dX4_prepare_160 : decode cX4_prepare 160 = .ok (.getfield 114, 3) := by decide +kernel
theorem dX4_prepare_163 : decode cX4_prepare 163 = .ok (.if_icmp .gt 15, 3) := by decide +kernel
theorem dX4_prepare_166 : decode cX4_prepare 166 = .ok (.aload_n 0, 1) := by decide +kernel
theorem dX4_prepare_167 : decode cX4_prepare 167 = .ok (.dup, 1) := by decide +kernel
theorem dX4_prepare_168 : decode cX4_prepare 168 = .ok (.getfield 170, 3) := by decide +kernel
theorem dX4_prepare_171 : decode cX4_prepare 171 = .ok (.iconst 1, 1) := by decide +kernel
theorem dX4_prepare_172 : decode cX4_prepare 172 = .ok (.iload_n 2, 1) := by decide +kernel
theorem dX4_prepare_173 : decode cX4_prepare 173 = .ok (.ishl, 1) := by decide +kernel
theorem dX4_prepare_174 : decode cX4_prepare 174 = .ok (.ior, 1) := by decide +kernel
theorem dX4_prepare_175 : decode cX4_prepare 175 = .ok (.putfield 170, 3) := by decide +kernel
theorem dX4_prepare_178 : decode cX4_prepare 178 = .ok (.iinc 2 1, 3) := by decide +kernel
theorem dX4_prepare_181 : decode cX4_prepare 181 = .ok (.goto (-164), 3) := by decide +kernel
theorem dX4_prepare_184 : decode cX4_prepare 184 = .ok (.iconst 0, 1) := by decide +kernel
theorem dX4_prepare_185 : decode cX4_prepare 185 = .ok (.istore_n 2, 1) := by decide +kernel
theorem dX4_prepare_186 : decode cX4_prepare 186 = .ok (.iload_n 2, 1) := by decide +kernel
theorem dX4_prepare_187 : decode cX4_prepare 187 = .ok (.bipush 96, 2) := by decide +kernel
theorem dX4_prepare_189 : decode cX4_prepare 189 = .ok (.if_icmp .gt 20, 3) := by decide +kernel
theorem dX4_prepare_192 : decode cX4_prepare 192 = .ok (.aload_n 0, 1) := by decide +kernel
theorem dX4_prepare_193 : decode cX4_prepare 193 = .ok (.getfield 22, 3) := by decide +kernel
theorem dX4_prepare_196 : decode cX4_prepare 196 = .ok (.iload_n 2, 1) := by decide +kernel
theorem dX4_prepare_197 : decode cX4_prepare 197 = .ok (.aload_n 0, 1) := by decide +kernel
theorem dX4_prepare_198 : decode cX4_prepare 198 = .ok (.iload_n 2, 1) := by decide +kernel
theorem dX4_prepare_199 : decode cX4_prepare 199 = .ok (.invokevirtual 179, 3) := by decide +kernel
theorem dX4_prepare_202 : decode cX4_prepare 202 = .ok (.iastore, 1) := by decide +kernel
theorem dX4_prepare_203 : decode cX4_prepare 203 = .ok (.iinc 2 1, 3) := by decide +kernel
theorem dX4_prepare_206 : decode cX4_prepare 206 = .ok (.goto (-20), 3) := by decide +kernel
theorem dX4_prepare_209 : decode cX4_prepare 209 = .ok (.aload_n 0, 1) := by decide +kernel
theorem dX4_prepare_210 : decode cX4_prepare 210 = .ok (.invokevirtual 182, 3) := by decide +kernel
theorem dX4_prepare_213 : decode cX4_prepare 213 = .ok (.return_, 1) := by decide +kernel
theorem dX4_linksLeaving_0 : decode cX4_linksLeaving 0 = .ok (.iconst 0, 1) := by decide +kernel
theorem dX4_linksLeaving_1 : decode cX4_linksLeaving 1 = .ok (.istore_n 2, 1) := by decide +kernel
theorem dX4_linksLeaving_2 : decode cX4_linksLeaving 2 = .ok (.iconst 0, 1) := by decide +kernel
theorem dX4_linksLeaving_3 : decode cX4_linksLeaving 3 = .ok (.istore_n 3, 1) := by decide +kernel
theorem dX4_linksLeaving_4 : decode cX4_linksLeaving 4 = .ok (.iload_n 3, 1) := by decide +kernel
theorem dX4_linksLeaving_5 : decode cX4_linksLeaving 5 = .ok (.aload_n 0, 1) := by decide +kernel
theorem dX4_linksLeaving_6 : decode cX4_linksLeaving 6 = .ok (.getfield 33, 3) := by decide +kernel
theorem dX4_linksLeaving_9 : decode cX4_linksLeaving 9 = .ok (.getfield 138, 3) := by decide +kernel
theorem dX4_linksLeaving_12 : decode cX4_linksLeaving 12 = .ok (.if_icmp .ge 48, 3) := by decide +kernel
theorem dX4_linksLeaving_15 : decode cX4_linksLeaving 15 = .ok (.aload_n 0, 1) := by decide +kernel
theorem dX4_linksLeaving_16 : decode cX4_linksLeaving 16 = .ok (.getfield 33, 3) := by decide +kernel
theorem dX4_linksLeaving_19 : decode cX4_linksLeaving 19 = .ok (.iload_n 3, 1) := by decide +kernel
theorem dX4_linksLeaving_20 : decode cX4_linksLeaving 20 = .ok (.iload_n 1, 1) := by decide +kernel
theorem dX4_linksLeaving_21 : decode cX4_linksLeaving 21 = .ok (.invokevirtual 185, 3) := by decide +kernel
theorem dX4_linksLeaving_24 : decode cX4_linksLeaving 24 = .ok (.ifCond .eq 30, 3) := by decide +kernel
theorem dX4_linksLeaving_27 : decode cX4_linksLeaving 27 = .ok (.iload_n 1, 1) := by decide +kernel
theorem dX4_linksLeaving_28 : decode cX4_linksLeaving 28 = .ok (.aload_n 0, 1) := by decide +kernel
theorem dX4_linksLeaving_29 : decode cX4_linksLeaving 29 = .ok (.getfield 33, 3) := by decide +kernel
theorem dX4_linksLeaving_32 : decode cX4_linksLeaving 32 = .ok (.getfield 150, 3) := by decide +kernel
theorem dX4_linksLeaving_35 : decode cX4_linksLeaving 35 = .ok (.iload_n 3, 1) := by decide +kernel
theorem dX4_linksLeaving_36 : decode cX4_linksLeaving 36 = .ok (.iaload, 1) := by decide +kernel
theorem dX4_linksLeaving_37 : decode cX4_linksLeaving 37 = .ok (.iadd, 1) := by decide +kernel
theorem dX4_linksLeaving_38 : decode cX4_linksLeaving 38 = .ok (.aload_n 0, 1) := by decide +kernel
theorem dX4_linksLeaving_39 : decode cX4_linksLeaving 39 = .ok (.getfield 37, 3) := by decide +kernel
theorem dX4_linksLeaving_42 : decode cX4_linksLeaving 42 = .ok (.getfield 114, 3) := by decide +kernel
theorem dX4_linksLeaving_45 : decode cX4_linksLeaving 45 = .ok (.if_icmp .gt 9, 3) := by decide +kernel
theorem dX4_linksLeaving_48 : decode cX4_linksLeaving 48 = .ok (.iload_n 2, 1) := by decide +kernel
theorem dX4_linksLeaving_49 : decode cX4_linksLeaving 49 = .ok (.iconst 1, 1) := by decide +kernel
theorem dX4_linksLeaving_50 : decode cX4_linksLeaving 50 = .ok (.iload_n 3, 1) := by decide +kernel
theorem dX4_linksLeaving_51 : decode cX4_linksLeaving 51 = .ok (.ishl, 1) := by decide +kernel
theorem dX4_linksLeaving_52 : decode cX4_linksLeaving 52 = .ok (.ior, 1) := by decide +kernel
theorem dX4_linksLeaving_53 : decode cX4_linksLeaving 53 = .ok (.istore_n 2, 1) := by decide +kernel
theorem dX4_linksLeaving_54 : decode cX4_linksLeaving 54 = .ok (.iinc 3 1, 3) := by decide +kernel
theorem dX4_linksLeaving_57 : decode cX4_linksLeaving 57 = .ok (.goto (-53), 3) := by decide +kernel
theorem dX4_linksLeaving_60 : decode cX4_linksLeaving 60 = .ok (.iload_n 2, 1) := by decide +kernel
theorem dX4_linksLeaving_61 : decode cX4_linksLeaving 61 = .ok (.ireturn, 1) := by decide +kernel
theorem dX4_listCells_0 : decode cX4_listCells 0 = .ok (.aload_n 0, 1) := by decide +kernel
theorem dX4_listCells_1 : decode cX4_listCells 1 = .ok (.iconst 0, 1) := by decide +kernel
theorem dX4_listCells_2 : decode cX4_listCells 2 = .ok (.putfield 121, 3) := by decide +kernel
theorem dX4_listCells_5 : decode cX4_listCells 5 = .ok (.iconst 0, 1) := by decide +kernel
theorem dX4_listCells_6 : decode cX4_listCells 6 = .ok (.istore_n 1, 1) := by decide +kernel
theorem dX4_listCells_7 : decode cX4_listCells 7 = .ok (.iload_n 1, 1) := by decide +kernel
theorem dX4_listCells_8 : decode cX4_listCells 8 = .ok (.aload_n 0, 1) := by decide +kernel
theorem dX4_listCells_9 : decode cX4_listCells 9 = .ok (.getfield 33, 3) := by decide +kernel
theorem dX4_listCells_12 : decode cX4_listCells 12 = .ok (.getfield 188, 3) := by decide +kernel
theorem dX4_listCells_15 : decode cX4_listCells 15 = .ok (.if_icmp .ge 78, 3) := by decide +kernel
theorem dX4_listCells_18 : decode cX4_listCells 18 = .ok (.aload_n 0, 1) := by decide +kernel
theorem dX4_listCells_19 : decode cX4_listCells 19 = .ok (.getfield 164, 3) := by decide +kernel
theorem dX4_listCells_22 : decode cX4_listCells 22 = .ok (.istore_n 2, 1) := by decide +kernel
theorem dX4_listCells_23 : decode cX4_listCells 23 = .ok (.iload_n 2, 1) := by decide +kernel
theorem dX4_listCells_24 : decode cX4_listCells 24 = .ok (.ifCond .lt 63, 3) := by decide +kernel
theorem dX4_listCells_27 : decode cX4_listCells 27 = .ok (.iconst 0, 1) := by decide +kernel
theorem dX4_listCells_28 : decode cX4_listCells 28 = .ok (.istore_n 3, 1) := by decide +kernel
theorem dX4_listCells_29 : decode cX4_listCells 29 = .ok (.iload_n 3, 1) := by decide +kernel
theorem dX4_listCells_30 : decode cX4_listCells 30 = .ok (.iconst 1, 1) := by decide +kernel
theorem dX4_listCells_31 : decode cX4_listCells 31 = .ok (.aload_n 0, 1) := by decide +kernel
theorem dX4_listCells_32 : decode cX4_listCells 32 = .ok (.getfield 167, 3) := by decide +kernel
theorem dX4_listCells_35 : decode cX4_listCells 35 = .ok (.ishl, 1) := by decide +kernel
theorem dX4_listCells_36 : decode cX4_listCells 36 = .ok (.if_icmp .ge 45, 3) := by decide +kernel
theorem dX4_listCells_39 : decode cX4_listCells 39 = .ok (.aload_n 0, 1) := by decide +kernel
theorem dX4_listCells_40 : decode cX4_listCells 40 = .ok (.getfield 121, 3) := by decide +kernel
theorem dX4_listCells_43 : decode cX4_listCells 43 = .ok (.sipush 256, 3) := by decide +kernel
theorem dX4_listCells_46 : decode cX4_listCells 46 = .ok (.if_icmp .ge 35, 3) := by decide +kernel
theorem dX4_listCells_49 : decode cX4_listCells 49 = .ok (.aload_n 0, 1) := by decide +kernel
theorem dX4_listCells_50 : decode cX4_listCells 50 = .ok (.getfield 18, 3) := by decide +kernel
theorem dX4_listCells_53 : decode cX4_listCells 53 = .ok (.aload_n 0, 1) := by decide +kernel
theorem dX4_listCells_54 : decode cX4_listCells 54 = .ok (.getfield 121, 3) := by decide +kernel
theorem dX4_listCells_57 : decode cX4_listCells 57 = .ok (.iconst 0, 1) := by decide +kernel
theorem dX4_listCells_58 : decode cX4_listCells 58 = .ok (.iload_n 1, 1) := by decide +kernel
theorem dX4_listCells_59 : decode cX4_listCells 59 = .ok (.iload_n 2, 1) := by decide +kernel
theorem dX4_listCells_60 : decode cX4_listCells 60 = .ok (.iload_n 3, 1) := by decide +kernel
theorem dX4_listCells_61 : decode cX4_listCells 61 = .ok (.invokestatic 191, 3) := by decide +kernel
theorem dX4_listCells_64 : decode cX4_listCells 64 = .ok (.iastore, 1) := by decide +kernel
theorem dX4_listCells_65 : decode cX4_listCells 65 = .ok (.aload_n 0, 1) := by decide +kernel
theorem dX4_listCells_66 : decode cX4_listCells 66 = .ok (.dup, 1) := by decide +kernel
theorem dX4_listCells_67 : decode cX4_listCells 67 = .ok (.getfield 121, 3) := by decide +kernel
theorem dX4_listCells_70 : decode cX4_listCells 70 = .ok (.iconst 1, 1) := by decide +kernel
theorem dX4_listCells_71 : decode cX4_listCells 71 = .ok (.iadd, 1) := by decide +kernel
theorem dX4_listCells_72 : decode cX4_listCells 72 = .ok (.putfield 121, 3) := by decide +kernel
theorem dX4_listCells_75 : decode cX4_listCells 75 = .ok (.iinc 3 1, 3) := by decide +kernel
theorem dX4_listCells_78 : decode cX4_listCells 78 = .ok (.goto (-49), 3) := by decide +kernel
theorem dX4_listCells_81 : decode cX4_listCells 81 = .ok (.iinc 2 (-1), 3) := by decide +kernel
theorem dX4_listCells_84 : decode cX4_listCells 84 = .ok (.goto (-61), 3) := by decide +kernel
theorem dX4_listCells_87 : decode cX4_listCells 87 = .ok (.iinc 1 1, 3) := by decide +kernel
theorem dX4_listCells_90 : decode cX4_listCells 90 = .ok (.goto (-83), 3) := by decide +kernel
theorem dX4_listCells_93 : decode cX4_listCells 93 = .ok (.return_, 1) := by decide +kernel
theorem dX4_fill_0 : decode cX4_fill 0 = .ok (.aload_n 0, 1) := by decide +kernel
theorem dX4_fill_1 : decode cX4_fill 1 = .ok (.iload_n 1, 1) := by decide +kernel
theorem dX4_fill_2 : decode cX4_fill 2 = .ok (.putfield 194, 3) := by decide +kernel
theorem dX4_fill_5 : decode cX4_fill 5 = .ok (.aload_n 0, 1) := by decide +kernel
theorem dX4_fill_6 : decode cX4_fill 6 = .ok (.getfield 37, 3) := by decide +kernel
theorem dX4_fill_9 : decode cX4_fill 9 = .ok (.getfield 114, 3) := by decide +kernel
theorem dX4_fill_12 : decode cX4_fill 12 = .ok (.istore_n 2, 1) := by decide +kernel
theorem dX4_fill_13 : decode cX4_fill 13 = .ok (.iload_n 2, 1) := by decide +kernel
theorem dX4_fill_14 : decode cX4_fill 14 = .ok (.ifCond .lt 82, 3) := by decide +kernel
theorem dX4_fill_17 : decode cX4_fill 17 = .ok (.aload_n 0, 1) := by decide +kernel
theorem dX4_fill_18 : decode cX4_fill 18 = .ok (.iload_n 2, 1) := by decide +kernel
theorem dX4_fill_19 : decode cX4_fill 19 = .ok (.invokevirtual 117, 3) := by decide +kernel
theorem dX4_fill_22 : decode cX4_fill 22 = .ok (.istore_n 3, 1) := by decide +kernel
theorem dX4_fill_23 : decode cX4_fill 23 = .ok (.iconst 0, 1) := by decide +kernel
theorem dX4_fill_24 : decode cX4_fill 24 = .ok (.istore 4, 2) := by decide +kernel
theorem dX4_fill_26 : decode cX4_fill 26 = .ok (.iload 4, 2) := by decide +kernel
theorem dX4_fill_28 : decode cX4_fill 28 = .ok (.iload_n 3, 1) := by decide +kernel
theorem dX4_fill_29 : decode cX4_fill 29 = .ok (.if_icmp .gt 61, 3) := by decide +kernel
theorem dX4_fill_32 : decode cX4_fill 32 = .ok (.iconst 0, 1) := by decide +kernel
theorem dX4_fill_33 : decode cX4_fill 33 = .ok (.istore 5, 2) := by decide +kernel
theorem dX4_fill_35 : decode cX4_fill 35 = .ok (.iload 5, 2) := by decide +kernel
theorem dX4_fill_37 : decode cX4_fill 37 = .ok (.aload_n 0, 1) := by decide +kernel
theorem dX4_fill_38 : decode cX4_fill 38 = .ok (.getfield 121, 3) := by decide +kernel
theorem dX4_fill_41 : decode cX4_fill 41 = .ok (.if_icmp .ge 43, 3) := by decide +kernel
theorem dX4_fill_44 : decode cX4_fill 44 = .ok (.iload 4, 2) := by decide +kernel
theorem dX4_fill_46 : decode cX4_fill 46 = .ok (.sipush 256, 3) := by decide +kernel
theorem dX4_fill_49 : decode cX4_fill 49 = .ok (.imul, 1) := by decide +kernel
theorem dX4_fill_50 : decode cX4_fill 50 = .ok (.aload_n 0, 1) := by decide +kernel
theorem dX4_fill_51 : decode cX4_fill 51 = .ok (.getfield 18, 3) := by decide +kernel
theorem dX4_fill_54 : decode cX4_fill 54 = .ok (.iload 5, 2) := by decide +kernel
theorem dX4_fill_56 : decode cX4_fill 56 = .ok (.iaload, 1) := by decide +kernel
theorem dX4_fill_57 : decode cX4_fill 57 = .ok (.iadd, 1) := by decide +kernel
theorem dX4_fill_58 : decode cX4_fill 58 = .ok (.istore 6, 2) := by decide +kernel
theorem dX4_fill_60 : decode cX4_fill 60 = .ok (.aload_n 0, 1) := by decide +kernel
theorem dX4_fill_61 : decode cX4_fill 61 = .ok (.getfield 41, 3) := by decide +kernel
theorem dX4_fill_64 : decode cX4_fill 64 = .ok (.iload_n 2, 1) := by decide +kernel
theorem dX4_fill_65 : decode cX4_fill 65 = .ok (.iload 6, 2) := by decide +kernel
theorem dX4_fill_67 : decode cX4_fill 67 = .ok (.invokestatic 124, 3) := by decide +kernel
theorem dX4_fill_70 : decode cX4_fill 70 = .ok (.aload_n 0, 1) := by decide +kernel
theorem dX4_fill_71 : decode cX4_fill 71 = .ok (.iload_n 2, 1) := by decide +kernel
theorem dX4_fill_72 : decode cX4_fill 72 = .ok (.iload 6, 2) := by decide +kernel
theorem dX4_fill_74 : decode cX4_fill 74 = .ok (.invokevirtual 197, 3) := by decide +kernel
theorem dX4_fill_77 : decode cX4_fill 77 = .ok (.iastore, 1) := by decide +kernel
theorem dX4_fill_78 : decode cX4_fill 78 = .ok (.iinc 5 1, 3) := by decide +kernel
theorem dX4_fill_81 : decode cX4_fill 81 = .ok (.goto (-46), 3) := by decide +kernel
theorem dX4_fill_84 : decode cX4_fill 84 = .ok (.iinc 4 1, 3) := by decide +kernel
theorem dX4_fill_87 : decode cX4_fill 87 = .ok (.goto (-61), 3) := by decide +kernel
theorem dX4_fill_90 : decode cX4_fill 90 = .ok (.iinc 2 (-1), 3) := by decide +kernel
theorem dX4_fill_93 : decode cX4_fill 93 = .ok (.goto (-80), 3) := by decide +kernel
theorem dX4_fill_96 : decode cX4_fill 96 = .ok (.return_, 1) := by decide +kernel
theorem dX4_valueOf_0 : decode cX4_valueOf 0 = .ok (.iload_n 1, 1) := by decide +kernel
theorem dX4_valueOf_1 : decode cX4_valueOf 1 = .ok (.aload_n 0, 1) := by decide +kernel
theorem dX4_valueOf_2 : decode cX4_valueOf 2 = .ok (.getfield 37, 3) := by decide +kernel
theorem dX4_valueOf_5 : decode cX4_valueOf 5 = .ok (.getfield 114, 3) := by decide +kernel
theorem dX4_valueOf_8 : decode cX4_valueOf 8 = .ok (.if_icmp .ne 11, 3) := by decide +kernel
theorem dX4_valueOf_11 : decode cX4_valueOf 11 = .ok (.aload_n 0, 1) := by decide +kernel
theorem dX4_valueOf_12 : decode cX4_valueOf 12 = .ok (.iload_n 2, 1) := by decide +kernel
theorem dX4_valueOf_13 : decode cX4_valueOf 13 = .ok (.invokevirtual 200, 3) := by decide +kernel
theorem dX4_valueOf_16 : decode cX4_valueOf 16 = .ok (.goto 9, 3) := by decide +kernel
theorem dX4_valueOf_19 : decode cX4_valueOf 19 = .ok (.aload_n 0, 1) := by decide +kernel
theorem dX4_valueOf_20 : decode cX4_valueOf 20 = .ok (.iload_n 1, 1) := by decide +kernel
theorem dX4_valueOf_21 : decode cX4_valueOf 21 = .ok (.iload_n 2, 1) := by decide +kernel
theorem dX4_valueOf_22 : decode cX4_valueOf 22 = .ok (.invokevirtual 203, 3) := by decide +kernel
theorem dX4_valueOf_25 : decode cX4_valueOf 25 = .ok (.istore_n 3, 1) := by decide +kernel
theorem dX4_valueOf_26 : decode cX4_valueOf 26 = .ok (.iconst 0, 1) := by decide +kernel
theorem dX4_valueOf_27 : decode cX4_valueOf 27 = .ok (.istore 4, 2) := by decide +kernel
theorem dX4_valueOf_29 : decode cX4_valueOf 29 = .ok (.iload 4, 2) := by decide +kernel
theorem dX4_valueOf_31 : decode cX4_valueOf 31 = .ok (.aload_n 0, 1) := by decide +kernel
theorem dX4_valueOf_32 : decode cX4_valueOf 32 = .ok (.getfield 33, 3) := by decide +kernel
theorem dX4_valueOf_35 : decode cX4_valueOf 35 = .ok (.getfield 138, 3) := by decide +kernel
theorem dX4_valueOf_38 : decode cX4_valueOf 38 = .ok (.if_icmp .ge 46, 3) := by decide +kernel
theorem dX4_valueOf_41 : decode cX4_valueOf 41 = .ok (.aload_n 0, 1) := by decide +kernel
theorem dX4_valueOf_42 : decode cX4_valueOf 42 = .ok (.getfield 22, 3) := by decide +kernel
theorem dX4_valueOf_45 : decode cX4_valueOf 45 = .ok (.iload_n 1, 1) := by decide +kernel
theorem dX4_valueOf_46 : decode cX4_valueOf 46 = .ok (.iaload, 1) := by decide +kernel
theorem dX4_valueOf_47 : decode cX4_valueOf 47 = .ok (.iload 4, 2) := by decide +kernel
theorem dX4_valueOf_49 : decode cX4_valueOf 49 = .ok (.ishr, 1) := by decide +kernel
theorem dX4_valueOf_50 : decode cX4_valueOf 50 = .ok (.ifCond .eq 34, 3) := by decide +kernel
theorem dX4_valueOf_53 : decode cX4_valueOf 53 = .ok (.aload_n 0, 1) := by decide +kernel
theorem dX4_valueOf_54 : decode cX4_valueOf 54 = .ok (.iload 4, 2) := by decide +kernel
theorem dX4_valueOf_56 : decode cX4_valueOf 56 = .ok (.iload_n 1, 1) := by decide +kernel
theorem dX4_valueOf_57 : decode cX4_valueOf 57 = .ok (.iload_n 2, 1) := by decide +kernel
theorem dX4_valueOf_58 : decode cX4_valueOf 58 = .ok (.invokevirtual 143, 3) := by decide +kernel
theorem dX4_valueOf_61 : decode cX4_valueOf 61 = .ok (.ifCond .eq 17, 3) := by decide +kernel
theorem dX4_valueOf_64 : decode cX4_valueOf 64 = .ok (.aload_n 0, 1) := by decide +kernel
theorem dX4_valueOf_65 : decode cX4_valueOf 65 = .ok (.iload_n 3, 1) := by decide +kernel
theorem dX4_valueOf_66 : decode cX4_valueOf 66 = .ok (.aload_n 0, 1) := by decide +kernel
theorem dX4_valueOf_67 : decode cX4_valueOf 67 = .ok (.iload 4, 2) := by decide +kernel
theorem dX4_valueOf_69 : decode cX4_valueOf 69 = .ok (.iload_n 1, 1) := by decide +kernel
theorem dX4_valueOf_70 : decode cX4_valueOf 70 = .ok (.iload_n 2, 1) := by decide +kernel
theorem dX4_valueOf_71 : decode cX4_valueOf 71 = .ok (.invokevirtual 160, 3) := by decide +kernel
theorem dX4_valueOf_74 : decode cX4_valueOf 74 = .ok (.invokevirtual 206, 3) := by decide +kernel
theorem dX4_valueOf_77 : decode cX4_valueOf 77 = .ok (.istore_n 3, 1) := by decide +kernel
theorem dX4_valueOf_78 : decode cX4_valueOf 78 = .ok (.iinc 4 1, 3) := by decide +kernel
theorem dX4_valueOf_81 : decode cX4_valueOf 81 = .ok (.goto (-52), 3) := by decide +kernel
theorem dX4_valueOf_84 : decode cX4_valueOf 84 = .ok (.aload_n 0, 1) := by decide +kernel
theorem dX4_valueOf_85 : decode cX4_valueOf 85 = .ok (.iload_n 3, 1) := by decide +kernel
theorem dX4_valueOf_86 : decode cX4_valueOf 86 = .ok (.aload_n 0, 1) := by decide +kernel
theorem dX4_valueOf_87 : decode cX4_valueOf 87 = .ok (.iload_n 1, 1) := by decide +kernel
theorem dX4_valueOf_88 : decode cX4_valueOf 88 = .ok (.iload_n 2, 1) := by decide +kernel
theorem dX4_valueOf_89 : decode cX4_valueOf 89 = .ok (.invokestatic 132, 3) := by decide +kernel
theorem dX4_valueOf_92 : decode cX4_valueOf 92 = .ok (.invokevirtual 209, 3) := by decide +kernel
theorem dX4_valueOf_95 : decode cX4_valueOf 95 = .ok (.invokevirtual 212, 3) := by decide +kernel
theorem dX4_valueOf_98 : decode cX4_valueOf 98 = .ok (.istore_n 3, 1) := by decide +kernel
theorem dX4_valueOf_99 : decode cX4_valueOf 99 = .ok (.iload_n 2, 1) := by decide +kernel
theorem dX4_valueOf_100 : decode cX4_valueOf 100 = .ok (.invokestatic 215, 3) := by decide +kernel
theorem dX4_valueOf_103 : decode cX4_valueOf 103 = .ok (.istore 4, 2) := by decide +kernel
theorem dX4_valueOf_105 : decode cX4_valueOf 105 = .ok (.aload_n 0, 1) := by decide +kernel
theorem dX4_valueOf_106 : decode cX4_valueOf 106 = .ok (.getfield 194, 3) := by decide +kernel
theorem dX4_valueOf_109 : decode cX4_valueOf 109 = .ok (.iconst 5, 1) := by decide +kernel
theorem dX4_valueOf_110 : decode cX4_valueOf 110 = .ok (.if_icmp .ne 47, 3) := by decide +kernel
theorem dX4_valueOf_113 : decode cX4_valueOf 113 = .ok (.iload 4, 2) := by decide +kernel
theorem dX4_valueOf_115 : decode cX4_valueOf 115 = .ok (.aload_n 0, 1) := by decide +kernel
theorem dX4_valueOf_116 : decode cX4_valueOf 116 = .ok (.getfield 164, 3) := by decide +kernel
theorem dX4_valueOf_119 : decode cX4_valueOf 119 = .ok (.if_icmp .ge 38, 3) := by decide +kernel
theorem dX4_valueOf_122 : decode cX4_valueOf 122 = .ok (.aload_n 0, 1) := by decide +kernel
theorem dX4_valueOf_123 : decode cX4_valueOf 123 = .ok (.getfield 41, 3) := by decide +kernel
theorem dX4_valueOf_126 : decode cX4_valueOf 126 = .ok (.iload_n 1, 1) := by decide +kernel
theorem dX4_valueOf_127 : decode cX4_valueOf 127 = .ok (.iload_n 2, 1) := by decide +kernel
theorem dX4_valueOf_128 : decode cX4_valueOf 128 = .ok (.iconst 4, 1) := by decide +kernel
theorem dX4_valueOf_129 : decode cX4_valueOf 129 = .ok (.iadd, 1) := by decide +kernel
theorem dX4_valueOf_130 : decode cX4_valueOf 130 = .ok (.invokestatic 124, 3) := by decide +kernel
theorem dX4_valueOf_133 : decode cX4_valueOf 133 = .ok (.iaload, 1) := by decide +kernel
theorem dX4_valueOf_134 : decode cX4_valueOf 134 = .ok (.istore 5, 2) := by decide +kernel
theorem dX4_valueOf_136 : decode cX4_valueOf 136 = .ok (.aload_n 0, 1) := by decide +kernel
theorem dX4_valueOf_137 : decode cX4_valueOf 137 = .ok (.iload_n 3, 1) := by decide +kernel
theorem dX4_valueOf_138 : decode cX4_valueOf 138 = .ok (.aload_n 0, 1) := by decide +kernel
theorem dX4_valueOf_139 : decode cX4_valueOf 139 = .ok (.iload 5, 2) := by decide +kernel
theorem dX4_valueOf_141 : decode cX4_valueOf 141 = .ok (.iconst 1, 1) := by decide +kernel
theorem dX4_valueOf_142 : decode cX4_valueOf 142 = .ok (.aload_n 0, 1) := by decide +kernel
theorem dX4_valueOf_143 : decode cX4_valueOf 143 = .ok (.getfield 27, 3) := by decide +kernel
theorem dX4_valueOf_146 : decode cX4_valueOf 146 = .ok (.iload 4, 2) := by decide +kernel
theorem dX4_valueOf_148 : decode cX4_valueOf 148 = .ok (.iaload, 1) := by decide +kernel
theorem dX4_valueOf_149 : decode cX4_valueOf 149 = .ok (.ishl, 1) := by decide +kernel
theorem dX4_valueOf_150 : decode cX4_valueOf 150 = .ok (.invokevirtual 212, 3) := by decide +kernel
theorem dX4_valueOf_153 : decode cX4_valueOf 153 = .ok (.invokevirtual 206, 3) := by decide +kernel
theorem dX4_valueOf_156 : decode cX4_valueOf 156 = .ok (.istore_n 3, 1) := by decide +kernel
theorem dX4_valueOf_157 : decode cX4_valueOf 157 = .ok (.iload_n 3, 1) := by decide +kernel
theorem dX4_valueOf_158 : decode cX4_valueOf 158 = .ok (.ireturn, 1) := by decide +kernel
theorem dX4_valueAtEnd_0 : decode cX4_valueAtEnd 0 = .ok (.iload_n 1, 1) := by decide +kernel
theorem dX4_valueAtEnd_1 : decode cX4_valueAtEnd 1 = .ok (.invokestatic 215, 3) := by decide +kernel
theorem dX4_valueAtEnd_4 : decode cX4_valueAtEnd 4 = .ok (.aload_n 0, 1) := by decide +kernel
theorem dX4_valueAtEnd_5 : decode cX4_valueAtEnd 5 = .ok (.getfield 164, 3) := by decide +kernel
theorem dX4_valueAtEnd_8 : decode cX4_valueAtEnd 8 = .ok (.if_icmp .ge 5, 3) := by decide +kernel
theorem dX4_valueAtEnd_11 : decode cX4_valueAtEnd 11 = .ok (.iconst (-1), 1) := by decide +kernel
theorem dX4_valueAtEnd_12 : decode cX4_valueAtEnd 12 = .ok (.ireturn, 1) := by decide +kernel
theorem dX4_valueAtEnd_13 : decode cX4_valueAtEnd 13 = .ok (.iconst 0, 1) := by decide +kernel
theorem dX4_valueAtEnd_14 : decode cX4_valueAtEnd 14 = .ok (.istore_n 2, 1) := by decide +kernel
theorem dX4_valueAtEnd_15 : decode cX4_valueAtEnd 15 = .ok (.iconst 0, 1) := by decide +kernel
theorem dX4_valueAtEnd_16 : decode cX4_valueAtEnd 16 = .ok (.istore_n 3, 1) := by decide +kernel
theorem dX4_valueAtEnd_17 : decode cX4_valueAtEnd 17 = .ok (.iload_n 3, 1) := by decide +kernel
theorem dX4_valueAtEnd_18 : decode cX4_valueAtEnd 18 = .ok (.aload_n 0, 1) := by decide +kernel
theorem dX4_valueAtEnd_19 : decode cX4_valueAtEnd 19 = .ok (.getfield 167, 3) := by decide +kernel
theorem dX4_valueAtEnd_22 : decode cX4_valueAtEnd 22 = .ok (.if_icmp .ge 28, 3) := by decide +kernel
theorem dX4_valueAtEnd_25 : decode cX4_valueAtEnd 25 = .ok (.iload_n 1, 1) := by decide +kernel
theorem dX4_valueAtEnd_26 : decode cX4_valueAtEnd 26 = .ok (.iload_n 3, 1) := by decide +kernel
theorem dX4_valueAtEnd_27 : decode cX4_valueAtEnd 27 = .ok (.ishr, 1) := by decide +kernel
theorem dX4_valueAtEnd_28 : decode cX4_valueAtEnd 28 = .ok (.iconst 1, 1) := by decide +kernel
theorem dX4_valueAtEnd_29 : decode cX4_valueAtEnd 29 = .ok (.iand, 1) := by decide +kernel
theorem dX4_valueAtEnd_30 : decode cX4_valueAtEnd 30 = .ok (.ifCond .ne 14, 3) := by decide +kernel
theorem dX4_valueAtEnd_33 : decode cX4_valueAtEnd 33 = .ok (.iload_n 2, 1) := by decide +kernel
theorem dX4_valueAtEnd_34 : decode cX4_valueAtEnd 34 = .ok (.iconst 1, 1) := by decide +kernel
theorem dX4_valueAtEnd_35 : decode cX4_valueAtEnd 35 = .ok (.aload_n 0, 1) := by decide +kernel
theorem dX4_valueAtEnd_36 : decode cX4_valueAtEnd 36 = .ok (.getfield 30, 3) := by decide +kernel
theorem dX4_valueAtEnd_39 : decode cX4_valueAtEnd 39 = .ok (.iload_n 3, 1) := by decide +kernel
theorem dX4_valueAtEnd_40 : decode cX4_valueAtEnd 40 = .ok (.iaload, 1) := by decide +kernel
theorem dX4_valueAtEnd_41 : decode cX4_valueAtEnd 41 = .ok (.ishl, 1) := by decide +kernel
theorem dX4_valueAtEnd_42 : decode cX4_valueAtEnd 42 = .ok (.ior, 1) := by decide +kernel
theorem dX4_valueAtEnd_43 : decode cX4_valueAtEnd 43 = .ok (.istore_n 2, 1) := by decide +kernel
theorem dX4_valueAtEnd_44 : decode cX4_valueAtEnd 44 = .ok (.iinc 3 1, 3) := by decide +kernel
theorem dX4_valueAtEnd_47 : decode cX4_valueAtEnd 47 = .ok (.goto (-30), 3) := by decide +kernel
theorem dX4_valueAtEnd_50 : decode cX4_valueAtEnd 50 = .ok (.aload_n 0, 1) := by decide +kernel
theorem dX4_valueAtEnd_51 : decode cX4_valueAtEnd 51 = .ok (.aload_n 0, 1) := by decide +kernel
theorem dX4_valueAtEnd_52 : decode cX4_valueAtEnd 52 = .ok (.getfield 194, 3) := by decide +kernel
theorem dX4_valueAtEnd_55 : decode cX4_valueAtEnd 55 = .ok (.iconst 4, 1) := by decide +kernel
theorem dX4_valueAtEnd_56 : decode cX4_valueAtEnd 56 = .ok (.if_icmp .ne 7, 3) := by decide +kernel
theorem dX4_valueAtEnd_59 : decode cX4_valueAtEnd 59 = .ok (.iconst 1, 1) := by decide +kernel
theorem dX4_valueAtEnd_60 : decode cX4_valueAtEnd 60 = .ok (.goto 4, 3) := by decide +kernel
theorem dX4_valueAtEnd_63 : decode cX4_valueAtEnd 63 = .ok (.iconst 0, 1) := by decide +kernel
theorem dX4_valueAtEnd_64 : decode cX4_valueAtEnd 64 = .ok (.iload_n 2, 1) := by decide +kernel
theorem dX4_valueAtEnd_65 : decode cX4_valueAtEnd 65 = .ok (.invokevirtual 212, 3) := by decide +kernel
theorem dX4_valueAtEnd_68 : decode cX4_valueAtEnd 68 = .ok (.ireturn, 1) := by decide +kernel
theorem dX4_valueByStay_0 : decode cX4_valueByStay 0 = .ok (.aload_n 0, 1) := by decide +kernel
theorem dX4_valueByStay_1 : decode cX4_valueByStay 1 = .ok (.iload_n 1, 1) := by decide +kernel
theorem dX4_valueByStay_2 : decode cX4_valueByStay 2 = .ok (.iload_n 2, 1) := by decide +kernel
theorem dX4_valueByStay_3 : decode cX4_valueByStay 3 = .ok (.invokevirtual 135, 3) := by decide +kernel
theorem dX4_valueByStay_6 : decode cX4_valueByStay 6 = .ok (.istore_n 3, 1) := by decide +kernel
theorem dX4_valueByStay_7 : decode cX4_valueByStay 7 = .ok (.iload_n 3, 1) := by decide +kernel
theorem dX4_valueByStay_8 : decode cX4_valueByStay 8 = .ok (.ifCond .ge 7, 3) := by decide +kernel
theorem dX4_valueByStay_11 : decode cX4_valueByStay 11 = .ok (.iconst (-1), 1) := by decide +kernel
theorem dX4_valueByStay_12 : decode cX4_valueByStay 12 = .ok (.goto 15, 3) := by decide +kernel
theorem dX4_valueByStay_15 : decode cX4_valueByStay 15 = .ok (.aload_n 0, 1) := by decide +kernel
theorem dX4_valueByStay_16 : decode cX4_valueByStay 16 = .ok (.getfield 41, 3) := by decide +kernel
theorem dX4_valueByStay_19 : decode cX4_valueByStay 19 = .ok (.iload_n 1, 1) := by decide +kernel
theorem dX4_valueByStay_20 : decode cX4_valueByStay 20 = .ok (.iconst 1, 1) := by decide +kernel
theorem dX4_valueByStay_21 : decode cX4_valueByStay 21 = .ok (.iadd, 1) := by decide +kernel
theorem dX4_valueByStay_22 : decode cX4_valueByStay 22 = .ok (.iload_n 3, 1) := by decide +kernel
theorem dX4_valueByStay_23 : decode cX4_valueByStay 23 = .ok (.invokestatic 124, 3) := by decide +kernel
theorem dX4_valueByStay_26 : decode cX4_valueByStay 26 = .ok (.iaload, 1) := by decide +kernel
theorem dX4_valueByStay_27 : decode cX4_valueByStay 27 = .ok (.ireturn, 1) := by decide +kernel
theorem dX4_valueByLink_0 : decode cX4_valueByLink 0 = .ok (.aload_n 0, 1) := by decide +kernel
theorem dX4_valueByLink_1 : decode cX4_valueByLink 1 = .ok (.iload_n 1, 1) := by decide +kernel
theorem dX4_valueByLink_2 : decode cX4_valueByLink 2 = .ok (.iload_n 2, 1) := by decide +kernel
theorem dX4_valueByLink_3 : decode cX4_valueByLink 3 = .ok (.invokevirtual 147, 3) := by decide +kernel
theorem dX4_valueByLink_6 : decode cX4_valueByLink 6 = .ok (.istore 4, 2) := by decide +kernel
theorem dX4_valueByLink_8 : decode cX4_valueByLink 8 = .ok (.iload_n 3, 1) := by decide +kernel
theorem dX4_valueByLink_9 : decode cX4_valueByLink 9 = .ok (.invokestatic 215, 3) := by decide +kernel
theorem dX4_valueByLink_12 : decode cX4_valueByLink 12 = .ok (.aload_n 0, 1) := by decide +kernel
theorem dX4_valueByLink_13 : decode cX4_valueByLink 13 = .ok (.getfield 33, 3) := by decide +kernel
theorem dX4_valueByLink_16 : decode cX4_valueByLink 16 = .ok (.getfield 218, 3) := by decide +kernel
theorem dX4_valueByLink_19 : decode cX4_valueByLink 19 = .ok (.iload_n 1, 1) := by decide +kernel
theorem dX4_valueByLink_20 : decode cX4_valueByLink 20 = .ok (.iaload, 1) := by decide +kernel
theorem dX4_valueByLink_21 : decode cX4_valueByLink 21 = .ok (.iconst (-1), 1) := by decide +kernel
theorem dX4_valueByLink_22 : decode cX4_valueByLink 22 = .ok (.if_icmp .ne 7, 3) := by decide +kernel
theorem dX4_valueByLink_25 : decode cX4_valueByLink 25 = .ok (.iconst 0, 1) := by decide +kernel
theorem dX4_valueByLink_26 : decode cX4_valueByLink 26 = .ok (.goto 4, 3) := by decide +kernel
theorem dX4_valueByLink_29 : decode cX4_valueByLink 29 = .ok (.iconst 1, 1) := by decide +kernel
theorem dX4_valueByLink_30 : decode cX4_valueByLink 30 = .ok (.iadd, 1) := by decide +kernel
theorem dX4_valueByLink_31 : decode cX4_valueByLink 31 = .ok (.istore 5, 2) := by decide +kernel
theorem dX4_valueByLink_33 : decode cX4_valueByLink 33 = .ok (.aload_n 0, 1) := by decide +kernel
theorem dX4_valueByLink_34 : decode cX4_valueByLink 34 = .ok (.getfield 194, 3) := by decide +kernel
theorem dX4_valueByLink_37 : decode cX4_valueByLink 37 = .ok (.iconst 5, 1) := by decide +kernel
theorem dX4_valueByLink_38 : decode cX4_valueByLink 38 = .ok (.if_icmp .ne 23, 3) := by decide +kernel
theorem dX4_valueByLink_41 : decode cX4_valueByLink 41 = .ok (.aload_n 0, 1) := by decide +kernel
theorem dX4_valueByLink_42 : decode cX4_valueByLink 42 = .ok (.getfield 33, 3) := by decide +kernel
theorem dX4_valueByLink_45 : decode cX4_valueByLink 45 = .ok (.getfield 221, 3) := by decide +kernel
theorem dX4_valueByLink_48 : decode cX4_valueByLink 48 = .ok (.iload_n 1, 1) := by decide +kernel
theorem dX4_valueByLink_49 : decode cX4_valueByLink 49 = .ok (.iaload, 1) := by decide +kernel
theorem dX4_valueByLink_50 : decode cX4_valueByLink 50 = .ok (.iconst (-1), 1) := by decide +kernel
theorem dX4_valueByLink_51 : decode cX4_valueByLink 51 = .ok (.if_icmp .eq 10, 3) := by decide +kernel
theorem dX4_valueByLink_54 : decode cX4_valueByLink 54 = .ok (.aload_n 0, 1) := by decide +kernel
theorem dX4_valueByLink_55 : decode cX4_valueByLink 55 = .ok (.getfield 164, 3) := by decide +kernel
theorem dX4_valueByLink_58 : decode cX4_valueByLink 58 = .ok (.goto 5, 3) := by decide +kernel
theorem dX4_valueByLink_61 : decode cX4_valueByLink 61 = .ok (.iload 5, 2) := by decide +kernel
theorem dX4_valueByLink_63 : decode cX4_valueByLink 63 = .ok (.istore 6, 2) := by decide +kernel
theorem dX4_valueByLink_65 : decode cX4_valueByLink 65 = .ok (.iconst (-1), 1) := by decide +kernel
theorem dX4_valueByLink_66 : decode cX4_valueByLink 66 = .ok (.istore 7, 2) := by decide +kernel
theorem dX4_valueByLink_68 : decode cX4_valueByLink 68 = .ok (.iload 5, 2) := by decide +kernel
theorem dX4_valueByLink_70 : decode cX4_valueByLink 70 = .ok (.istore 8, 2) := by decide +kernel
theorem dX4_valueByLink_72 : decode cX4_valueByLink 72 = .ok (.iload 8, 2) := by decide +kernel
theorem dX4_valueByLink_74 : decode cX4_valueByLink 74 = .ok (.iload 6, 2) := by decide +kernel
theorem dX4_valueByLink_76 : decode cX4_valueByLink 76 = .ok (.if_icmp .gt 86, 3) := by decide +kernel
theorem dX4_valueByLink_79 : decode cX4_valueByLink 79 = .ok (.aload_n 0, 1) := by decide +kernel
theorem dX4_valueByLink_80 : decode cX4_valueByLink 80 = .ok (.iload_n 1, 1) := by decide +kernel
theorem dX4_valueByLink_81 : decode cX4_valueByLink 81 = .ok (.iload_n 2, 1) := by decide +kernel
theorem dX4_valueByLink_82 : decode cX4_valueByLink 82 = .ok (.iload_n 3, 1) := by decide +kernel
theorem dX4_valueByLink_83 : decode cX4_valueByLink 83 = .ok (.iload 8, 2) := by decide +kernel
theorem dX4_valueByLink_85 : decode cX4_valueByLink 85 = .ok (.iload 5, 2) := by decide +kernel
theorem dX4_valueByLink_87 : decode cX4_valueByLink 87 = .ok (.isub, 1) := by decide +kernel
theorem dX4_valueByLink_88 : decode cX4_valueByLink 88 = .ok (.invokevirtual 153, 3) := by decide +kernel
theorem dX4_valueByLink_91 : decode cX4_valueByLink 91 = .ok (.istore 9, 2) := by decide +kernel
theorem dX4_valueByLink_93 : decode cX4_valueByLink 93 = .ok (.iload 9, 2) := by decide +kernel
theorem dX4_valueByLink_95 : decode cX4_valueByLink 95 = .ok (.ifCond .lt 38, 3) := by decide +kernel
theorem dX4_valueByLink_98 : decode cX4_valueByLink 98 = .ok (.aload_n 0, 1) := by decide +kernel
theorem dX4_valueByLink_99 : decode cX4_valueByLink 99 = .ok (.iload 7, 2) := by decide +kernel
theorem dX4_valueByLink_101 : decode cX4_valueByLink 101 = .ok (.aload_n 0, 1) := by decide +kernel
theorem dX4_valueByLink_102 : decode cX4_valueByLink 102 = .ok (.aload_n 0, 1) := by decide +kernel
theorem dX4_valueByLink_103 : decode cX4_valueByLink 103 = .ok (.getfield 41, 3) := by decide +kernel
theorem dX4_valueByLink_106 : decode cX4_valueByLink 106 = .ok (.iload_n 2, 1) := by decide +kernel
theorem dX4_valueByLink_107 : decode cX4_valueByLink 107 = .ok (.aload_n 0, 1) := by decide +kernel
theorem dX4_valueByLink_108 : decode cX4_valueByLink 108 = .ok (.getfield 33, 3) := by decide +kernel
theorem dX4_valueByLink_111 : decode cX4_valueByLink 111 = .ok (.getfield 150, 3) := by decide +kernel
theorem dX4_valueByLink_114 : decode cX4_valueByLink 114 = .ok (.iload_n 1, 1) := by decide +kernel
theorem dX4_valueByLink_115 : decode cX4_valueByLink 115 = .ok (.iaload, 1) := by decide +kernel
theorem dX4_valueByLink_116 : decode cX4_valueByLink 116 = .ok (.iadd, 1) := by decide +kernel
theorem dX4_valueByLink_117 : decode cX4_valueByLink 117 = .ok (.iload 9, 2) := by decide +kernel
theorem dX4_valueByLink_119 : decode cX4_valueByLink 119 = .ok (.invokestatic 124, 3) := by decide +kernel
theorem dX4_valueByLink_122 : decode cX4_valueByLink 122 = .ok (.iaload, 1) := by decide +kernel
theorem dX4_valueByLink_123 : decode cX4_valueByLink 123 = .ok (.iload 4, 2) := by decide +kernel
theorem dX4_valueByLink_125 : decode cX4_valueByLink 125 = .ok (.invokevirtual 212, 3) := by decide +kernel
theorem dX4_valueByLink_128 : decode cX4_valueByLink 128 = .ok (.invokevirtual 206, 3) := by decide +kernel
theorem dX4_valueByLink_131 : decode cX4_valueByLink 131 = .ok (.istore 7, 2) := by decide +kernel
theorem dX4_valueByLink_133 : decode cX4_valueByLink 133 = .ok (.iload 8, 2) := by decide +kernel
theorem dX4_valueByLink_135 : decode cX4_valueByLink 135 = .ok (.aload_n 0, 1) := by decide +kernel
theorem dX4_valueByLink_136 : decode cX4_valueByLink 136 = .ok (.getfield 164, 3) := by decide +kernel
theorem dX4_valueByLink_139 : decode cX4_valueByLink 139 = .ok (.if_icmp .ge 17, 3) := by decide +kernel
theorem dX4_valueByLink_142 : decode cX4_valueByLink 142 = .ok (.iload 4, 2) := by decide +kernel
theorem dX4_valueByLink_144 : decode cX4_valueByLink 144 = .ok (.iconst 1, 1) := by decide +kernel
theorem dX4_valueByLink_145 : decode cX4_valueByLink 145 = .ok (.aload_n 0, 1) := by decide +kernel
theorem dX4_valueByLink_146 : decode cX4_valueByLink 146 = .ok (.getfield 27, 3) := by decide +kernel
theorem dX4_valueByLink_149 : decode cX4_valueByLink 149 = .ok (.iload 8, 2) := by decide +kernel
theorem dX4_valueByLink_151 : decode cX4_valueByLink 151 = .ok (.iaload, 1) := by decide +kernel
theorem dX4_valueByLink_152 : decode cX4_valueByLink 152 = .ok (.ishl, 1) := by decide +kernel
theorem dX4_valueByLink_153 : decode cX4_valueByLink 153 = .ok (.ior, 1) := by decide +kernel
theorem dX4_valueByLink_154 : decode cX4_valueByLink 154 = .ok (.istore 4, 2) := by decide +kernel
theorem dX4_valueByLink_156 : decode cX4_valueByLink 156 = .ok (.iinc 8 1, 3) := by decide +kernel
theorem dX4_valueByLink_159 : decode cX4_valueByLink 159 = .ok (.goto (-87), 3) := by decide +kernel
theorem dX4_valueByLink_162 : decode cX4_valueByLink 162 = .ok (.iload 7, 2) := by decide +kernel
theorem dX4_valueByLink_164 : decode cX4_valueByLink 164 = .ok (.ifCond .ge 7, 3) := by decide +kernel
theorem dX4_valueByLink_167 : decode cX4_valueByLink 167 = .ok (.iconst (-1), 1) := by decide +kernel
theorem dX4_valueByLink_168 : decode cX4_valueByLink 168 = .ok (.goto 11, 3) := by decide +kernel
theorem dX4_valueByLink_171 : decode cX4_valueByLink 171 = .ok (.iload 7, 2) := by decide +kernel
theorem dX4_valueByLink_173 : decode cX4_valueByLink 173 = .ok (.aload_n 0, 1) := by decide +kernel
theorem dX4_valueByLink_174 : decode cX4_valueByLink 174 = .ok (.iload_n 1, 1) := by decide +kernel
theorem dX4_valueByLink_175 : decode cX4_valueByLink 175 = .ok (.invokevirtual 224, 3) := by decide +kernel
theorem dX4_valueByLink_178 : decode cX4_valueByLink 178 = .ok (.iadd, 1) := by decide +kernel
theorem dX4_valueByLink_179 : decode cX4_valueByLink 179 = .ok (.ireturn, 1) := by decide +kernel
theorem dX4_weightOf_0 : decode cX4_weightOf 0 = .ok (.aload_n 0, 1) := by decide +kernel
theorem dX4_weightOf_1 : decode cX4_weightOf 1 = .ok (.getfield 194, 3) := by decide +kernel
theorem dX4_weightOf_4 : decode cX4_weightOf 4 = .ok (.ifCond .eq 11, 3) := by decide +kernel
theorem dX4_weightOf_7 : decode cX4_weightOf 7 = .ok (.aload_n 0, 1) := by decide +kernel
theorem dX4_weightOf_8 : decode cX4_weightOf 8 = .ok (.getfield 194, 3) := by decide +kernel
theorem dX4_weightOf_11 : decode cX4_weightOf 11 = .ok (.iconst 1, 1) := by decide +kernel
theorem dX4_weightOf_12 : decode cX4_weightOf 12 = .ok (.if_icmp .ne 13, 3) := by decide +kernel
theorem dX4_weightOf_15 : decode cX4_weightOf 15 = .ok (.aload_n 0, 1) := by decide +kernel
theorem dX4_weightOf_16 : decode cX4_weightOf 16 = .ok (.getfield 33, 3) := by decide +kernel
theorem dX4_weightOf_19 : decode cX4_weightOf 19 = .ok (.getfield 227, 3) := by decide +kernel
theorem dX4_weightOf_22 : decode cX4_weightOf 22 = .ok (.iload_n 1, 1) := by decide +kernel
theorem dX4_weightOf_23 : decode cX4_weightOf 23 = .ok (.iaload, 1) := by decide +kernel
theorem dX4_weightOf_24 : decode cX4_weightOf 24 = .ok (.ireturn, 1) := by decide +kernel
theorem dX4_weightOf_25 : decode cX4_weightOf 25 = .ok (.aload_n 0, 1) := by decide +kernel
theorem dX4_weightOf_26 : decode cX4_weightOf 26 = .ok (.getfield 194, 3) := by decide +kernel
theorem dX4_weightOf_29 : decode cX4_weightOf 29 = .ok (.iconst 2, 1) := by decide +kernel
theorem dX4_weightOf_30 : decode cX4_weightOf 30 = .ok (.if_icmp .eq 11, 3) := by decide +kernel
theorem dX4_weightOf_33 : decode cX4_weightOf 33 = .ok (.aload_n 0, 1) := by decide +kernel
theorem dX4_weightOf_34 : decode cX4_weightOf 34 = .ok (.getfield 194, 3) := by decide +kernel
theorem dX4_weightOf_37 : decode cX4_weightOf 37 = .ok (.iconst 3, 1) := by decide +kernel
theorem dX4_weightOf_38 : decode cX4_weightOf 38 = .ok (.if_icmp .ne 7, 3) := by decide +kernel
theorem dX4_weightOf_41 : decode cX4_weightOf 41 = .ok (.iconst 1, 1) := by decide +kernel
theorem dX4_weightOf_42 : decode cX4_weightOf 42 = .ok (.goto 4, 3) := by decide +kernel
theorem dX4_weightOf_45 : decode cX4_weightOf 45 = .ok (.iconst 0, 1) := by decide +kernel
theorem dX4_weightOf_46 : decode cX4_weightOf 46 = .ok (.ireturn, 1) := by decide +kernel
theorem dX4_join_0 : decode cX4_join 0 = .ok (.iload_n 1, 1) := by decide +kernel
theorem dX4_join_1 : decode cX4_join 1 = .ok (.ifCond .lt 7, 3) := by decide +kernel
theorem dX4_join_4 : decode cX4_join 4 = .ok (.iload_n 2, 1) := by decide +kernel
theorem dX4_join_5 : decode cX4_join 5 = .ok (.ifCond .ge 9, 3) := by decide +kernel
theorem dX4_join_8 : decode cX4_join 8 = .ok (.iload_n 1, 1) := by decide +kernel
theorem dX4_join_9 : decode cX4_join 9 = .ok (.iload_n 2, 1) := by decide +kernel
theorem dX4_join_10 : decode cX4_join 10 = .ok (.invokestatic 101, 3) := by decide +kernel
theorem dX4_join_13 : decode cX4_join 13 = .ok (.ireturn, 1) := by decide +kernel
theorem dX4_join_14 : decode cX4_join 14 = .ok (.aload_n 0, 1) := by decide +kernel
theorem dX4_join_15 : decode cX4_join 15 = .ok (.getfield 194, 3) := by decide +kernel
theorem dX4_join_18 : decode cX4_join 18 = .ok (.iconst 4, 1) := by decide +kernel
theorem dX4_join_19 : decode cX4_join 19 = .ok (.if_icmp .ne 12, 3) := by decide +kernel
theorem dX4_join_22 : decode cX4_join 22 = .ok (.ldc 230, 2) := by decide +kernel
theorem dX4_join_24 : decode cX4_join 24 = .ok (.iload_n 1, 1) := by decide +kernel
theorem dX4_join_25 : decode cX4_join 25 = .ok (.iload_n 2, 1) := by decide +kernel
theorem dX4_join_26 : decode cX4_join 26 = .ok (.iadd, 1) := by decide +kernel
theorem dX4_join_27 : decode cX4_join 27 = .ok (.invokestatic 231, 3) := by decide +kernel
theorem dX4_join_30 : decode cX4_join 30 = .ok (.ireturn, 1) := by decide +kernel
theorem dX4_join_31 : decode cX4_join 31 = .ok (.aload_n 0, 1) := by decide +kernel
theorem dX4_join_32 : decode cX4_join 32 = .ok (.getfield 194, 3) := by decide +kernel
theorem dX4_join_35 : decode cX4_join 35 = .ok (.iconst 1, 1) := by decide +kernel
theorem dX4_join_36 : decode cX4_join 36 = .ok (.if_icmp .eq 11, 3) := by decide +kernel
theorem dX4_join_39 : decode cX4_join 39 = .ok (.aload_n 0, 1) := by decide +kernel
theorem dX4_join_40 : decode cX4_join 40 = .ok (.getfield 194, 3) := by decide +kernel
theorem dX4_join_43 : decode cX4_join 43 = .ok (.iconst 3, 1) := by decide +kernel
theorem dX4_join_44 : decode cX4_join 44 = .ok (.if_icmp .ne 11, 3) := by decide +kernel
theorem dX4_join_47 : decode cX4_join 47 = .ok (.iload_n 1, 1) := by decide +kernel
theorem dX4_join_48 : decode cX4_join 48 = .ok (.iload_n 2, 1) := by decide +kernel
theorem dX4_join_49 : decode cX4_join 49 = .ok (.invokestatic 101, 3) := by decide +kernel
theorem dX4_join_52 : decode cX4_join 52 = .ok (.goto 8, 3) := by decide +kernel
theorem dX4_join_55 : decode cX4_join 55 = .ok (.iload_n 1, 1) := by decide +kernel
theorem dX4_join_56 : decode cX4_join 56 = .ok (.iload_n 2, 1) := by decide +kernel
theorem dX4_join_57 : decode cX4_join 57 = .ok (.invokestatic 231, 3) := by decide +kernel
theorem dX4_join_60 : decode cX4_join 60 = .ok (.ireturn, 1) := by decide +kernel
theorem dX4_charge_0 : decode cX4_charge 0 = .ok (.iload_n 1, 1) := by decide +kernel
theorem dX4_charge_1 : decode cX4_charge 1 = .ok (.ifCond .lt 7, 3) := by decide +kernel
theorem dX4_charge_4 : decode cX4_charge 4 = .ok (.iload_n 2, 1) := by decide +kernel
theorem dX4_charge_5 : decode cX4_charge 5 = .ok (.ifCond .ne 5, 3) := by decide +kernel
theorem dX4_charge_8 : decode cX4_charge 8 = .ok (.iload_n 1, 1) := by decide +kernel
theorem dX4_charge_9 : decode cX4_charge 9 = .ok (.ireturn, 1) := by decide +kernel
theorem dX4_charge_10 : decode cX4_charge 10 = .ok (.aload_n 0, 1) := by decide +kernel
theorem dX4_charge_11 : decode cX4_charge 11 = .ok (.getfield 194, 3) := by decide +kernel
theorem dX4_charge_14 : decode cX4_charge 14 = .ok (.iconst 5, 1) := by decide +kernel
theorem dX4_charge_15 : decode cX4_charge 15 = .ok (.if_icmp .ne 18, 3) := by decide +kernel
theorem dX4_charge_18 : decode cX4_charge 18 = .ok (.iload_n 1, 1) := by decide +kernel
theorem dX4_charge_19 : decode cX4_charge 19 = .ok (.iload_n 2, 1) := by decide +kernel
theorem dX4_charge_20 : decode cX4_charge 20 = .ok (.invokestatic 234, 3) := by decide +kernel
theorem dX4_charge_23 : decode cX4_charge 23 = .ok (.sipush 256, 3) := by decide +kernel
theorem dX4_charge_26 : decode cX4_charge 26 = .ok (.imul, 1) := by decide +kernel
theorem dX4_charge_27 : decode cX4_charge 27 = .ok (.iadd, 1) := by decide +kernel
theorem dX4_charge_28 : decode cX4_charge 28 = .ok (.iload_n 2, 1) := by decide +kernel
theorem dX4_charge_29 : decode cX4_charge 29 = .ok (.iadd, 1) := by decide +kernel
theorem dX4_charge_30 : decode cX4_charge 30 = .ok (.goto 4, 3) := by decide +kernel
theorem dX4_charge_33 : decode cX4_charge 33 = .ok (.iconst (-1), 1) := by decide +kernel
theorem dX4_charge_34 : decode cX4_charge 34 = .ok (.ireturn, 1) := by decide +kernel
theorem dX4_canTake_0 : decode cX4_canTake 0 = .ok (.aload_n 0, 1) := by decide +kernel
theorem dX4_canTake_1 : decode cX4_canTake 1 = .ok (.getfield 22, 3) := by decide +kernel
theorem dX4_canTake_4 : decode cX4_canTake 4 = .ok (.iload_n 2, 1) := by decide +kernel
theorem dX4_canTake_5 : decode cX4_canTake 5 = .ok (.iaload, 1) := by decide +kernel
theorem dX4_canTake_6 : decode cX4_canTake 6 = .ok (.iload_n 1, 1) := by decide +kernel
theorem dX4_canTake_7 : decode cX4_canTake 7 = .ok (.ishr, 1) := by decide +kernel
theorem dX4_canTake_8 : decode cX4_canTake 8 = .ok (.iconst 1, 1) := by decide +kernel
theorem dX4_canTake_9 : decode cX4_canTake 9 = .ok (.iand, 1) := by decide +kernel
theorem dX4_canTake_10 : decode cX4_canTake 10 = .ok (.ifCond .eq 23, 3) := by decide +kernel
theorem dX4_canTake_13 : decode cX4_canTake 13 = .ok (.aload_n 0, 1) := by decide +kernel
theorem dX4_canTake_14 : decode cX4_canTake 14 = .ok (.getfield 33, 3) := by decide +kernel
theorem dX4_canTake_17 : decode cX4_canTake 17 = .ok (.getfield 239, 3) := by decide +kernel
theorem dX4_canTake_20 : decode cX4_canTake 20 = .ok (.iload_n 1, 1) := by decide +kernel
theorem dX4_canTake_21 : decode cX4_canTake 21 = .ok (.iaload, 1) := by decide +kernel
theorem dX4_canTake_22 : decode cX4_canTake 22 = .ok (.iload_n 3, 1) := by decide +kernel
theorem dX4_canTake_23 : decode cX4_canTake 23 = .ok (.invokestatic 132, 3) := by decide +kernel
theorem dX4_canTake_26 : decode cX4_canTake 26 = .ok (.if_icmp .ne 7, 3) := by decide +kernel
theorem dX4_canTake_29 : decode cX4_canTake 29 = .ok (.iconst 1, 1) := by decide +kernel
theorem dX4_canTake_30 : decode cX4_canTake 30 = .ok (.goto 4, 3) := by decide +kernel
theorem dX4_canTake_33 : decode cX4_canTake 33 = .ok (.iconst 0, 1) := by decide +kernel
theorem dX4_canTake_34 : decode cX4_canTake 34 = .ok (.ireturn, 1) := by decide +kernel
theorem dX4_afterStay_0 : decode cX4_afterStay 0 = .ok (.iload_n 2, 1) := by decide +kernel
theorem dX4_afterStay_1 : decode cX4_afterStay 1 = .ok (.sipush 256, 3) := by decide +kernel
theorem dX4_afterStay_4 : decode cX4_afterStay 4 = .ok (.idiv, 1) := by decide +kernel
theorem dX4_afterStay_5 : decode cX4_afterStay 5 = .ok (.istore_n 3, 1) := by decide +kernel
theorem dX4_afterStay_6 : decode cX4_afterStay 6 = .ok (.iload_n 1, 1) := by decide +kernel
theorem dX4_afterStay_7 : decode cX4_afterStay 7 = .ok (.bipush 24, 2) := by decide +kernel
theorem dX4_afterStay_9 : decode cX4_afterStay 9 = .ok (.irem, 1) := by decide +kernel
theorem dX4_afterStay_10 : decode cX4_afterStay 10 = .ok (.istore 4, 2) := by decide +kernel
theorem dX4_afterStay_12 : decode cX4_afterStay 12 = .ok (.iload 4, 2) := by decide +kernel
theorem dX4_afterStay_14 : decode cX4_afterStay 14 = .ok (.bipush 8, 2) := by decide +kernel
theorem dX4_afterStay_16 : decode cX4_afterStay 16 = .ok (.if_icmp .ge 17, 3) := by decide +kernel
theorem dX4_afterStay_19 : decode cX4_afterStay 19 = .ok (.aload_n 0, 1) := by decide +kernel
theorem dX4_afterStay_20 : decode cX4_afterStay 20 = .ok (.getfield 37, 3) := by decide +kernel
theorem dX4_afterStay_23 : decode cX4_afterStay 23 = .ok (.getfield 240, 3) := by decide +kernel
theorem dX4_afterStay_26 : decode cX4_afterStay 26 = .ok (.iload_n 3, 1) := by decide +kernel
theorem dX4_afterStay_27 : decode cX4_afterStay 27 = .ok (.iconst 1, 1) := by decide +kernel
theorem dX4_afterStay_28 : decode cX4_afterStay 28 = .ok (.iadd, 1) := by decide +kernel
theorem dX4_afterStay_29 : decode cX4_afterStay 29 = .ok (.invokestatic 231, 3) := by decide +kernel
theorem dX4_afterStay_32 : decode cX4_afterStay 32 = .ok (.istore_n 3, 1) := by decide +kernel
theorem dX4_afterStay_33 : decode cX4_afterStay 33 = .ok (.iload 4, 2) := by decide +kernel
theorem dX4_afterStay_35 : decode cX4_afterStay 35 = .ok (.bipush 7, 2) := by decide +kernel
theorem dX4_afterStay_37 : decode cX4_afterStay 37 = .ok (.if_icmp .ne 20, 3) := by decide +kernel
theorem dX4_afterStay_40 : decode cX4_afterStay 40 = .ok (.iload_n 3, 1) := by decide +kernel
theorem dX4_afterStay_41 : decode cX4_afterStay 41 = .ok (.aload_n 0, 1) := by decide +kernel
theorem dX4_afterStay_42 : decode cX4_afterStay 42 = .ok (.getfield 37, 3) := by decide +kernel
theorem dX4_afterStay_45 : decode cX4_afterStay 45 = .ok (.getfield 240, 3) := by decide +kernel
theorem dX4_afterStay_48 : decode cX4_afterStay 48 = .ok (.if_icmp .ge 7, 3) := by decide +kernel
theorem dX4_afterStay_51 : decode cX4_afterStay 51 = .ok (.iconst (-1), 1) := by decide +kernel
theorem dX4_afterStay_52 : decode cX4_afterStay 52 = .ok (.goto 4, 3) := by decide +kernel
theorem dX4_afterStay_55 : decode cX4_afterStay 55 = .ok (.iconst 0, 1) := by decide +kernel
theorem dX4_afterStay_56 : decode cX4_afterStay 56 = .ok (.istore_n 3, 1) := by decide +kernel
theorem dX4_afterStay_57 : decode cX4_afterStay 57 = .ok (.iload_n 3, 1) := by decide +kernel
theorem dX4_afterStay_58 : decode cX4_afterStay 58 = .ok (.ifCond .ge 7, 3) := by decide +kernel
theorem dX4_afterStay_61 : decode cX4_afterStay 61 = .ok (.iconst (-1), 1) := by decide +kernel
theorem dX4_afterStay_62 : decode cX4_afterStay 62 = .ok (.goto 26, 3) := by decide +kernel
theorem dX4_afterStay_65 : decode cX4_afterStay 65 = .ok (.iload_n 3, 1) := by decide +kernel
theorem dX4_afterStay_66 : decode cX4_afterStay 66 = .ok (.sipush 256, 3) := by decide +kernel
theorem dX4_afterStay_69 : decode cX4_afterStay 69 = .ok (.imul, 1) := by decide +kernel
theorem dX4_afterStay_70 : decode cX4_afterStay 70 = .ok (.iload_n 2, 1) := by decide +kernel
theorem dX4_afterStay_71 : decode cX4_afterStay 71 = .ok (.sipush 256, 3) := by decide +kernel
theorem dX4_afterStay_74 : decode cX4_afterStay 74 = .ok (.irem, 1) := by decide +kernel
theorem dX4_afterStay_75 : decode cX4_afterStay 75 = .ok (.iadd, 1) := by decide +kernel
theorem dX4_afterStay_76 : decode cX4_afterStay 76 = .ok (.aload_n 0, 1) := by decide +kernel
theorem dX4_afterStay_77 : decode cX4_afterStay 77 = .ok (.iload_n 1, 1) := by decide +kernel
theorem dX4_afterStay_78 : decode cX4_afterStay 78 = .ok (.iconst 1, 1) := by decide +kernel
theorem dX4_afterStay_79 : decode cX4_afterStay 79 = .ok (.iadd, 1) := by decide +kernel
theorem dX4_afterStay_80 : decode cX4_afterStay 80 = .ok (.iload_n 2, 1) := by decide +kernel
theorem dX4_afterStay_81 : decode cX4_afterStay 81 = .ok (.invokestatic 132, 3) := by decide +kernel
theorem dX4_afterStay_84 : decode cX4_afterStay 84 = .ok (.invokevirtual 243, 3) := by decide +kernel
theorem dX4_afterStay_87 : decode cX4_afterStay 87 = .ok (.ior, 1) := by decide +kernel
theorem dX4_afterStay_88 : decode cX4_afterStay 88 = .ok (.ireturn, 1) := by decide +kernel
theorem dX4_afterLink_0 : decode cX4_afterLink 0 = .ok (.iload_n 2, 1) := by decide +kernel
theorem dX4_afterLink_1 : decode cX4_afterLink 1 = .ok (.aload_n 0, 1) := by decide +kernel
theorem dX4_afterLink_2 : decode cX4_afterLink 2 = .ok (.getfield 33, 3) := by decide +kernel
theorem dX4_afterLink_5 : decode cX4_afterLink 5 = .ok (.getfield 150, 3) := by decide +kernel
theorem dX4_afterLink_8 : decode cX4_afterLink 8 = .ok (.iload_n 1, 1) := by decide +kernel
theorem dX4_afterLink_9 : decode cX4_afterLink 9 = .ok (.iaload, 1) := by decide +kernel
theorem dX4_afterLink_10 : decode cX4_afterLink 10 = .ok (.iadd, 1) := by decide +kernel
theorem dX4_afterLink_11 : decode cX4_afterLink 11 = .ok (.istore 5, 2) := by decide +kernel
theorem dX4_afterLink_13 : decode cX4_afterLink 13 = .ok (.aload_n 0, 1) := by decide +kernel
theorem dX4_afterLink_14 : decode cX4_afterLink 14 = .ok (.iload_n 2, 1) := by decide +kernel
theorem dX4_afterLink_15 : decode cX4_afterLink 15 = .ok (.iload 5, 2) := by decide +kernel
theorem dX4_afterLink_17 : decode cX4_afterLink 17 = .ok (.iload_n 3, 1) := by decide +kernel
theorem dX4_afterLink_18 : decode cX4_afterLink 18 = .ok (.sipush 256, 3) := by decide +kernel
theorem dX4_afterLink_21 : decode cX4_afterLink 21 = .ok (.idiv, 1) := by decide +kernel
theorem dX4_afterLink_22 : decode cX4_afterLink 22 = .ok (.invokevirtual 246, 3) := by decide +kernel
theorem dX4_afterLink_25 : decode cX4_afterLink 25 = .ok (.istore 6, 2) := by decide +kernel
theorem dX4_afterLink_27 : decode cX4_afterLink 27 = .ok (.iload 6, 2) := by decide +kernel
theorem dX4_afterLink_29 : decode cX4_afterLink 29 = .ok (.ifCond .ge 5, 3) := by decide +kernel
theorem dX4_afterLink_32 : decode cX4_afterLink 32 = .ok (.iconst (-1), 1) := by decide +kernel
theorem dX4_afterLink_33 : decode cX4_afterLink 33 = .ok (.ireturn, 1) := by decide +kernel
theorem dX4_afterLink_34 : decode cX4_afterLink 34 = .ok (.iload_n 3, 1) := by decide +kernel
theorem dX4_afterLink_35 : decode cX4_afterLink 35 = .ok (.invokestatic 215, 3) := by decide +kernel
theorem dX4_afterLink_38 : decode cX4_afterLink 38 = .ok (.istore 7, 2) := by decide +kernel
theorem dX4_afterLink_40 : decode cX4_afterLink 40 = .ok (.aload_n 0, 1) := by decide +kernel
theorem dX4_afterLink_41 : decode cX4_afterLink 41 = .ok (.getfield 33, 3) := by decide +kernel
theorem dX4_afterLink_44 : decode cX4_afterLink 44 = .ok (.getfield 218, 3) := by decide +kernel
theorem dX4_afterLink_47 : decode cX4_afterLink 47 = .ok (.iload_n 1, 1) := by decide +kernel
theorem dX4_afterLink_48 : decode cX4_afterLink 48 = .ok (.iaload, 1) := by decide +kernel
theorem dX4_afterLink_49 : decode cX4_afterLink 49 = .ok (.iconst (-1), 1) := by decide +kernel
theorem dX4_afterLink_50 : decode cX4_afterLink 50 = .ok (.if_icmp .eq 69, 3) := by decide +kernel
theorem dX4_afterLink_53 : decode cX4_afterLink 53 = .ok (.iload 7, 2) := by decide +kernel
theorem dX4_afterLink_55 : decode cX4_afterLink 55 = .ok (.aload_n 0, 1) := by decide +kernel
theorem dX4_afterLink_56 : decode cX4_afterLink 56 = .ok (.getfield 164, 3) := by decide +kernel
theorem dX4_afterLink_59 : decode cX4_afterLink 59 = .ok (.if_icmp .ge 13, 3) := by decide +kernel
theorem dX4_afterLink_62 : decode cX4_afterLink 62 = .ok (.aload_n 0, 1) := by decide +kernel
theorem dX4_afterLink_63 : decode cX4_afterLink 63 = .ok (.getfield 27, 3) := by decide +kernel
theorem dX4_afterLink_66 : decode cX4_afterLink 66 = .ok (.iload 7, 2) := by decide +kernel
theorem dX4_afterLink_68 : decode cX4_afterLink 68 = .ok (.iaload, 1) := by decide +kernel
theorem dX4_afterLink_69 : decode cX4_afterLink 69 = .ok (.goto 4, 3) := by decide +kernel
theorem dX4_afterLink_72 : decode cX4_afterLink 72 = .ok (.iconst (-1), 1) := by decide +kernel
theorem dX4_afterLink_73 : decode cX4_afterLink 73 = .ok (.istore 8, 2) := by decide +kernel
theorem dX4_afterLink_75 : decode cX4_afterLink 75 = .ok (.aload_n 0, 1) := by decide +kernel
theorem dX4_afterLink_76 : decode cX4_afterLink 76 = .ok (.getfield 37, 3) := by decide +kernel
theorem dX4_afterLink_79 : decode cX4_afterLink 79 = .ok (.iload 8, 2) := by decide +kernel
theorem dX4_afterLink_81 : decode cX4_afterLink 81 = .ok (.aload_n 0, 1) := by decide +kernel
theorem dX4_afterLink_82 : decode cX4_afterLink 82 = .ok (.getfield 33, 3) := by decide +kernel
theorem dX4_afterLink_85 : decode cX4_afterLink 85 = .ok (.getfield 218, 3) := by decide +kernel
theorem dX4_afterLink_88 : decode cX4_afterLink 88 = .ok (.iload_n 1, 1) := by decide +kernel
theorem dX4_afterLink_89 : decode cX4_afterLink 89 = .ok (.iaload, 1) := by decide +kernel
theorem dX4_afterLink_90 : decode cX4_afterLink 90 = .ok (.iconst 1, 1) := by decide +kernel
theorem dX4_afterLink_91 : decode cX4_afterLink 91 = .ok (.aload_n 0, 1) := by decide +kernel
theorem dX4_afterLink_92 : decode cX4_afterLink 92 = .ok (.getfield 33, 3) := by decide +kernel
theorem dX4_afterLink_95 : decode cX4_afterLink 95 = .ok (.iload_n 2, 1) := by decide +kernel
theorem dX4_afterLink_96 : decode cX4_afterLink 96 = .ok (.aload_n 0, 1) := by decide +kernel
theorem dX4_afterLink_97 : decode cX4_afterLink 97 = .ok (.getfield 33, 3) := by decide +kernel
theorem dX4_afterLink_100 : decode cX4_afterLink 100 = .ok (.getfield 239, 3) := by decide +kernel
theorem dX4_afterLink_103 : decode cX4_afterLink 103 = .ok (.iload_n 1, 1) := by decide +kernel
theorem dX4_afterLink_104 : decode cX4_afterLink 104 = .ok (.iaload, 1) := by decide +kernel
theorem dX4_afterLink_105 : decode cX4_afterLink 105 = .ok (.invokevirtual 249, 3) := by decide +kernel
theorem dX4_afterLink_108 : decode cX4_afterLink 108 = .ok (.invokevirtual 252, 3) := by decide +kernel
theorem dX4_afterLink_111 : decode cX4_afterLink 111 = .ok (.ifCond .ne 5, 3) := by decide +kernel
theorem dX4_afterLink_114 : decode cX4_afterLink 114 = .ok (.iconst (-1), 1) := by decide +kernel
theorem dX4_afterLink_115 : decode cX4_afterLink 115 = .ok (.ireturn, 1) := by decide +kernel
theorem dX4_afterLink_116 : decode cX4_afterLink 116 = .ok (.iinc 7 1, 3) := by decide +kernel
theorem dX4_afterLink_119 : decode cX4_afterLink 119 = .ok (.iload 7, 2) := by decide +kernel
theorem dX4_afterLink_121 : decode cX4_afterLink 121 = .ok (.iload 4, 2) := by decide +kernel
theorem dX4_afterLink_123 : decode cX4_afterLink 123 = .ok (.iadd, 1) := by decide +kernel
theorem dX4_afterLink_124 : decode cX4_afterLink 124 = .ok (.istore 7, 2) := by decide +kernel
theorem dX4_afterLink_126 : decode cX4_afterLink 126 = .ok (.aload_n 0, 1) := by decide +kernel
theorem dX4_afterLink_127 : decode cX4_afterLink 127 = .ok (.getfield 33, 3) := by decide +kernel
theorem dX4_afterLink_130 : decode cX4_afterLink 130 = .ok (.getfield 221, 3) := by decide +kernel
theorem dX4_afterLink_133 : decode cX4_afterLink 133 = .ok (.iload_n 1, 1) := by decide +kernel
theorem dX4_afterLink_134 : decode cX4_afterLink 134 = .ok (.iaload, 1) := by decide +kernel
theorem dX4_afterLink_135 : decode cX4_afterLink 135 = .ok (.iconst (-1), 1) := by decide +kernel
theorem dX4_afterLink_136 : decode cX4_afterLink 136 = .ok (.if_icmp .eq 70, 3) := by decide +kernel
theorem dX4_afterLink_139 : decode cX4_afterLink 139 = .ok (.iload 7, 2) := by decide +kernel
theorem dX4_afterLink_141 : decode cX4_afterLink 141 = .ok (.aload_n 0, 1) := by decide +kernel
theorem dX4_afterLink_142 : decode cX4_afterLink 142 = .ok (.getfield 164, 3) := by decide +kernel
theorem dX4_afterLink_145 : decode cX4_afterLink 145 = .ok (.if_icmp .ge 13, 3) := by decide +kernel
theorem dX4_afterLink_148 : decode cX4_afterLink 148 = .ok (.aload_n 0, 1) := by decide +kernel
theorem dX4_afterLink_149 : decode cX4_afterLink 149 = .ok (.getfield 27, 3) := by decide +kernel
theorem dX4_afterLink_152 : decode cX4_afterLink 152 = .ok (.iload 7, 2) := by decide +kernel
theorem dX4_afterLink_154 : decode cX4_afterLink 154 = .ok (.iaload, 1) := by decide +kernel
theorem dX4_afterLink_155 : decode cX4_afterLink 155 = .ok (.goto 4, 3) := by decide +kernel
theorem dX4_afterLink_158 : decode cX4_afterLink 158 = .ok (.iconst (-1), 1) := by decide +kernel
theorem dX4_afterLink_159 : decode cX4_afterLink 159 = .ok (.istore 8, 2) := by decide +kernel
theorem dX4_afterLink_161 : decode cX4_afterLink 161 = .ok (.aload_n 0, 1) := by decide +kernel
theorem dX4_afterLink_162 : decode cX4_afterLink 162 = .ok (.getfield 37, 3) := by decide +kernel
theorem dX4_afterLink_165 : decode cX4_afterLink 165 = .ok (.iload 8, 2) := by decide +kernel
theorem dX4_afterLink_167 : decode cX4_afterLink 167 = .ok (.aload_n 0, 1) := by decide +kernel
theorem dX4_afterLink_168 : decode cX4_afterLink 168 = .ok (.getfield 33, 3) := by decide +kernel
theorem dX4_afterLink_171 : decode cX4_afterLink 171 = .ok (.getfield 221, 3) := by decide +kernel
theorem dX4_afterLink_174 : decode cX4_afterLink 174 = .ok (.iload_n 1, 1) := by decide +kernel
theorem dX4_afterLink_175 : decode cX4_afterLink 175 = .ok (.iaload, 1) := by decide +kernel
theorem dX4_afterLink_176 : decode cX4_afterLink 176 = .ok (.iconst 0, 1) := by decide +kernel
theorem dX4_afterLink_177 : decode cX4_afterLink 177 = .ok (.aload_n 0, 1) := by decide +kernel
theorem dX4_afterLink_178 : decode cX4_afterLink 178 = .ok (.getfield 33, 3) := by decide +kernel
theorem dX4_afterLink_181 : decode cX4_afterLink 181 = .ok (.iload 5, 2) := by decide +kernel
theorem dX4_afterLink_183 : decode cX4_afterLink 183 = .ok (.aload_n 0, 1) := by decide +kernel
theorem dX4_afterLink_184 : decode cX4_afterLink 184 = .ok (.getfield 33, 3) := by decide +kernel
theorem dX4_afterLink_187 : decode cX4_afterLink 187 = .ok (.getfield 256, 3) := by decide +kernel
theorem dX4_afterLink_190 : decode cX4_afterLink 190 = .ok (.iload_n 1, 1) := by decide +kernel
theorem dX4_afterLink_191 : decode cX4_afterLink 191 = .ok (.iaload, 1) := by decide +kernel
theorem dX4_afterLink_192 : decode cX4_afterLink 192 = .ok (.invokevirtual 249, 3) := by decide +kernel
theorem dX4_afterLink_195 : decode cX4_afterLink 195 = .ok (.invokevirtual 252, 3) := by decide +kernel
theorem dX4_afterLink_198 : decode cX4_afterLink 198 = .ok (.ifCond .ne 5, 3) := by decide +kernel
theorem dX4_afterLink_201 : decode cX4_afterLink 201 = .ok (.iconst (-1), 1) := by decide +kernel
theorem dX4_afterLink_202 : decode cX4_afterLink 202 = .ok (.ireturn, 1) := by decide +kernel
theorem dX4_afterLink_203 : decode cX4_afterLink 203 = .ok (.iinc 7 1, 3) := by decide +kernel
theorem dX4_afterLink_206 : decode cX4_afterLink 206 = .ok (.iload 6, 2) := by decide +kernel
theorem dX4_afterLink_208 : decode cX4_afterLink 208 = .ok (.aload_n 0, 1) := by decide +kernel
theorem dX4_afterLink_209 : decode cX4_afterLink 209 = .ok (.getfield 33, 3) := by decide +kernel
theorem dX4_afterLink_212 : decode cX4_afterLink 212 = .ok (.getfield 256, 3) := by decide +kernel
theorem dX4_afterLink_215 : decode cX4_afterLink 215 = .ok (.iload_n 1, 1) := by decide +kernel
theorem dX4_afterLink_216 : decode cX4_afterLink 216 = .ok (.iaload, 1) := by decide +kernel
theorem dX4_afterLink_217 : decode cX4_afterLink 217 = .ok (.iload 7, 2) := by decide +kernel
theorem dX4_afterLink_219 : decode cX4_afterLink 219 = .ok (.iload_n 3, 1) := by decide +kernel
theorem dX4_afterLink_220 : decode cX4_afterLink 220 = .ok (.iconst 3, 1) := by decide +kernel
theorem dX4_afterLink_221 : decode cX4_afterLink 221 = .ok (.iand, 1) := by decide +kernel
theorem dX4_afterLink_222 : decode cX4_afterLink 222 = .ok (.aload_n 0, 1) := by decide +kernel
theorem dX4_afterLink_223 : decode cX4_afterLink 223 = .ok (.iload 5, 2) := by decide +kernel
theorem dX4_afterLink_225 : decode cX4_afterLink 225 = .ok (.aload_n 0, 1) := by decide +kernel
theorem dX4_afterLink_226 : decode cX4_afterLink 226 = .ok (.getfield 33, 3) := by decide +kernel
theorem dX4_afterLink_229 : decode cX4_afterLink 229 = .ok (.getfield 256, 3) := by decide +kernel
theorem dX4_afterLink_232 : decode cX4_afterLink 232 = .ok (.iload_n 1, 1) := by decide +kernel
theorem dX4_afterLink_233 : decode cX4_afterLink 233 = .ok (.iaload, 1) := by decide +kernel
theorem dX4_afterLink_234 : decode cX4_afterLink 234 = .ok (.invokevirtual 243, 3) := by decide +kernel
theorem dX4_afterLink_237 : decode cX4_afterLink 237 = .ok (.ior, 1) := by decide +kernel
theorem dX4_afterLink_238 : decode cX4_afterLink 238 = .ok (.invokestatic 191, 3) := by decide +kernel
theorem dX4_afterLink_241 : decode cX4_afterLink 241 = .ok (.ireturn, 1) := by decide +kernel
theorem dX4_sleptAfter_0 : decode cX4_sleptAfter 0 = .ok (.iload_n 1, 1) := by decide +kernel
theorem dX4_sleptAfter_1 : decode cX4_sleptAfter 1 = .ok (.iload_n 1, 1) := by decide +kernel
theorem dX4_sleptAfter_2 : decode cX4_sleptAfter 2 = .ok (.bipush 24, 2) := by decide +kernel
theorem dX4_sleptAfter_4 : decode cX4_sleptAfter 4 = .ok (.irem, 1) := by decide +kernel
theorem dX4_sleptAfter_5 : decode cX4_sleptAfter 5 = .ok (.isub, 1) := by decide +kernel
theorem dX4_sleptAfter_6 : decode cX4_sleptAfter 6 = .ok (.istore 4, 2) := by decide +kernel
theorem dX4_sleptAfter_8 : decode cX4_sleptAfter 8 = .ok (.iload_n 1, 1) := by decide +kernel
theorem dX4_sleptAfter_9 : decode cX4_sleptAfter 9 = .ok (.iload 4, 2) := by decide +kernel
theorem dX4_sleptAfter_11 : decode cX4_sleptAfter 11 = .ok (.bipush 8, 2) := by decide +kernel
theorem dX4_sleptAfter_13 : decode cX4_sleptAfter 13 = .ok (.iadd, 1) := by decide +kernel
theorem dX4_sleptAfter_14 : decode cX4_sleptAfter 14 = .ok (.if_icmp .ge 7, 3) := by decide +kernel
theorem dX4_sleptAfter_17 : decode cX4_sleptAfter 17 = .ok (.iconst 1, 1) := by decide +kernel
theorem dX4_sleptAfter_18 : decode cX4_sleptAfter 18 = .ok (.goto 4, 3) := by decide +kernel
theorem dX4_sleptAfter_21 : decode cX4_sleptAfter 21 = .ok (.iconst 0, 1) := by decide +kernel
theorem dX4_sleptAfter_22 : decode cX4_sleptAfter 22 = .ok (.istore 5, 2) := by decide +kernel
theorem dX4_sleptAfter_24 : decode cX4_sleptAfter 24 = .ok (.iload 5, 2) := by decide +kernel
theorem dX4_sleptAfter_26 : decode cX4_sleptAfter 26 = .ok (.ifCond .eq 14, 3) := by decide +kernel
theorem dX4_sleptAfter_29 : decode cX4_sleptAfter 29 = .ok (.iload_n 2, 1) := by decide +kernel
theorem dX4_sleptAfter_30 : decode cX4_sleptAfter 30 = .ok (.iload 4, 2) := by decide +kernel
theorem dX4_sleptAfter_32 : decode cX4_sleptAfter 32 = .ok (.bipush 8, 2) := by decide +kernel
theorem dX4_sleptAfter_34 : decode cX4_sleptAfter 34 = .ok (.iadd, 1) := by decide +kernel
theorem dX4_sleptAfter_35 : decode cX4_sleptAfter 35 = .ok (.if_icmp .ge 5, 3) := by decide +kernel
theorem dX4_sleptAfter_38 : decode cX4_sleptAfter 38 = .ok (.iload_n 3, 1) := by decide +kernel
theorem dX4_sleptAfter_39 : decode cX4_sleptAfter 39 = .ok (.ireturn, 1) := by decide +kernel
theorem dX4_sleptAfter_40 : decode cX4_sleptAfter 40 = .ok (.iload 5, 2) := by decide +kernel
theorem dX4_sleptAfter_42 : decode cX4_sleptAfter 42 = .ok (.ifCond .eq 18, 3) := by decide +kernel
theorem dX4_sleptAfter_45 : decode cX4_sleptAfter 45 = .ok (.iload_n 3, 1) := by decide +kernel
theorem dX4_sleptAfter_46 : decode cX4_sleptAfter 46 = .ok (.aload_n 0, 1) := by decide +kernel
theorem dX4_sleptAfter_47 : decode cX4_sleptAfter 47 = .ok (.getfield 37, 3) := by decide +kernel
theorem dX4_sleptAfter_50 : decode cX4_sleptAfter 50 = .ok (.getfield 240, 3) := by decide +kernel
theorem dX4_sleptAfter_53 : decode cX4_sleptAfter 53 = .ok (.if_icmp .ge 7, 3) := by decide +kernel
theorem dX4_sleptAfter_56 : decode cX4_sleptAfter 56 = .ok (.iconst 1, 1) := by decide +kernel
theorem dX4_sleptAfter_57 : decode cX4_sleptAfter 57 = .ok (.goto 4, 3) := by decide +kernel
theorem dX4_sleptAfter_60 : decode cX4_sleptAfter 60 = .ok (.iconst 0, 1) := by decide +kernel
theorem dX4_sleptAfter_61 : decode cX4_sleptAfter 61 = .ok (.istore 6, 2) := by decide +kernel
theorem dX4_sleptAfter_63 : decode cX4_sleptAfter 63 = .ok (.aload_n 0, 1) := by decide +kernel
theorem dX4_sleptAfter_64 : decode cX4_sleptAfter 64 = .ok (.getfield 37, 3) := by decide +kernel
theorem dX4_sleptAfter_67 : decode cX4_sleptAfter 67 = .ok (.getfield 240, 3) := by decide +kernel
theorem dX4_sleptAfter_70 : decode cX4_sleptAfter 70 = .ok (.ifCond .le 19, 3) := by decide +kernel
theorem dX4_sleptAfter_73 : decode cX4_sleptAfter 73 = .ok (.iload_n 2, 1) := by decide +kernel
theorem dX4_sleptAfter_74 : decode cX4_sleptAfter 74 = .ok (.iload 4, 2) := by decide +kernel
theorem dX4_sleptAfter_76 : decode cX4_sleptAfter 76 = .ok (.bipush 24, 2) := by decide +kernel
theorem dX4_sleptAfter_78 : decode cX4_sleptAfter 78 = .ok (.iadd, 1) := by decide +kernel
theorem dX4_sleptAfter_79 : decode cX4_sleptAfter 79 = .ok (.bipush 8, 2) := by decide +kernel
theorem dX4_sleptAfter_81 : decode cX4_sleptAfter 81 = .ok (.iadd, 1) := by decide +kernel
theorem dX4_sleptAfter_82 : decode cX4_sleptAfter 82 = .ok (.if_icmp .lt 7, 3) := by decide +kernel
theorem dX4_sleptAfter_85 : decode cX4_sleptAfter 85 = .ok (.iconst 1, 1) := by decide +kernel
theorem dX4_sleptAfter_86 : decode cX4_sleptAfter 86 = .ok (.goto 4, 3) := by decide +kernel
theorem dX4_sleptAfter_89 : decode cX4_sleptAfter 89 = .ok (.iconst 0, 1) := by decide +kernel
theorem dX4_sleptAfter_90 : decode cX4_sleptAfter 90 = .ok (.istore 7, 2) := by decide +kernel
theorem dX4_sleptAfter_92 : decode cX4_sleptAfter 92 = .ok (.iload 6, 2) := by decide +kernel
theorem dX4_sleptAfter_94 : decode cX4_sleptAfter 94 = .ok (.ifCond .ne 8, 3) := by decide +kernel
theorem dX4_sleptAfter_97 : decode cX4_sleptAfter 97 = .ok (.iload 7, 2) := by decide +kernel
theorem dX4_sleptAfter_99 : decode cX4_sleptAfter 99 = .ok (.ifCond .eq 7, 3) := by decide +kernel
theorem dX4_sleptAfter_102 : decode cX4_sleptAfter 102 = .ok (.iconst (-1), 1) := by decide +kernel
theorem dX4_sleptAfter_103 : decode cX4_sleptAfter 103 = .ok (.goto 4, 3) := by decide +kernel
theorem dX4_sleptAfter_106 : decode cX4_sleptAfter 106 = .ok (.iconst 0, 1) := by decide +kernel
theorem dX4_sleptAfter_107 : decode cX4_sleptAfter 107 = .ok (.ireturn, 1) := by decide +kernel
theorem dX4_seenAt_0 : decode cX4_seenAt 0 = .ok (.iconst 0, 1) := by decide +kernel
theorem dX4_seenAt_1 : decode cX4_seenAt 1 = .ok (.istore_n 3, 1) := by decide +kernel
theorem dX4_seenAt_2 : decode cX4_seenAt 2 = .ok (.iconst 0, 1) := by decide +kernel
theorem dX4_seenAt_3 : decode cX4_seenAt 3 = .ok (.istore 4, 2) := by decide +kernel
theorem dX4_seenAt_5 : decode cX4_seenAt 5 = .ok (.iload 4, 2) := by decide +kernel
theorem dX4_seenAt_7 : decode cX4_seenAt 7 = .ok (.aload_n 0, 1) := by decide +kernel
theorem dX4_seenAt_8 : decode cX4_seenAt 8 = .ok (.getfield 167, 3) := by decide +kernel
theorem dX4_seenAt_11 : decode cX4_seenAt 11 = .ok (.if_icmp .ge 67, 3) := by decide +kernel
theorem dX4_seenAt_14 : decode cX4_seenAt 14 = .ok (.aload_n 0, 1) := by decide +kernel
theorem dX4_seenAt_15 : decode cX4_seenAt 15 = .ok (.getfield 30, 3) := by decide +kernel
theorem dX4_seenAt_18 : decode cX4_seenAt 18 = .ok (.iload 4, 2) := by decide +kernel
theorem dX4_seenAt_20 : decode cX4_seenAt 20 = .ok (.iaload, 1) := by decide +kernel
theorem dX4_seenAt_21 : decode cX4_seenAt 21 = .ok (.istore 5, 2) := by decide +kernel
theorem dX4_seenAt_23 : decode cX4_seenAt 23 = .ok (.aload_n 0, 1) := by decide +kernel
theorem dX4_seenAt_24 : decode cX4_seenAt 24 = .ok (.getfield 37, 3) := by decide +kernel
theorem dX4_seenAt_27 : decode cX4_seenAt 27 = .ok (.getfield 259, 3) := by decide +kernel
theorem dX4_seenAt_30 : decode cX4_seenAt 30 = .ok (.iload 5, 2) := by decide +kernel
theorem dX4_seenAt_32 : decode cX4_seenAt 32 = .ok (.iaload, 1) := by decide +kernel
theorem dX4_seenAt_33 : decode cX4_seenAt 33 = .ok (.iload_n 2, 1) := by decide +kernel
theorem dX4_seenAt_34 : decode cX4_seenAt 34 = .ok (.if_icmp .ne 38, 3) := by decide +kernel
theorem dX4_seenAt_37 : decode cX4_seenAt 37 = .ok (.iload_n 1, 1) := by decide +kernel
theorem dX4_seenAt_38 : decode cX4_seenAt 38 = .ok (.aload_n 0, 1) := by decide +kernel
theorem dX4_seenAt_39 : decode cX4_seenAt 39 = .ok (.getfield 37, 3) := by decide +kernel
theorem dX4_seenAt_42 : decode cX4_seenAt 42 = .ok (.getfield 176, 3) := by decide +kernel
theorem dX4_seenAt_45 : decode cX4_seenAt 45 = .ok (.iload 5, 2) := by decide +kernel
theorem dX4_seenAt_47 : decode cX4_seenAt 47 = .ok (.iaload, 1) := by decide +kernel
theorem dX4_seenAt_48 : decode cX4_seenAt 48 = .ok (.if_icmp .lt 24, 3) := by decide +kernel
theorem dX4_seenAt_51 : decode cX4_seenAt 51 = .ok (.iload_n 1, 1) := by decide +kernel
theorem dX4_seenAt_52 : decode cX4_seenAt 52 = .ok (.aload_n 0, 1) := by decide +kernel
theorem dX4_seenAt_53 : decode cX4_seenAt 53 = .ok (.getfield 37, 3) := by decide +kernel
theorem dX4_seenAt_56 : decode cX4_seenAt 56 = .ok (.getfield 262, 3) := by decide +kernel
theorem dX4_seenAt_59 : decode cX4_seenAt 59 = .ok (.iload 5, 2) := by decide +kernel
theorem dX4_seenAt_61 : decode cX4_seenAt 61 = .ok (.iaload, 1) := by decide +kernel
theorem dX4_seenAt_62 : decode cX4_seenAt 62 = .ok (.if_icmp .gt 10, 3) := by decide +kernel
theorem dX4_seenAt_65 : decode cX4_seenAt 65 = .ok (.iload_n 3, 1) := by decide +kernel
theorem dX4_seenAt_66 : decode cX4_seenAt 66 = .ok (.iconst 1, 1) := by decide +kernel
theorem dX4_seenAt_67 : decode cX4_seenAt 67 = .ok (.iload 4, 2) := by decide +kernel
theorem dX4_seenAt_69 : decode cX4_seenAt 69 = .ok (.ishl, 1) := by decide +kernel
theorem dX4_seenAt_70 : decode cX4_seenAt 70 = .ok (.ior, 1) := by decide +kernel
theorem dX4_seenAt_71 : decode cX4_seenAt 71 = .ok (.istore_n 3, 1) := by decide +kernel
theorem dX4_seenAt_72 : decode cX4_seenAt 72 = .ok (.iinc 4 1, 3) := by decide +kernel
theorem dX4_seenAt_75 : decode cX4_seenAt 75 = .ok (.goto (-70), 3) := by decide +kernel
theorem dX4_seenAt_78 : decode cX4_seenAt 78 = .ok (.iload_n 3, 1) := by decide +kernel
theorem dX4_seenAt_79 : decode cX4_seenAt 79 = .ok (.ireturn, 1) := by decide +kernel
theorem dX4_papersMissed_0 : decode cX4_papersMissed 0 = .ok (.iconst 0, 1) := by decide +kernel
theorem dX4_papersMissed_1 : decode cX4_papersMissed 1 = .ok (.istore_n 3, 1) := by decide +kernel
theorem dX4_papersMissed_2 : decode cX4_papersMissed 2 = .ok (.iconst 0, 1) := by decide +kernel
theorem dX4_papersMissed_3 : decode cX4_papersMissed 3 = .ok (.istore 4, 2) := by decide +kernel
theorem dX4_papersMissed_5 : decode cX4_papersMissed 5 = .ok (.iload 4, 2) := by decide +kernel
theorem dX4_papersMissed_7 : decode cX4_papersMissed 7 = .ok (.aload_n 0, 1) := by decide +kernel
theorem dX4_papersMissed_8 : decode cX4_papersMissed 8 = .ok (.getfield 37, 3) := by decide +kernel
theorem dX4_papersMissed_11 : decode cX4_papersMissed 11 = .ok (.getfield 87, 3) := by decide +kernel
theorem dX4_papersMissed_14 : decode cX4_papersMissed 14 = .ok (.if_icmp .ge 66, 3) := by decide +kernel
theorem dX4_papersMissed_17 : decode cX4_papersMissed 17 = .ok (.aload_n 0, 1) := by decide +kernel
theorem dX4_papersMissed_18 : decode cX4_papersMissed 18 = .ok (.getfield 170, 3) := by decide +kernel
theorem dX4_papersMissed_21 : decode cX4_papersMissed 21 = .ok (.iload 4, 2) := by decide +kernel
theorem dX4_papersMissed_23 : decode cX4_papersMissed 23 = .ok (.ishr, 1) := by decide +kernel
theorem dX4_papersMissed_24 : decode cX4_papersMissed 24 = .ok (.ifCond .eq 56, 3) := by decide +kernel
theorem dX4_papersMissed_27 : decode cX4_papersMissed 27 = .ok (.aload_n 0, 1) := by decide +kernel
theorem dX4_papersMissed_28 : decode cX4_papersMissed 28 = .ok (.getfield 170, 3) := by decide +kernel
theorem dX4_papersMissed_31 : decode cX4_papersMissed 31 = .ok (.iload 4, 2) := by decide +kernel
theorem dX4_papersMissed_33 : decode cX4_papersMissed 33 = .ok (.ishr, 1) := by decide +kernel
theorem dX4_papersMissed_34 : decode cX4_papersMissed 34 = .ok (.iconst 1, 1) := by decide +kernel
theorem dX4_papersMissed_35 : decode cX4_papersMissed 35 = .ok (.iand, 1) := by decide +kernel
theorem dX4_papersMissed_36 : decode cX4_papersMissed 36 = .ok (.ifCond .eq 38, 3) := by decide +kernel
theorem dX4_papersMissed_39 : decode cX4_papersMissed 39 = .ok (.aload_n 0, 1) := by decide +kernel
theorem dX4_papersMissed_40 : decode cX4_papersMissed 40 = .ok (.getfield 37, 3) := by decide +kernel
theorem dX4_papersMissed_43 : decode cX4_papersMissed 43 = .ok (.getfield 176, 3) := by decide +kernel
theorem dX4_papersMissed_46 : decode cX4_papersMissed 46 = .ok (.iload 4, 2) := by decide +kernel
theorem dX4_papersMissed_48 : decode cX4_papersMissed 48 = .ok (.iaload, 1) := by decide +kernel
theorem dX4_papersMissed_49 : decode cX4_papersMissed 49 = .ok (.iload_n 1, 1) := by decide +kernel
theorem dX4_papersMissed_50 : decode cX4_papersMissed 50 = .ok (.if_icmp .ne 24, 3) := by decide +kernel
theorem dX4_papersMissed_53 : decode cX4_papersMissed 53 = .ok (.aload_n 0, 1) := by decide +kernel
theorem dX4_papersMissed_54 : decode cX4_papersMissed 54 = .ok (.getfield 37, 3) := by decide +kernel
theorem dX4_papersMissed_57 : decode cX4_papersMissed 57 = .ok (.getfield 259, 3) := by decide +kernel
theorem dX4_papersMissed_60 : decode cX4_papersMissed 60 = .ok (.iload 4, 2) := by decide +kernel
theorem dX4_papersMissed_62 : decode cX4_papersMissed 62 = .ok (.iaload, 1) := by decide +kernel
theorem dX4_papersMissed_63 : decode cX4_papersMissed 63 = .ok (.iload_n 2, 1) := by decide +kernel
theorem dX4_papersMissed_64 : decode cX4_papersMissed 64 = .ok (.if_icmp .eq 10, 3) := by decide +kernel
theorem dX4_papersMissed_67 : decode cX4_papersMissed 67 = .ok (.iload_n 3, 1) := by decide +kernel
theorem dX4_papersMissed_68 : decode cX4_papersMissed 68 = .ok (.iconst 1, 1) := by decide +kernel
theorem dX4_papersMissed_69 : decode cX4_papersMissed 69 = .ok (.iload 4, 2) := by decide +kernel
theorem dX4_papersMissed_71 : decode cX4_papersMissed 71 = .ok (.ishl, 1) := by decide +kernel
theorem dX4_papersMissed_72 : decode cX4_papersMissed 72 = .ok (.ior, 1) := by decide +kernel
theorem dX4_papersMissed_73 : decode cX4_papersMissed 73 = .ok (.istore_n 3, 1) := by decide +kernel
theorem dX4_papersMissed_74 : decode cX4_papersMissed 74 = .ok (.iinc 4 1, 3) := by decide +kernel
theorem dX4_papersMissed_77 : decode cX4_papersMissed 77 = .ok (.goto (-72), 3) := by decide +kernel
theorem dX4_papersMissed_80 : decode cX4_papersMissed 80 = .ok (.iload_n 3, 1) := by decide +kernel
theorem dX4_papersMissed_81 : decode cX4_papersMissed 81 = .ok (.ireturn, 1) := by decide +kernel
theorem dX4_papersBetween_0 : decode cX4_papersBetween 0 = .ok (.iconst 0, 1) := by decide +kernel
theorem dX4_papersBetween_1 : decode cX4_papersBetween 1 = .ok (.istore_n 3, 1) := by decide +kernel
theorem dX4_papersBetween_2 : decode cX4_papersBetween 2 = .ok (.iconst 0, 1) := by decide +kernel
theorem dX4_papersBetween_3 : decode cX4_papersBetween 3 = .ok (.istore 4, 2) := by decide +kernel
theorem dX4_papersBetween_5 : decode cX4_papersBetween 5 = .ok (.iload 4, 2) := by decide +kernel
theorem dX4_papersBetween_7 : decode cX4_papersBetween 7 = .ok (.aload_n 0, 1) := by decide +kernel
theorem dX4_papersBetween_8 : decode cX4_papersBetween 8 = .ok (.getfield 37, 3) := by decide +kernel
theorem dX4_papersBetween_11 : decode cX4_papersBetween 11 = .ok (.getfield 87, 3) := by decide +kernel
theorem dX4_papersBetween_14 : decode cX4_papersBetween 14 = .ok (.if_icmp .ge 76, 3) := by decide +kernel
theorem dX4_papersBetween_17 : decode cX4_papersBetween 17 = .ok (.aload_n 0, 1) := by decide +kernel
theorem dX4_papersBetween_18 : decode cX4_papersBetween 18 = .ok (.getfield 170, 3) := by decide +kernel
theorem dX4_papersBetween_21 : decode cX4_papersBetween 21 = .ok (.iload 4, 2) := by decide +kernel
theorem dX4_papersBetween_23 : decode cX4_papersBetween 23 = .ok (.ishr, 1) := by decide +kernel
theorem dX4_papersBetween_24 : decode cX4_papersBetween 24 = .ok (.ifCond .eq 66, 3) := by decide +kernel
theorem dX4_papersBetween_27 : decode cX4_papersBetween 27 = .ok (.aload_n 0, 1) := by decide +kernel
theorem dX4_papersBetween_28 : decode cX4_papersBetween 28 = .ok (.getfield 170, 3) := by decide +kernel
theorem dX4_papersBetween_31 : decode cX4_papersBetween 31 = .ok (.iload 4, 2) := by decide +kernel
theorem dX4_papersBetween_33 : decode cX4_papersBetween 33 = .ok (.ishr, 1) := by decide +kernel
theorem dX4_papersBetween_34 : decode cX4_papersBetween 34 = .ok (.iconst 1, 1) := by decide +kernel
theorem dX4_papersBetween_35 : decode cX4_papersBetween 35 = .ok (.iand, 1) := by decide +kernel
theorem dX4_papersBetween_36 : decode cX4_papersBetween 36 = .ok (.ifCond .eq 48, 3) := by decide +kernel
theorem dX4_papersBetween_39 : decode cX4_papersBetween 39 = .ok (.aload_n 0, 1) := by decide +kernel
theorem dX4_papersBetween_40 : decode cX4_papersBetween 40 = .ok (.getfield 37, 3) := by decide +kernel
theorem dX4_papersBetween_43 : decode cX4_papersBetween 43 = .ok (.getfield 176, 3) := by decide +kernel
theorem dX4_papersBetween_46 : decode cX4_papersBetween 46 = .ok (.iload 4, 2) := by decide +kernel
theorem dX4_papersBetween_48 : decode cX4_papersBetween 48 = .ok (.iaload, 1) := by decide +kernel
theorem dX4_papersBetween_49 : decode cX4_papersBetween 49 = .ok (.iload_n 2, 1) := by decide +kernel
theorem dX4_papersBetween_50 : decode cX4_papersBetween 50 = .ok (.if_icmp .le 34, 3) := by decide +kernel
theorem dX4_papersBetween_53 : decode cX4_papersBetween 53 = .ok (.aload_n 0, 1) := by decide +kernel
theorem dX4_papersBetween_54 : decode cX4_papersBetween 54 = .ok (.getfield 37, 3) := by decide +kernel
theorem dX4_papersBetween_57 : decode cX4_papersBetween 57 = .ok (.getfield 176, 3) := by decide +kernel
theorem dX4_papersBetween_60 : decode cX4_papersBetween 60 = .ok (.iload 4, 2) := by decide +kernel
theorem dX4_papersBetween_62 : decode cX4_papersBetween 62 = .ok (.iaload, 1) := by decide +kernel
theorem dX4_papersBetween_63 : decode cX4_papersBetween 63 = .ok (.iload_n 2, 1) := by decide +kernel
theorem dX4_papersBetween_64 : decode cX4_papersBetween 64 = .ok (.aload_n 0, 1) := by decide +kernel
theorem dX4_papersBetween_65 : decode cX4_papersBetween 65 = .ok (.getfield 33, 3) := by decide +kernel
theorem dX4_papersBetween_68 : decode cX4_papersBetween 68 = .ok (.getfield 150, 3) := by decide +kernel
theorem dX4_papersBetween_71 : decode cX4_papersBetween 71 = .ok (.iload_n 1, 1) := by decide +kernel
theorem dX4_papersBetween_72 : decode cX4_papersBetween 72 = .ok (.iaload, 1) := by decide +kernel
theorem dX4_papersBetween_73 : decode cX4_papersBetween 73 = .ok (.iadd, 1) := by decide +kernel
theorem dX4_papersBetween_74 : decode cX4_papersBetween 74 = .ok (.if_icmp .ge 10, 3) := by decide +kernel
theorem dX4_papersBetween_77 : decode cX4_papersBetween 77 = .ok (.iload_n 3, 1) := by decide +kernel
theorem dX4_papersBetween_78 : decode cX4_papersBetween 78 = .ok (.iconst 1, 1) := by decide +kernel
theorem dX4_papersBetween_79 : decode cX4_papersBetween 79 = .ok (.iload 4, 2) := by decide +kernel
theorem dX4_papersBetween_81 : decode cX4_papersBetween 81 = .ok (.ishl, 1) := by decide +kernel
theorem dX4_papersBetween_82 : decode cX4_papersBetween 82 = .ok (.ior, 1) := by decide +kernel
theorem dX4_papersBetween_83 : decode cX4_papersBetween 83 = .ok (.istore_n 3, 1) := by decide +kernel
theorem dX4_papersBetween_84 : decode cX4_papersBetween 84 = .ok (.iinc 4 1, 3) := by decide +kernel
theorem dX4_papersBetween_87 : decode cX4_papersBetween 87 = .ok (.goto (-82), 3) := by decide +kernel
theorem dX4_papersBetween_90 : decode cX4_papersBetween 90 = .ok (.iload_n 3, 1) := by decide +kernel
theorem dX4_papersBetween_91 : decode cX4_papersBetween 91 = .ok (.ireturn, 1) := by decide +kernel
theorem dX4_startCell_0 : decode cX4_startCell 0 = .ok (.iconst 0, 1) := by decide +kernel
theorem dX4_startCell_1 : decode cX4_startCell 1 = .ok (.aload_n 0, 1) := by decide +kernel
theorem dX4_startCell_2 : decode cX4_startCell 2 = .ok (.getfield 37, 3) := by decide +kernel
theorem dX4_startCell_5 : decode cX4_startCell 5 = .ok (.getfield 263, 3) := by decide +kernel
theorem dX4_startCell_8 : decode cX4_startCell 8 = .ok (.iconst 0, 1) := by decide +kernel
theorem dX4_startCell_9 : decode cX4_startCell 9 = .ok (.aload_n 0, 1) := by decide +kernel
theorem dX4_startCell_10 : decode cX4_startCell 10 = .ok (.iconst 0, 1) := by decide +kernel
theorem dX4_startCell_11 : decode cX4_startCell 11 = .ok (.aload_n 0, 1) := by decide +kernel
theorem dX4_startCell_12 : decode cX4_startCell 12 = .ok (.getfield 37, 3) := by decide +kernel
theorem dX4_startCell_15 : decode cX4_startCell 15 = .ok (.getfield 263, 3) := by decide +kernel
theorem dX4_startCell_18 : decode cX4_startCell 18 = .ok (.invokevirtual 243, 3) := by decide +kernel
theorem dX4_startCell_21 : decode cX4_startCell 21 = .ok (.invokestatic 191, 3) := by decide +kernel
theorem dX4_startCell_24 : decode cX4_startCell 24 = .ok (.ireturn, 1) := by decide +kernel
theorem dX4_valueAtStart_0 : decode cX4_valueAtStart 0 = .ok (.aload_n 0, 1) := by decide +kernel
theorem dX4_valueAtStart_1 : decode cX4_valueAtStart 1 = .ok (.getfield 41, 3) := by decide +kernel
theorem dX4_valueAtStart_4 : decode cX4_valueAtStart 4 = .ok (.iconst 0, 1) := by decide +kernel
theorem dX4_valueAtStart_5 : decode cX4_valueAtStart 5 = .ok (.aload_n 0, 1) := by decide +kernel
theorem dX4_valueAtStart_6 : decode cX4_valueAtStart 6 = .ok (.invokevirtual 107, 3) := by decide +kernel
theorem dX4_valueAtStart_9 : decode cX4_valueAtStart 9 = .ok (.invokestatic 124, 3) := by decide +kernel
theorem dX4_valueAtStart_12 : decode cX4_valueAtStart 12 = .ok (.iaload, 1) := by decide +kernel
theorem dX4_valueAtStart_13 : decode cX4_valueAtStart 13 = .ok (.ireturn, 1) := by decide +kernel
theorem dX4_cellOf_0 : decode cX4_cellOf 0 = .ok (.iload_n 0, 1) := by decide +kernel
theorem dX4_cellOf_1 : decode cX4_cellOf 1 = .ok (.sipush 256, 3) := by decide +kernel
theorem dX4_cellOf_4 : decode cX4_cellOf 4 = .ok (.imul, 1) := by decide +kernel
theorem dX4_cellOf_5 : decode cX4_cellOf 5 = .ok (.iload_n 1, 1) := by decide +kernel
theorem dX4_cellOf_6 : decode cX4_cellOf 6 = .ok (.bipush 32, 2) := by decide +kernel
theorem dX4_cellOf_8 : decode cX4_cellOf 8 = .ok (.imul, 1) := by decide +kernel
theorem dX4_cellOf_9 : decode cX4_cellOf 9 = .ok (.iadd, 1) := by decide +kernel
theorem dX4_cellOf_10 : decode cX4_cellOf 10 = .ok (.iload_n 2, 1) := by decide +kernel
theorem dX4_cellOf_11 : decode cX4_cellOf 11 = .ok (.iconst 4, 1) := by decide +kernel
theorem dX4_cellOf_12 : decode cX4_cellOf 12 = .ok (.imul, 1) := by decide +kernel
theorem dX4_cellOf_13 : decode cX4_cellOf 13 = .ok (.iadd, 1) := by decide +kernel
theorem dX4_cellOf_14 : decode cX4_cellOf 14 = .ok (.iload_n 3, 1) := by decide +kernel
theorem dX4_cellOf_15 : decode cX4_cellOf 15 = .ok (.iadd, 1) := by decide +kernel
theorem dX4_cellOf_16 : decode cX4_cellOf 16 = .ok (.ireturn, 1) := by decide +kernel
theorem dX4_townOf_0 : decode cX4_townOf 0 = .ok (.iload_n 0, 1) := by decide +kernel
theorem dX4_townOf_1 : decode cX4_townOf 1 = .ok (.bipush 32, 2) := by decide +kernel
theorem dX4_townOf_3 : decode cX4_townOf 3 = .ok (.idiv, 1) := by decide +kernel
theorem dX4_townOf_4 : decode cX4_townOf 4 = .ok (.bipush 8, 2) := by decide +kernel
theorem dX4_townOf_6 : decode cX4_townOf 6 = .ok (.irem, 1) := by decide +kernel
theorem dX4_townOf_7 : decode cX4_townOf 7 = .ok (.ireturn, 1) := by decide +kernel
theorem dX4_stampsOf_0 : decode cX4_stampsOf 0 = .ok (.iload_n 0, 1) := by decide +kernel
theorem dX4_stampsOf_1 : decode cX4_stampsOf 1 = .ok (.bipush 32, 2) := by decide +kernel
theorem dX4_stampsOf_3 : decode cX4_stampsOf 3 = .ok (.irem, 1) := by decide +kernel
theorem dX4_stampsOf_4 : decode cX4_stampsOf 4 = .ok (.iconst 4, 1) := by decide +kernel
theorem dX4_stampsOf_5 : decode cX4_stampsOf 5 = .ok (.idiv, 1) := by decide +kernel
theorem dX4_stampsOf_6 : decode cX4_stampsOf 6 = .ok (.ireturn, 1) := by decide +kernel
theorem dX4_mostSlept_0 : decode cX4_mostSlept 0 = .ok (.iload_n 1, 1) := by decide +kernel
theorem dX4_mostSlept_1 : decode cX4_mostSlept 1 = .ok (.bipush 24, 2) := by decide +kernel
theorem dX4_mostSlept_3 : decode cX4_mostSlept 3 = .ok (.irem, 1) := by decide +kernel
theorem dX4_mostSlept_4 : decode cX4_mostSlept 4 = .ok (.istore_n 2, 1) := by decide +kernel
theorem dX4_mostSlept_5 : decode cX4_mostSlept 5 = .ok (.iload_n 2, 1) := by decide +kernel
theorem dX4_mostSlept_6 : decode cX4_mostSlept 6 = .ok (.bipush 8, 2) := by decide +kernel
theorem dX4_mostSlept_8 : decode cX4_mostSlept 8 = .ok (.if_icmp .ge 17, 3) := by decide +kernel
theorem dX4_mostSlept_11 : decode cX4_mostSlept 11 = .ok (.aload_n 0, 1) := by decide +kernel
theorem dX4_mostSlept_12 : decode cX4_mostSlept 12 = .ok (.getfield 37, 3) := by decide +kernel
theorem dX4_mostSlept_15 : decode cX4_mostSlept 15 = .ok (.getfield 240, 3) := by decide +kernel
theorem dX4_mostSlept_18 : decode cX4_mostSlept 18 = .ok (.iload_n 2, 1) := by decide +kernel
theorem dX4_mostSlept_19 : decode cX4_mostSlept 19 = .ok (.invokestatic 231, 3) := by decide +kernel
theorem dX4_mostSlept_22 : decode cX4_mostSlept 22 = .ok (.goto 4, 3) := by decide +kernel
theorem dX4_mostSlept_25 : decode cX4_mostSlept 25 = .ok (.iconst 0, 1) := by decide +kernel
theorem dX4_mostSlept_26 : decode cX4_mostSlept 26 = .ok (.ireturn, 1) := by decide +kernel
theorem dX4_index_0 : decode cX4_index 0 = .ok (.iload_n 0, 1) := by decide +kernel
theorem dX4_index_1 : decode cX4_index 1 = .ok (.bipush 24, 2) := by decide +kernel
theorem dX4_index_3 : decode cX4_index 3 = .ok (.irem, 1) := by decide +kernel
theorem dX4_index_4 : decode cX4_index 4 = .ok (.istore_n 2, 1) := by decide +kernel
theorem dX4_index_5 : decode cX4_index 5 = .ok (.iload_n 0, 1) := by decide +kernel
theorem dX4_index_6 : decode cX4_index 6 = .ok (.bipush 24, 2) := by decide +kernel
theorem dX4_index_8 : decode cX4_index 8 = .ok (.idiv, 1) := by decide +kernel
theorem dX4_index_9 : decode cX4_index 9 = .ok (.bipush 52, 2) := by decide +kernel
theorem dX4_index_11 : decode cX4_index 11 = .ok (.imul, 1) := by decide +kernel
theorem dX4_index_12 : decode cX4_index 12 = .ok (.iload_n 2, 1) := by decide +kernel
theorem dX4_index_13 : decode cX4_index 13 = .ok (.iadd, 1) := by decide +kernel
theorem dX4_index_14 : decode cX4_index 14 = .ok (.istore_n 3, 1) := by decide +kernel
theorem dX4_index_15 : decode cX4_index 15 = .ok (.iload_n 3, 1) := by decide +kernel
theorem dX4_index_16 : decode cX4_index 16 = .ok (.iconst 4, 1) := by decide +kernel
theorem dX4_index_17 : decode cX4_index 17 = .ok (.iconst 0, 1) := by decide +kernel
theorem dX4_index_18 : decode cX4_index 18 = .ok (.iload_n 2, 1) := by decide +kernel
theorem dX4_index_19 : decode cX4_index 19 = .ok (.bipush 8, 2) := by decide +kernel
theorem dX4_index_21 : decode cX4_index 21 = .ok (.invokestatic 231, 3) := by decide +kernel
theorem dX4_index_24 : decode cX4_index 24 = .ok (.iconst 1, 1) := by decide +kernel
theorem dX4_index_25 : decode cX4_index 25 = .ok (.isub, 1) := by decide +kernel
theorem dX4_index_26 : decode cX4_index 26 = .ok (.invokestatic 101, 3) := by decide +kernel
theorem dX4_index_29 : decode cX4_index 29 = .ok (.imul, 1) := by decide +kernel
theorem dX4_index_30 : decode cX4_index 30 = .ok (.iadd, 1) := by decide +kernel
theorem dX4_index_31 : decode cX4_index 31 = .ok (.istore_n 3, 1) := by decide +kernel
theorem dX4_index_32 : decode cX4_index 32 = .ok (.iload_n 3, 1) := by decide +kernel
theorem dX4_index_33 : decode cX4_index 33 = .ok (.sipush 256, 3) := by decide +kernel
theorem dX4_index_36 : decode cX4_index 36 = .ok (.imul, 1) := by decide +kernel
theorem dX4_index_37 : decode cX4_index 37 = .ok (.iload_n 1, 1) := by decide +kernel
theorem dX4_index_38 : decode cX4_index 38 = .ok (.iadd, 1) := by decide +kernel
theorem dX4_index_39 : decode cX4_index 39 = .ok (.ireturn, 1) := by decide +kernel
theorem dX5_init_0 : decode cX5_init 0 = .ok (.aload_n 0, 1) := by decide +kernel
theorem dX5_init_1 : decode cX5_init 1 = .ok (.invokespecial 3, 3) := by decide +kernel
theorem dX5_init_4 : decode cX5_init 4 = .ok (.aload_n 0, 1) := by decide +kernel
theorem dX5_init_5 : decode cX5_init 5 = .ok (.bipush 20, 2) := by decide +kernel
theorem dX5_init_7 : decode cX5_init 7 = .ok (.newarray .int, 2) := by decide +kernel
theorem dX5_init_9 : decode cX5_init 9 = .ok (.putfield 11, 3) := by decide +kernel
theorem dX5_init_12 : decode cX5_init 12 = .ok (.aload_n 0, 1) := by decide +kernel
theorem dX5_init_13 : decode cX5_init 13 = .ok (.bipush 20, 2) := by decide +kernel
theorem dX5_init_15 : decode cX5_init 15 = .ok (.newarray .int, 2) := by decide +kernel
theorem dX5_init_17 : decode cX5_init 17 = .ok (.putfield 15, 3) := by decide +kernel
end
section
theorem dX5_init_20 : decode cX5_init 20 = .ok (.aload_n 0, 1) := by decide +kernel
theorem dX5_init_21 : decode cX5_init 21 = .ok (.bipush 97, 2) := by decide +kernel
theorem dX5_init_23 : decode cX5_init 23 = .ok (.newarray .int, 2) := by decide +kernel
theorem dX5_init_25 : decode cX5_init 25 = .ok (.putfield 18, 3) := by decide +kernel
theorem dX5_init_28 : decode cX5_init 28 = .ok (.aload_n 0, 1) := by decide +kernel
theorem dX5_init_29 : decode cX5_init 29 = .ok (.bipush 97, 2) := by decide +kernel
theorem dX5_init_31 : decode cX5_init 31 = .ok (.newarray .boolean, 2) := by decide +kernel
theorem dX5_init_33 : decode cX5_init 33 = .ok (.putfield 21, 3) := by decide +kernel
theorem dX5_init_36 : decode cX5_init 36 = .ok (.aload_n 0, 1) := by decide +kernel
theorem dX5_init_37 : decode cX5_init 37 = .ok (.aload_n 1, 1) := by decide +kernel
theorem dX5_init_38 : decode cX5_init 38 = .ok (.putfield 25, 3) := by decide +kernel
theorem dX5_init_41 : decode cX5_init 41 = .ok (.return_, 1) := by decide +kernel
theorem dX5_add_0 : decode cX5_add 0 = .ok (.aload_n 0, 1) := by decide +kernel
theorem dX5_add_1 : decode cX5_add 1 = .ok (.getfield 29, 3) := by decide +kernel
theorem dX5_add_4 : decode cX5_add 4 = .ok (.bipush 20, 2) := by decide +kernel
theorem dX5_add_6 : decode cX5_add 6 = .ok (.if_icmp .lt 5, 3) := by decide +kernel
theorem dX5_add_9 : decode cX5_add 9 = .ok (.iconst (-1), 1) := by decide +kernel
theorem dX5_add_10 : decode cX5_add 10 = .ok (.ireturn, 1) := by decide +kernel
theorem dX5_add_11 : decode cX5_add 11 = .ok (.aload_n 0, 1) := by decide +kernel
theorem dX5_add_12 : decode cX5_add 12 = .ok (.getfield 11, 3) := by decide +kernel
theorem dX5_add_15 : decode cX5_add 15 = .ok (.aload_n 0, 1) := by decide +kernel
theorem dX5_add_16 : decode cX5_add 16 = .ok (.getfield 29, 3) := by decide +kernel
theorem dX5_add_19 : decode cX5_add 19 = .ok (.iload_n 1, 1) := by decide +kernel
theorem dX5_add_20 : decode cX5_add 20 = .ok (.iastore, 1) := by decide +kernel
theorem dX5_add_21 : decode cX5_add 21 = .ok (.aload_n 0, 1) := by decide +kernel
theorem dX5_add_22 : decode cX5_add 22 = .ok (.getfield 15, 3) := by decide +kernel
theorem dX5_add_25 : decode cX5_add 25 = .ok (.aload_n 0, 1) := by decide +kernel
theorem dX5_add_26 : decode cX5_add 26 = .ok (.getfield 29, 3) := by decide +kernel
theorem dX5_add_29 : decode cX5_add 29 = .ok (.iload_n 2, 1) := by decide +kernel
theorem dX5_add_30 : decode cX5_add 30 = .ok (.iastore, 1) := by decide +kernel
theorem dX5_add_31 : decode cX5_add 31 = .ok (.aload_n 0, 1) := by decide +kernel
theorem dX5_add_32 : decode cX5_add 32 = .ok (.dup, 1) := by decide +kernel
theorem dX5_add_33 : decode cX5_add 33 = .ok (.getfield 29, 3) := by decide +kernel
theorem dX5_add_36 : decode cX5_add 36 = .ok (.iconst 1, 1) := by decide +kernel
theorem dX5_add_37 : decode cX5_add 37 = .ok (.iadd, 1) := by decide +kernel
theorem dX5_add_38 : decode cX5_add 38 = .ok (.putfield 29, 3) := by decide +kernel
theorem dX5_add_41 : decode cX5_add 41 = .ok (.aload_n 0, 1) := by decide +kernel
theorem dX5_add_42 : decode cX5_add 42 = .ok (.getfield 29, 3) := by decide +kernel
theorem dX5_add_45 : decode cX5_add 45 = .ok (.ireturn, 1) := by decide +kernel
theorem dX5_barOf_0 : decode cX5_barOf 0 = .ok (.aload_n 0, 1) := by decide +kernel
theorem dX5_barOf_1 : decode cX5_barOf 1 = .ok (.aload_n 1, 1) := by decide +kernel
theorem dX5_barOf_2 : decode cX5_barOf 2 = .ok (.invokevirtual 33, 3) := by decide +kernel
theorem dX5_barOf_5 : decode cX5_barOf 5 = .ok (.istore_n 2, 1) := by decide +kernel
theorem dX5_barOf_6 : decode cX5_barOf 6 = .ok (.iload_n 2, 1) := by decide +kernel
theorem dX5_barOf_7 : decode cX5_barOf 7 = .ok (.iconst (-1), 1) := by decide +kernel
theorem dX5_barOf_8 : decode cX5_barOf 8 = .ok (.if_icmp .eq 8, 3) := by decide +kernel
theorem dX5_barOf_11 : decode cX5_barOf 11 = .ok (.bipush 100, 2) := by decide +kernel
theorem dX5_barOf_13 : decode cX5_barOf 13 = .ok (.iload_n 2, 1) := by decide +kernel
theorem dX5_barOf_14 : decode cX5_barOf 14 = .ok (.iadd, 1) := by decide +kernel
theorem dX5_barOf_15 : decode cX5_barOf 15 = .ok (.ireturn, 1) := by decide +kernel
theorem dX5_barOf_16 : decode cX5_barOf 16 = .ok (.aload_n 0, 1) := by decide +kernel
theorem dX5_barOf_17 : decode cX5_barOf 17 = .ok (.aload_n 1, 1) := by decide +kernel
theorem dX5_barOf_18 : decode cX5_barOf 18 = .ok (.invokevirtual 37, 3) := by decide +kernel
theorem dX5_barOf_21 : decode cX5_barOf 21 = .ok (.istore_n 2, 1) := by decide +kernel
theorem dX5_barOf_22 : decode cX5_barOf 22 = .ok (.iload_n 2, 1) := by decide +kernel
theorem dX5_barOf_23 : decode cX5_barOf 23 = .ok (.iconst (-1), 1) := by decide +kernel
theorem dX5_barOf_24 : decode cX5_barOf 24 = .ok (.if_icmp .eq 9, 3) := by decide +kernel
theorem dX5_barOf_27 : decode cX5_barOf 27 = .ok (.sipush 200, 3) := by decide +kernel
theorem dX5_barOf_30 : decode cX5_barOf 30 = .ok (.iload_n 2, 1) := by decide +kernel
theorem dX5_barOf_31 : decode cX5_barOf 31 = .ok (.iadd, 1) := by decide +kernel
theorem dX5_barOf_32 : decode cX5_barOf 32 = .ok (.ireturn, 1) := by decide +kernel
theorem dX5_barOf_33 : decode cX5_barOf 33 = .ok (.aload_n 0, 1) := by decide +kernel
theorem dX5_barOf_34 : decode cX5_barOf 34 = .ok (.aload_n 1, 1) := by decide +kernel
theorem dX5_barOf_35 : decode cX5_barOf 35 = .ok (.invokevirtual 40, 3) := by decide +kernel
theorem dX5_barOf_38 : decode cX5_barOf 38 = .ok (.istore_n 2, 1) := by decide +kernel
theorem dX5_barOf_39 : decode cX5_barOf 39 = .ok (.iload_n 2, 1) := by decide +kernel
theorem dX5_barOf_40 : decode cX5_barOf 40 = .ok (.iconst (-1), 1) := by decide +kernel
theorem dX5_barOf_41 : decode cX5_barOf 41 = .ok (.if_icmp .eq 9, 3) := by decide +kernel
theorem dX5_barOf_44 : decode cX5_barOf 44 = .ok (.sipush 300, 3) := by decide +kernel
theorem dX5_barOf_47 : decode cX5_barOf 47 = .ok (.iload_n 2, 1) := by decide +kernel
theorem dX5_barOf_48 : decode cX5_barOf 48 = .ok (.iadd, 1) := by decide +kernel
theorem dX5_barOf_49 : decode cX5_barOf 49 = .ok (.ireturn, 1) := by decide +kernel
theorem dX5_barOf_50 : decode cX5_barOf 50 = .ok (.aload_n 0, 1) := by decide +kernel
theorem dX5_barOf_51 : decode cX5_barOf 51 = .ok (.aload_n 1, 1) := by decide +kernel
theorem dX5_barOf_52 : decode cX5_barOf 52 = .ok (.invokevirtual 43, 3) := by decide +kernel
theorem dX5_barOf_55 : decode cX5_barOf 55 = .ok (.istore_n 2, 1) := by decide +kernel
theorem dX5_barOf_56 : decode cX5_barOf 56 = .ok (.iload_n 2, 1) := by decide +kernel
theorem dX5_barOf_57 : decode cX5_barOf 57 = .ok (.iconst (-1), 1) := by decide +kernel
theorem dX5_barOf_58 : decode cX5_barOf 58 = .ok (.if_icmp .eq 9, 3) := by decide +kernel
theorem dX5_barOf_61 : decode cX5_barOf 61 = .ok (.sipush 400, 3) := by decide +kernel
theorem dX5_barOf_64 : decode cX5_barOf 64 = .ok (.iload_n 2, 1) := by decide +kernel
theorem dX5_barOf_65 : decode cX5_barOf 65 = .ok (.iadd, 1) := by decide +kernel
theorem dX5_barOf_66 : decode cX5_barOf 66 = .ok (.ireturn, 1) := by decide +kernel
theorem dX5_barOf_67 : decode cX5_barOf 67 = .ok (.aload_n 0, 1) := by decide +kernel
theorem dX5_barOf_68 : decode cX5_barOf 68 = .ok (.aload_n 1, 1) := by decide +kernel
theorem dX5_barOf_69 : decode cX5_barOf 69 = .ok (.invokevirtual 46, 3) := by decide +kernel
theorem dX5_barOf_72 : decode cX5_barOf 72 = .ok (.istore_n 2, 1) := by decide +kernel
theorem dX5_barOf_73 : decode cX5_barOf 73 = .ok (.iload_n 2, 1) := by decide +kernel
theorem dX5_barOf_74 : decode cX5_barOf 74 = .ok (.iconst (-1), 1) := by decide +kernel
theorem dX5_barOf_75 : decode cX5_barOf 75 = .ok (.if_icmp .ne 7, 3) := by decide +kernel
theorem dX5_barOf_78 : decode cX5_barOf 78 = .ok (.iconst 0, 1) := by decide +kernel
theorem dX5_barOf_79 : decode cX5_barOf 79 = .ok (.goto 8, 3) := by decide +kernel
theorem dX5_barOf_82 : decode cX5_barOf 82 = .ok (.sipush 500, 3) := by decide +kernel
theorem dX5_barOf_85 : decode cX5_barOf 85 = .ok (.iload_n 2, 1) := by decide +kernel
theorem dX5_barOf_86 : decode cX5_barOf 86 = .ok (.iadd, 1) := by decide +kernel
theorem dX5_barOf_87 : decode cX5_barOf 87 = .ok (.ireturn, 1) := by decide +kernel
theorem dX5_wrongLeg_0 : decode cX5_wrongLeg 0 = .ok (.aload_n 1, 1) := by decide +kernel
theorem dX5_wrongLeg_1 : decode cX5_wrongLeg 1 = .ok (.getfield 49, 3) := by decide +kernel
theorem dX5_wrongLeg_4 : decode cX5_wrongLeg 4 = .ok (.istore_n 2, 1) := by decide +kernel
theorem dX5_wrongLeg_5 : decode cX5_wrongLeg 5 = .ok (.iconst 0, 1) := by decide +kernel
theorem dX5_wrongLeg_6 : decode cX5_wrongLeg 6 = .ok (.istore_n 3, 1) := by decide +kernel
theorem dX5_wrongLeg_7 : decode cX5_wrongLeg 7 = .ok (.iconst 0, 1) := by decide +kernel
theorem dX5_wrongLeg_8 : decode cX5_wrongLeg 8 = .ok (.istore 4, 2) := by decide +kernel
theorem dX5_wrongLeg_10 : decode cX5_wrongLeg 10 = .ok (.iload 4, 2) := by decide +kernel
theorem dX5_wrongLeg_12 : decode cX5_wrongLeg 12 = .ok (.aload_n 0, 1) := by decide +kernel
theorem dX5_wrongLeg_13 : decode cX5_wrongLeg 13 = .ok (.getfield 29, 3) := by decide +kernel
theorem dX5_wrongLeg_16 : decode cX5_wrongLeg 16 = .ok (.if_icmp .ge 153, 3) := by decide +kernel
theorem dX5_wrongLeg_19 : decode cX5_wrongLeg 19 = .ok (.aload_n 0, 1) := by decide +kernel
theorem dX5_wrongLeg_20 : decode cX5_wrongLeg 20 = .ok (.getfield 11, 3) := by decide +kernel
theorem dX5_wrongLeg_23 : decode cX5_wrongLeg 23 = .ok (.iload 4, 2) := by decide +kernel
theorem dX5_wrongLeg_25 : decode cX5_wrongLeg 25 = .ok (.iaload, 1) := by decide +kernel
theorem dX5_wrongLeg_26 : decode cX5_wrongLeg 26 = .ok (.istore 5, 2) := by decide +kernel
theorem dX5_wrongLeg_28 : decode cX5_wrongLeg 28 = .ok (.aload_n 0, 1) := by decide +kernel
theorem dX5_wrongLeg_29 : decode cX5_wrongLeg 29 = .ok (.getfield 15, 3) := by decide +kernel
theorem dX5_wrongLeg_32 : decode cX5_wrongLeg 32 = .ok (.iload 4, 2) := by decide +kernel
theorem dX5_wrongLeg_34 : decode cX5_wrongLeg 34 = .ok (.iaload, 1) := by decide +kernel
theorem dX5_wrongLeg_35 : decode cX5_wrongLeg 35 = .ok (.istore 6, 2) := by decide +kernel
theorem dX5_wrongLeg_37 : decode cX5_wrongLeg 37 = .ok (.iload 6, 2) := by decide +kernel
theorem dX5_wrongLeg_39 : decode cX5_wrongLeg 39 = .ok (.aload_n 0, 1) := by decide +kernel
theorem dX5_wrongLeg_40 : decode cX5_wrongLeg 40 = .ok (.getfield 25, 3) := by decide +kernel
theorem dX5_wrongLeg_43 : decode cX5_wrongLeg 43 = .ok (.getfield 54, 3) := by decide +kernel
theorem dX5_wrongLeg_46 : decode cX5_wrongLeg 46 = .ok (.iload 5, 2) := by decide +kernel
theorem dX5_wrongLeg_48 : decode cX5_wrongLeg 48 = .ok (.iaload, 1) := by decide +kernel
theorem dX5_wrongLeg_49 : decode cX5_wrongLeg 49 = .ok (.iadd, 1) := by decide +kernel
theorem dX5_wrongLeg_50 : decode cX5_wrongLeg 50 = .ok (.istore 7, 2) := by decide +kernel
theorem dX5_wrongLeg_52 : decode cX5_wrongLeg 52 = .ok (.iload 6, 2) := by decide +kernel
theorem dX5_wrongLeg_54 : decode cX5_wrongLeg 54 = .ok (.iload_n 3, 1) := by decide +kernel
theorem dX5_wrongLeg_55 : decode cX5_wrongLeg 55 = .ok (.if_icmp .lt 40, 3) := by decide +kernel
theorem dX5_wrongLeg_58 : decode cX5_wrongLeg 58 = .ok (.aload_n 0, 1) := by decide +kernel
theorem dX5_wrongLeg_59 : decode cX5_wrongLeg 59 = .ok (.getfield 25, 3) := by decide +kernel
theorem dX5_wrongLeg_62 : decode cX5_wrongLeg 62 = .ok (.getfield 59, 3) := by decide +kernel
theorem dX5_wrongLeg_65 : decode cX5_wrongLeg 65 = .ok (.iload 5, 2) := by decide +kernel
theorem dX5_wrongLeg_67 : decode cX5_wrongLeg 67 = .ok (.iaload, 1) := by decide +kernel
theorem dX5_wrongLeg_68 : decode cX5_wrongLeg 68 = .ok (.iload_n 2, 1) := by decide +kernel
theorem dX5_wrongLeg_69 : decode cX5_wrongLeg 69 = .ok (.if_icmp .ne 26, 3) := by decide +kernel
theorem dX5_wrongLeg_72 : decode cX5_wrongLeg 72 = .ok (.aload_n 0, 1) := by decide +kernel
theorem dX5_wrongLeg_73 : decode cX5_wrongLeg 73 = .ok (.getfield 25, 3) := by decide +kernel
theorem dX5_wrongLeg_76 : decode cX5_wrongLeg 76 = .ok (.iload 5, 2) := by decide +kernel
theorem dX5_wrongLeg_78 : decode cX5_wrongLeg 78 = .ok (.iload 6, 2) := by decide +kernel
theorem dX5_wrongLeg_80 : decode cX5_wrongLeg 80 = .ok (.invokevirtual 62, 3) := by decide +kernel
theorem dX5_wrongLeg_83 : decode cX5_wrongLeg 83 = .ok (.ifCond .eq 12, 3) := by decide +kernel
theorem dX5_wrongLeg_86 : decode cX5_wrongLeg 86 = .ok (.iload 7, 2) := by decide +kernel
theorem dX5_wrongLeg_88 : decode cX5_wrongLeg 88 = .ok (.aload_n 1, 1) := by decide +kernel
theorem dX5_wrongLeg_89 : decode cX5_wrongLeg 89 = .ok (.getfield 66, 3) := by decide +kernel
theorem dX5_wrongLeg_92 : decode cX5_wrongLeg 92 = .ok (.if_icmp .le 6, 3) := by decide +kernel
theorem dX5_wrongLeg_95 : decode cX5_wrongLeg 95 = .ok (.iload 4, 2) := by decide +kernel
theorem dX5_wrongLeg_97 : decode cX5_wrongLeg 97 = .ok (.ireturn, 1) := by decide +kernel
theorem dX5_wrongLeg_98 : decode cX5_wrongLeg 98 = .ok (.aload_n 0, 1) := by decide +kernel
theorem dX5_wrongLeg_99 : decode cX5_wrongLeg 99 = .ok (.iload_n 3, 1) := by decide +kernel
theorem dX5_wrongLeg_100 : decode cX5_wrongLeg 100 = .ok (.iload 6, 2) := by decide +kernel
theorem dX5_wrongLeg_102 : decode cX5_wrongLeg 102 = .ok (.iload_n 2, 1) := by decide +kernel
theorem dX5_wrongLeg_103 : decode cX5_wrongLeg 103 = .ok (.invokevirtual 69, 3) := by decide +kernel
theorem dX5_wrongLeg_106 : decode cX5_wrongLeg 106 = .ok (.aload_n 0, 1) := by decide +kernel
theorem dX5_wrongLeg_107 : decode cX5_wrongLeg 107 = .ok (.getfield 21, 3) := by decide +kernel
theorem dX5_wrongLeg_110 : decode cX5_wrongLeg 110 = .ok (.iload 6, 2) := by decide +kernel
theorem dX5_wrongLeg_112 : decode cX5_wrongLeg 112 = .ok (.iconst 0, 1) := by decide +kernel
theorem dX5_wrongLeg_113 : decode cX5_wrongLeg 113 = .ok (.bastore, 1) := by decide +kernel
theorem dX5_wrongLeg_114 : decode cX5_wrongLeg 114 = .ok (.iload 6, 2) := by decide +kernel
theorem dX5_wrongLeg_116 : decode cX5_wrongLeg 116 = .ok (.iconst 1, 1) := by decide +kernel
theorem dX5_wrongLeg_117 : decode cX5_wrongLeg 117 = .ok (.iadd, 1) := by decide +kernel
theorem dX5_wrongLeg_118 : decode cX5_wrongLeg 118 = .ok (.istore 8, 2) := by decide +kernel
theorem dX5_wrongLeg_120 : decode cX5_wrongLeg 120 = .ok (.iload 8, 2) := by decide +kernel
theorem dX5_wrongLeg_122 : decode cX5_wrongLeg 122 = .ok (.iload 7, 2) := by decide +kernel
theorem dX5_wrongLeg_124 : decode cX5_wrongLeg 124 = .ok (.if_icmp .ge 25, 3) := by decide +kernel
theorem dX5_wrongLeg_127 : decode cX5_wrongLeg 127 = .ok (.aload_n 0, 1) := by decide +kernel
theorem dX5_wrongLeg_128 : decode cX5_wrongLeg 128 = .ok (.getfield 18, 3) := by decide +kernel
theorem dX5_wrongLeg_131 : decode cX5_wrongLeg 131 = .ok (.iload 8, 2) := by decide +kernel
theorem dX5_wrongLeg_133 : decode cX5_wrongLeg 133 = .ok (.iconst (-1), 1) := by decide +kernel
theorem dX5_wrongLeg_134 : decode cX5_wrongLeg 134 = .ok (.iastore, 1) := by decide +kernel
theorem dX5_wrongLeg_135 : decode cX5_wrongLeg 135 = .ok (.aload_n 0, 1) := by decide +kernel
theorem dX5_wrongLeg_136 : decode cX5_wrongLeg 136 = .ok (.getfield 21, 3) := by decide +kernel
theorem dX5_wrongLeg_139 : decode cX5_wrongLeg 139 = .ok (.iload 8, 2) := by decide +kernel
theorem dX5_wrongLeg_141 : decode cX5_wrongLeg 141 = .ok (.iconst 0, 1) := by decide +kernel
theorem dX5_wrongLeg_142 : decode cX5_wrongLeg 142 = .ok (.bastore, 1) := by decide +kernel
theorem dX5_wrongLeg_143 : decode cX5_wrongLeg 143 = .ok (.iinc 8 1, 3) := by decide +kernel
theorem dX5_wrongLeg_146 : decode cX5_wrongLeg 146 = .ok (.goto (-26), 3) := by decide +kernel
theorem dX5_wrongLeg_149 : decode cX5_wrongLeg 149 = .ok (.aload_n 0, 1) := by decide +kernel
theorem dX5_wrongLeg_150 : decode cX5_wrongLeg 150 = .ok (.getfield 25, 3) := by decide +kernel
theorem dX5_wrongLeg_153 : decode cX5_wrongLeg 153 = .ok (.getfield 73, 3) := by decide +kernel
theorem dX5_wrongLeg_156 : decode cX5_wrongLeg 156 = .ok (.iload 5, 2) := by decide +kernel
theorem dX5_wrongLeg_158 : decode cX5_wrongLeg 158 = .ok (.iaload, 1) := by decide +kernel
theorem dX5_wrongLeg_159 : decode cX5_wrongLeg 159 = .ok (.istore_n 2, 1) := by decide +kernel
theorem dX5_wrongLeg_160 : decode cX5_wrongLeg 160 = .ok (.iload 7, 2) := by decide +kernel
theorem dX5_wrongLeg_162 : decode cX5_wrongLeg 162 = .ok (.istore_n 3, 1) := by decide +kernel
theorem dX5_wrongLeg_163 : decode cX5_wrongLeg 163 = .ok (.iinc 4 1, 3) := by decide +kernel
theorem dX5_wrongLeg_166 : decode cX5_wrongLeg 166 = .ok (.goto (-156), 3) := by decide +kernel
theorem dX5_wrongLeg_169 : decode cX5_wrongLeg 169 = .ok (.aload_n 0, 1) := by decide +kernel
theorem dX5_wrongLeg_170 : decode cX5_wrongLeg 170 = .ok (.iload_n 3, 1) := by decide +kernel
theorem dX5_wrongLeg_171 : decode cX5_wrongLeg 171 = .ok (.aload_n 1, 1) := by decide +kernel
theorem dX5_wrongLeg_172 : decode cX5_wrongLeg 172 = .ok (.getfield 66, 3) := by decide +kernel
theorem dX5_wrongLeg_175 : decode cX5_wrongLeg 175 = .ok (.iload_n 2, 1) := by decide +kernel
theorem dX5_wrongLeg_176 : decode cX5_wrongLeg 176 = .ok (.invokevirtual 69, 3) := by decide +kernel
theorem dX5_wrongLeg_179 : decode cX5_wrongLeg 179 = .ok (.iconst (-1), 1) := by decide +kernel
theorem dX5_wrongLeg_180 : decode cX5_wrongLeg 180 = .ok (.ireturn, 1) := by decide +kernel
theorem dX5_stay_0 : decode cX5_stay 0 = .ok (.iload_n 1, 1) := by decide +kernel
theorem dX5_stay_1 : decode cX5_stay 1 = .ok (.istore 4, 2) := by decide +kernel
theorem dX5_stay_3 : decode cX5_stay 3 = .ok (.iload 4, 2) := by decide +kernel
theorem dX5_stay_5 : decode cX5_stay 5 = .ok (.iload_n 2, 1) := by decide +kernel
theorem dX5_stay_6 : decode cX5_stay 6 = .ok (.if_icmp .gt 25, 3) := by decide +kernel
theorem dX5_stay_9 : decode cX5_stay 9 = .ok (.aload_n 0, 1) := by decide +kernel
theorem dX5_stay_10 : decode cX5_stay 10 = .ok (.getfield 18, 3) := by decide +kernel
theorem dX5_stay_13 : decode cX5_stay 13 = .ok (.iload 4, 2) := by decide +kernel
theorem dX5_stay_15 : decode cX5_stay 15 = .ok (.iload_n 3, 1) := by decide +kernel
theorem dX5_stay_16 : decode cX5_stay 16 = .ok (.iastore, 1) := by decide +kernel
theorem dX5_stay_17 : decode cX5_stay 17 = .ok (.aload_n 0, 1) := by decide +kernel
theorem dX5_stay_18 : decode cX5_stay 18 = .ok (.getfield 21, 3) := by decide +kernel
theorem dX5_stay_21 : decode cX5_stay 21 = .ok (.iload 4, 2) := by decide +kernel
theorem dX5_stay_23 : decode cX5_stay 23 = .ok (.iconst 1, 1) := by decide +kernel
theorem dX5_stay_24 : decode cX5_stay 24 = .ok (.bastore, 1) := by decide +kernel
theorem dX5_stay_25 : decode cX5_stay 25 = .ok (.iinc 4 1, 3) := by decide +kernel
theorem dX5_stay_28 : decode cX5_stay 28 = .ok (.goto (-25), 3) := by decide +kernel
theorem dX5_stay_31 : decode cX5_stay 31 = .ok (.return_, 1) := by decide +kernel
theorem dX5_sleeplessDay_0 : decode cX5_sleeplessDay 0 = .ok (.iconst 0, 1) := by decide +kernel
theorem dX5_sleeplessDay_1 : decode cX5_sleeplessDay 1 = .ok (.istore_n 2, 1) := by decide +kernel
theorem dX5_sleeplessDay_2 : decode cX5_sleeplessDay 2 = .ok (.iload_n 2, 1) := by decide +kernel
theorem dX5_sleeplessDay_3 : decode cX5_sleeplessDay 3 = .ok (.bipush 24, 2) := by decide +kernel
theorem dX5_sleeplessDay_5 : decode cX5_sleeplessDay 5 = .ok (.imul, 1) := by decide +kernel
theorem dX5_sleeplessDay_6 : decode cX5_sleeplessDay 6 = .ok (.bipush 8, 2) := by decide +kernel
theorem dX5_sleeplessDay_8 : decode cX5_sleeplessDay 8 = .ok (.iadd, 1) := by decide +kernel
theorem dX5_sleeplessDay_9 : decode cX5_sleeplessDay 9 = .ok (.aload_n 1, 1) := by decide +kernel
theorem dX5_sleeplessDay_10 : decode cX5_sleeplessDay 10 = .ok (.getfield 66, 3) := by decide +kernel
theorem dX5_sleeplessDay_13 : decode cX5_sleeplessDay 13 = .ok (.if_icmp .gt 55, 3) := by decide +kernel
theorem dX5_sleeplessDay_16 : decode cX5_sleeplessDay 16 = .ok (.iconst 0, 1) := by decide +kernel
theorem dX5_sleeplessDay_17 : decode cX5_sleeplessDay 17 = .ok (.istore_n 3, 1) := by decide +kernel
theorem dX5_sleeplessDay_18 : decode cX5_sleeplessDay 18 = .ok (.iconst 0, 1) := by decide +kernel
theorem dX5_sleeplessDay_19 : decode cX5_sleeplessDay 19 = .ok (.istore 4, 2) := by decide +kernel
theorem dX5_sleeplessDay_21 : decode cX5_sleeplessDay 21 = .ok (.iload 4, 2) := by decide +kernel
theorem dX5_sleeplessDay_23 : decode cX5_sleeplessDay 23 = .ok (.bipush 8, 2) := by decide +kernel
theorem dX5_sleeplessDay_25 : decode cX5_sleeplessDay 25 = .ok (.if_icmp .ge 27, 3) := by decide +kernel
theorem dX5_sleeplessDay_28 : decode cX5_sleeplessDay 28 = .ok (.aload_n 0, 1) := by decide +kernel
theorem dX5_sleeplessDay_29 : decode cX5_sleeplessDay 29 = .ok (.getfield 21, 3) := by decide +kernel
theorem dX5_sleeplessDay_32 : decode cX5_sleeplessDay 32 = .ok (.iload_n 2, 1) := by decide +kernel
theorem dX5_sleeplessDay_33 : decode cX5_sleeplessDay 33 = .ok (.bipush 24, 2) := by decide +kernel
theorem dX5_sleeplessDay_35 : decode cX5_sleeplessDay 35 = .ok (.imul, 1) := by decide +kernel
theorem dX5_sleeplessDay_36 : decode cX5_sleeplessDay 36 = .ok (.iload 4, 2) := by decide +kernel
theorem dX5_sleeplessDay_38 : decode cX5_sleeplessDay 38 = .ok (.iadd, 1) := by decide +kernel
theorem dX5_sleeplessDay_39 : decode cX5_sleeplessDay 39 = .ok (.baload, 1) := by decide +kernel
theorem dX5_sleeplessDay_40 : decode cX5_sleeplessDay 40 = .ok (.ifCond .eq 6, 3) := by decide +kernel
theorem dX5_sleeplessDay_43 : decode cX5_sleeplessDay 43 = .ok (.iinc 3 1, 3) := by decide +kernel
theorem dX5_sleeplessDay_46 : decode cX5_sleeplessDay 46 = .ok (.iinc 4 1, 3) := by decide +kernel
theorem dX5_sleeplessDay_49 : decode cX5_sleeplessDay 49 = .ok (.goto (-28), 3) := by decide +kernel
theorem dX5_sleeplessDay_52 : decode cX5_sleeplessDay 52 = .ok (.iload_n 3, 1) := by decide +kernel
theorem dX5_sleeplessDay_53 : decode cX5_sleeplessDay 53 = .ok (.aload_n 1, 1) := by decide +kernel
theorem dX5_sleeplessDay_54 : decode cX5_sleeplessDay 54 = .ok (.getfield 76, 3) := by decide +kernel
theorem dX5_sleeplessDay_57 : decode cX5_sleeplessDay 57 = .ok (.if_icmp .ge 5, 3) := by decide +kernel
theorem dX5_sleeplessDay_60 : decode cX5_sleeplessDay 60 = .ok (.iload_n 2, 1) := by decide +kernel
theorem dX5_sleeplessDay_61 : decode cX5_sleeplessDay 61 = .ok (.ireturn, 1) := by decide +kernel
theorem dX5_sleeplessDay_62 : decode cX5_sleeplessDay 62 = .ok (.iinc 2 1, 3) := by decide +kernel
theorem dX5_sleeplessDay_65 : decode cX5_sleeplessDay 65 = .ok (.goto (-63), 3) := by decide +kernel
theorem dX5_sleeplessDay_68 : decode cX5_sleeplessDay 68 = .ok (.iconst (-1), 1) := by decide +kernel
theorem dX5_sleeplessDay_69 : decode cX5_sleeplessDay 69 = .ok (.ireturn, 1) := by decide +kernel
theorem dX5_wrongStamp_0 : decode cX5_wrongStamp 0 = .ok (.iconst 0, 1) := by decide +kernel
theorem dX5_wrongStamp_1 : decode cX5_wrongStamp 1 = .ok (.istore_n 2, 1) := by decide +kernel
theorem dX5_wrongStamp_2 : decode cX5_wrongStamp 2 = .ok (.aload_n 1, 1) := by decide +kernel
theorem dX5_wrongStamp_3 : decode cX5_wrongStamp 3 = .ok (.iconst (-1), 1) := by decide +kernel
theorem dX5_wrongStamp_4 : decode cX5_wrongStamp 4 = .ok (.invokestatic 79, 3) := by decide +kernel
theorem dX5_wrongStamp_7 : decode cX5_wrongStamp 7 = .ok (.istore_n 3, 1) := by decide +kernel
theorem dX5_wrongStamp_8 : decode cX5_wrongStamp 8 = .ok (.iconst 0, 1) := by decide +kernel
theorem dX5_wrongStamp_9 : decode cX5_wrongStamp 9 = .ok (.istore 4, 2) := by decide +kernel
theorem dX5_wrongStamp_11 : decode cX5_wrongStamp 11 = .ok (.iload 4, 2) := by decide +kernel
theorem dX5_wrongStamp_13 : decode cX5_wrongStamp 13 = .ok (.aload_n 0, 1) := by decide +kernel
theorem dX5_wrongStamp_14 : decode cX5_wrongStamp 14 = .ok (.getfield 29, 3) := by decide +kernel
theorem dX5_wrongStamp_17 : decode cX5_wrongStamp 17 = .ok (.if_icmp .ge 168, 3) := by decide +kernel
theorem dX5_wrongStamp_20 : decode cX5_wrongStamp 20 = .ok (.aload_n 0, 1) := by decide +kernel
theorem dX5_wrongStamp_21 : decode cX5_wrongStamp 21 = .ok (.getfield 11, 3) := by decide +kernel
theorem dX5_wrongStamp_24 : decode cX5_wrongStamp 24 = .ok (.iload 4, 2) := by decide +kernel
theorem dX5_wrongStamp_26 : decode cX5_wrongStamp 26 = .ok (.iaload, 1) := by decide +kernel
theorem dX5_wrongStamp_27 : decode cX5_wrongStamp 27 = .ok (.istore 5, 2) := by decide +kernel
theorem dX5_wrongStamp_29 : decode cX5_wrongStamp 29 = .ok (.aload_n 0, 1) := by decide +kernel
theorem dX5_wrongStamp_30 : decode cX5_wrongStamp 30 = .ok (.getfield 15, 3) := by decide +kernel
theorem dX5_wrongStamp_33 : decode cX5_wrongStamp 33 = .ok (.iload 4, 2) := by decide +kernel
theorem dX5_wrongStamp_35 : decode cX5_wrongStamp 35 = .ok (.iaload, 1) := by decide +kernel
theorem dX5_wrongStamp_36 : decode cX5_wrongStamp 36 = .ok (.istore 6, 2) := by decide +kernel
theorem dX5_wrongStamp_38 : decode cX5_wrongStamp 38 = .ok (.iload 6, 2) := by decide +kernel
theorem dX5_wrongStamp_40 : decode cX5_wrongStamp 40 = .ok (.aload_n 0, 1) := by decide +kernel
theorem dX5_wrongStamp_41 : decode cX5_wrongStamp 41 = .ok (.getfield 25, 3) := by decide +kernel
theorem dX5_wrongStamp_44 : decode cX5_wrongStamp 44 = .ok (.getfield 54, 3) := by decide +kernel
theorem dX5_wrongStamp_47 : decode cX5_wrongStamp 47 = .ok (.iload 5, 2) := by decide +kernel
theorem dX5_wrongStamp_49 : decode cX5_wrongStamp 49 = .ok (.iaload, 1) := by decide +kernel
theorem dX5_wrongStamp_50 : decode cX5_wrongStamp 50 = .ok (.iadd, 1) := by decide +kernel
theorem dX5_wrongStamp_51 : decode cX5_wrongStamp 51 = .ok (.istore 7, 2) := by decide +kernel
theorem dX5_wrongStamp_53 : decode cX5_wrongStamp 53 = .ok (.aload_n 0, 1) := by decide +kernel
theorem dX5_wrongStamp_54 : decode cX5_wrongStamp 54 = .ok (.getfield 25, 3) := by decide +kernel
theorem dX5_wrongStamp_57 : decode cX5_wrongStamp 57 = .ok (.getfield 83, 3) := by decide +kernel
theorem dX5_wrongStamp_60 : decode cX5_wrongStamp 60 = .ok (.iload 5, 2) := by decide +kernel
theorem dX5_wrongStamp_62 : decode cX5_wrongStamp 62 = .ok (.iaload, 1) := by decide +kernel
theorem dX5_wrongStamp_63 : decode cX5_wrongStamp 63 = .ok (.iconst (-1), 1) := by decide +kernel
theorem dX5_wrongStamp_64 : decode cX5_wrongStamp 64 = .ok (.if_icmp .eq 52, 3) := by decide +kernel
theorem dX5_wrongStamp_67 : decode cX5_wrongStamp 67 = .ok (.aload_n 1, 1) := by decide +kernel
theorem dX5_wrongStamp_68 : decode cX5_wrongStamp 68 = .ok (.iload_n 3, 1) := by decide +kernel
theorem dX5_wrongStamp_69 : decode cX5_wrongStamp 69 = .ok (.aload_n 0, 1) := by decide +kernel
theorem dX5_wrongStamp_70 : decode cX5_wrongStamp 70 = .ok (.getfield 25, 3) := by decide +kernel
theorem dX5_wrongStamp_73 : decode cX5_wrongStamp 73 = .ok (.getfield 83, 3) := by decide +kernel
theorem dX5_wrongStamp_76 : decode cX5_wrongStamp 76 = .ok (.iload 5, 2) := by decide +kernel
theorem dX5_wrongStamp_78 : decode cX5_wrongStamp 78 = .ok (.iaload, 1) := by decide +kernel
theorem dX5_wrongStamp_79 : decode cX5_wrongStamp 79 = .ok (.iconst 1, 1) := by decide +kernel
theorem dX5_wrongStamp_80 : decode cX5_wrongStamp 80 = .ok (.aload_n 0, 1) := by decide +kernel
theorem dX5_wrongStamp_81 : decode cX5_wrongStamp 81 = .ok (.getfield 25, 3) := by decide +kernel
theorem dX5_wrongStamp_84 : decode cX5_wrongStamp 84 = .ok (.iload 6, 2) := by decide +kernel
theorem dX5_wrongStamp_86 : decode cX5_wrongStamp 86 = .ok (.aload_n 0, 1) := by decide +kernel
theorem dX5_wrongStamp_87 : decode cX5_wrongStamp 87 = .ok (.getfield 25, 3) := by decide +kernel
theorem dX5_wrongStamp_90 : decode cX5_wrongStamp 90 = .ok (.getfield 59, 3) := by decide +kernel
theorem dX5_wrongStamp_93 : decode cX5_wrongStamp 93 = .ok (.iload 5, 2) := by decide +kernel
theorem dX5_wrongStamp_95 : decode cX5_wrongStamp 95 = .ok (.iaload, 1) := by decide +kernel
theorem dX5_wrongStamp_96 : decode cX5_wrongStamp 96 = .ok (.invokevirtual 86, 3) := by decide +kernel
theorem dX5_wrongStamp_99 : decode cX5_wrongStamp 99 = .ok (.invokevirtual 90, 3) := by decide +kernel
theorem dX5_wrongStamp_102 : decode cX5_wrongStamp 102 = .ok (.ifCond .ne 5, 3) := by decide +kernel
theorem dX5_wrongStamp_105 : decode cX5_wrongStamp 105 = .ok (.iload_n 2, 1) := by decide +kernel
theorem dX5_wrongStamp_106 : decode cX5_wrongStamp 106 = .ok (.ireturn, 1) := by decide +kernel
theorem dX5_wrongStamp_107 : decode cX5_wrongStamp 107 = .ok (.iinc 2 1, 3) := by decide +kernel
theorem dX5_wrongStamp_110 : decode cX5_wrongStamp 110 = .ok (.aload_n 1, 1) := by decide +kernel
theorem dX5_wrongStamp_111 : decode cX5_wrongStamp 111 = .ok (.iload_n 3, 1) := by decide +kernel
theorem dX5_wrongStamp_112 : decode cX5_wrongStamp 112 = .ok (.invokestatic 79, 3) := by decide +kernel
theorem dX5_wrongStamp_115 : decode cX5_wrongStamp 115 = .ok (.istore_n 3, 1) := by decide +kernel
theorem dX5_wrongStamp_116 : decode cX5_wrongStamp 116 = .ok (.aload_n 0, 1) := by decide +kernel
theorem dX5_wrongStamp_117 : decode cX5_wrongStamp 117 = .ok (.getfield 25, 3) := by decide +kernel
theorem dX5_wrongStamp_120 : decode cX5_wrongStamp 120 = .ok (.getfield 94, 3) := by decide +kernel
theorem dX5_wrongStamp_123 : decode cX5_wrongStamp 123 = .ok (.iload 5, 2) := by decide +kernel
theorem dX5_wrongStamp_125 : decode cX5_wrongStamp 125 = .ok (.iaload, 1) := by decide +kernel
theorem dX5_wrongStamp_126 : decode cX5_wrongStamp 126 = .ok (.iconst (-1), 1) := by decide +kernel
theorem dX5_wrongStamp_127 : decode cX5_wrongStamp 127 = .ok (.if_icmp .eq 52, 3) := by decide +kernel
theorem dX5_wrongStamp_130 : decode cX5_wrongStamp 130 = .ok (.aload_n 1, 1) := by decide +kernel
theorem dX5_wrongStamp_131 : decode cX5_wrongStamp 131 = .ok (.iload_n 3, 1) := by decide +kernel
theorem dX5_wrongStamp_132 : decode cX5_wrongStamp 132 = .ok (.aload_n 0, 1) := by decide +kernel
theorem dX5_wrongStamp_133 : decode cX5_wrongStamp 133 = .ok (.getfield 25, 3) := by decide +kernel
theorem dX5_wrongStamp_136 : decode cX5_wrongStamp 136 = .ok (.getfield 94, 3) := by decide +kernel
theorem dX5_wrongStamp_139 : decode cX5_wrongStamp 139 = .ok (.iload 5, 2) := by decide +kernel
theorem dX5_wrongStamp_141 : decode cX5_wrongStamp 141 = .ok (.iaload, 1) := by decide +kernel
theorem dX5_wrongStamp_142 : decode cX5_wrongStamp 142 = .ok (.iconst 0, 1) := by decide +kernel
theorem dX5_wrongStamp_143 : decode cX5_wrongStamp 143 = .ok (.aload_n 0, 1) := by decide +kernel
theorem dX5_wrongStamp_144 : decode cX5_wrongStamp 144 = .ok (.getfield 25, 3) := by decide +kernel
theorem dX5_wrongStamp_147 : decode cX5_wrongStamp 147 = .ok (.iload 7, 2) := by decide +kernel
theorem dX5_wrongStamp_149 : decode cX5_wrongStamp 149 = .ok (.aload_n 0, 1) := by decide +kernel
theorem dX5_wrongStamp_150 : decode cX5_wrongStamp 150 = .ok (.getfield 25, 3) := by decide +kernel
theorem dX5_wrongStamp_153 : decode cX5_wrongStamp 153 = .ok (.getfield 73, 3) := by decide +kernel
theorem dX5_wrongStamp_156 : decode cX5_wrongStamp 156 = .ok (.iload 5, 2) := by decide +kernel
theorem dX5_wrongStamp_158 : decode cX5_wrongStamp 158 = .ok (.iaload, 1) := by decide +kernel
theorem dX5_wrongStamp_159 : decode cX5_wrongStamp 159 = .ok (.invokevirtual 86, 3) := by decide +kernel
theorem dX5_wrongStamp_162 : decode cX5_wrongStamp 162 = .ok (.invokevirtual 90, 3) := by decide +kernel
theorem dX5_wrongStamp_165 : decode cX5_wrongStamp 165 = .ok (.ifCond .ne 5, 3) := by decide +kernel
theorem dX5_wrongStamp_168 : decode cX5_wrongStamp 168 = .ok (.iload_n 2, 1) := by decide +kernel
theorem dX5_wrongStamp_169 : decode cX5_wrongStamp 169 = .ok (.ireturn, 1) := by decide +kernel
theorem dX5_wrongStamp_170 : decode cX5_wrongStamp 170 = .ok (.iinc 2 1, 3) := by decide +kernel
theorem dX5_wrongStamp_173 : decode cX5_wrongStamp 173 = .ok (.aload_n 1, 1) := by decide +kernel
theorem dX5_wrongStamp_174 : decode cX5_wrongStamp 174 = .ok (.iload_n 3, 1) := by decide +kernel
theorem dX5_wrongStamp_175 : decode cX5_wrongStamp 175 = .ok (.invokestatic 79, 3) := by decide +kernel
theorem dX5_wrongStamp_178 : decode cX5_wrongStamp 178 = .ok (.istore_n 3, 1) := by decide +kernel
theorem dX5_wrongStamp_179 : decode cX5_wrongStamp 179 = .ok (.iinc 4 1, 3) := by decide +kernel
theorem dX5_wrongStamp_182 : decode cX5_wrongStamp 182 = .ok (.goto (-171), 3) := by decide +kernel
theorem dX5_wrongStamp_185 : decode cX5_wrongStamp 185 = .ok (.iload_n 3, 1) := by decide +kernel
theorem dX5_wrongStamp_186 : decode cX5_wrongStamp 186 = .ok (.iconst (-1), 1) := by decide +kernel
theorem dX5_wrongStamp_187 : decode cX5_wrongStamp 187 = .ok (.if_icmp .ne 7, 3) := by decide +kernel
theorem dX5_wrongStamp_190 : decode cX5_wrongStamp 190 = .ok (.iconst (-1), 1) := by decide +kernel
theorem dX5_wrongStamp_191 : decode cX5_wrongStamp 191 = .ok (.goto 4, 3) := by decide +kernel
theorem dX5_wrongStamp_194 : decode cX5_wrongStamp 194 = .ok (.iload_n 2, 1) := by decide +kernel
theorem dX5_wrongStamp_195 : decode cX5_wrongStamp 195 = .ok (.ireturn, 1) := by decide +kernel
theorem dX5_stampBehind_0 : decode cX5_stampBehind 0 = .ok (.iload_n 1, 1) := by decide +kernel
theorem dX5_stampBehind_1 : decode cX5_stampBehind 1 = .ok (.iconst 1, 1) := by decide +kernel
theorem dX5_stampBehind_2 : decode cX5_stampBehind 2 = .ok (.iadd, 1) := by decide +kernel
theorem dX5_stampBehind_3 : decode cX5_stampBehind 3 = .ok (.istore_n 2, 1) := by decide +kernel
theorem dX5_stampBehind_4 : decode cX5_stampBehind 4 = .ok (.iload_n 2, 1) := by decide +kernel
theorem dX5_stampBehind_5 : decode cX5_stampBehind 5 = .ok (.aload_n 0, 1) := by decide +kernel
theorem dX5_stampBehind_6 : decode cX5_stampBehind 6 = .ok (.getfield 97, 3) := by decide +kernel
theorem dX5_stampBehind_9 : decode cX5_stampBehind 9 = .ok (.if_icmp .ge 20, 3) := by decide +kernel
theorem dX5_stampBehind_12 : decode cX5_stampBehind 12 = .ok (.aload_n 0, 1) := by decide +kernel
theorem dX5_stampBehind_13 : decode cX5_stampBehind 13 = .ok (.iload_n 2, 1) := by decide +kernel
theorem dX5_stampBehind_14 : decode cX5_stampBehind 14 = .ok (.iconst 0, 1) := by decide +kernel
theorem dX5_stampBehind_15 : decode cX5_stampBehind 15 = .ok (.invokevirtual 98, 3) := by decide +kernel
theorem dX5_stampBehind_18 : decode cX5_stampBehind 18 = .ok (.ifCond .eq 5, 3) := by decide +kernel
theorem dX5_stampBehind_21 : decode cX5_stampBehind 21 = .ok (.iload_n 2, 1) := by decide +kernel
theorem dX5_stampBehind_22 : decode cX5_stampBehind 22 = .ok (.ireturn, 1) := by decide +kernel
theorem dX5_stampBehind_23 : decode cX5_stampBehind 23 = .ok (.iinc 2 1, 3) := by decide +kernel
theorem dX5_stampBehind_26 : decode cX5_stampBehind 26 = .ok (.goto (-22), 3) := by decide +kernel
theorem dX5_stampBehind_29 : decode cX5_stampBehind 29 = .ok (.iconst (-1), 1) := by decide +kernel
theorem dX5_stampBehind_30 : decode cX5_stampBehind 30 = .ok (.ireturn, 1) := by decide +kernel
theorem dX5_missedPaper_0 : decode cX5_missedPaper 0 = .ok (.iconst 0, 1) := by decide +kernel
theorem dX5_missedPaper_1 : decode cX5_missedPaper 1 = .ok (.istore_n 2, 1) := by decide +kernel
theorem dX5_missedPaper_2 : decode cX5_missedPaper 2 = .ok (.iload_n 2, 1) := by decide +kernel
theorem dX5_missedPaper_3 : decode cX5_missedPaper 3 = .ok (.aload_n 1, 1) := by decide +kernel
theorem dX5_missedPaper_4 : decode cX5_missedPaper 4 = .ok (.getfield 97, 3) := by decide +kernel
theorem dX5_missedPaper_7 : decode cX5_missedPaper 7 = .ok (.if_icmp .ge 53, 3) := by decide +kernel
theorem dX5_missedPaper_10 : decode cX5_missedPaper 10 = .ok (.aload_n 1, 1) := by decide +kernel
theorem dX5_missedPaper_11 : decode cX5_missedPaper 11 = .ok (.iload_n 2, 1) := by decide +kernel
theorem dX5_missedPaper_12 : decode cX5_missedPaper 12 = .ok (.iconst 1, 1) := by decide +kernel
theorem dX5_missedPaper_13 : decode cX5_missedPaper 13 = .ok (.invokevirtual 98, 3) := by decide +kernel
theorem dX5_missedPaper_16 : decode cX5_missedPaper 16 = .ok (.ifCond .eq 38, 3) := by decide +kernel
theorem dX5_missedPaper_19 : decode cX5_missedPaper 19 = .ok (.aload_n 1, 1) := by decide +kernel
theorem dX5_missedPaper_20 : decode cX5_missedPaper 20 = .ok (.getfield 101, 3) := by decide +kernel
theorem dX5_missedPaper_23 : decode cX5_missedPaper 23 = .ok (.iload_n 2, 1) := by decide +kernel
theorem dX5_missedPaper_24 : decode cX5_missedPaper 24 = .ok (.iaload, 1) := by decide +kernel
theorem dX5_missedPaper_25 : decode cX5_missedPaper 25 = .ok (.aload_n 1, 1) := by decide +kernel
theorem dX5_missedPaper_26 : decode cX5_missedPaper 26 = .ok (.getfield 66, 3) := by decide +kernel
theorem dX5_missedPaper_29 : decode cX5_missedPaper 29 = .ok (.if_icmp .gt 25, 3) := by decide +kernel
theorem dX5_missedPaper_32 : decode cX5_missedPaper 32 = .ok (.aload_n 0, 1) := by decide +kernel
theorem dX5_missedPaper_33 : decode cX5_missedPaper 33 = .ok (.getfield 18, 3) := by decide +kernel
theorem dX5_missedPaper_36 : decode cX5_missedPaper 36 = .ok (.aload_n 1, 1) := by decide +kernel
theorem dX5_missedPaper_37 : decode cX5_missedPaper 37 = .ok (.getfield 101, 3) := by decide +kernel
theorem dX5_missedPaper_40 : decode cX5_missedPaper 40 = .ok (.iload_n 2, 1) := by decide +kernel
theorem dX5_missedPaper_41 : decode cX5_missedPaper 41 = .ok (.iaload, 1) := by decide +kernel
theorem dX5_missedPaper_42 : decode cX5_missedPaper 42 = .ok (.iaload, 1) := by decide +kernel
theorem dX5_missedPaper_43 : decode cX5_missedPaper 43 = .ok (.aload_n 1, 1) := by decide +kernel
theorem dX5_missedPaper_44 : decode cX5_missedPaper 44 = .ok (.getfield 102, 3) := by decide +kernel
theorem dX5_missedPaper_47 : decode cX5_missedPaper 47 = .ok (.iload_n 2, 1) := by decide +kernel
theorem dX5_missedPaper_48 : decode cX5_missedPaper 48 = .ok (.iaload, 1) := by decide +kernel
theorem dX5_missedPaper_49 : decode cX5_missedPaper 49 = .ok (.if_icmp .eq 5, 3) := by decide +kernel
theorem dX5_missedPaper_52 : decode cX5_missedPaper 52 = .ok (.iload_n 2, 1) := by decide +kernel
theorem dX5_missedPaper_53 : decode cX5_missedPaper 53 = .ok (.ireturn, 1) := by decide +kernel
theorem dX5_missedPaper_54 : decode cX5_missedPaper 54 = .ok (.iinc 2 1, 3) := by decide +kernel
theorem dX5_missedPaper_57 : decode cX5_missedPaper 57 = .ok (.goto (-55), 3) := by decide +kernel
theorem dX5_missedPaper_60 : decode cX5_missedPaper 60 = .ok (.iconst (-1), 1) := by decide +kernel
theorem dX5_missedPaper_61 : decode cX5_missedPaper 61 = .ok (.ireturn, 1) := by decide +kernel
theorem dX5_missedLook_0 : decode cX5_missedLook 0 = .ok (.iconst 0, 1) := by decide +kernel
theorem dX5_missedLook_1 : decode cX5_missedLook 1 = .ok (.istore_n 2, 1) := by decide +kernel
theorem dX5_missedLook_2 : decode cX5_missedLook 2 = .ok (.iload_n 2, 1) := by decide +kernel
theorem dX5_missedLook_3 : decode cX5_missedLook 3 = .ok (.aload_n 1, 1) := by decide +kernel
theorem dX5_missedLook_4 : decode cX5_missedLook 4 = .ok (.getfield 97, 3) := by decide +kernel
theorem dX5_missedLook_7 : decode cX5_missedLook 7 = .ok (.if_icmp .ge 29, 3) := by decide +kernel
theorem dX5_missedLook_10 : decode cX5_missedLook 10 = .ok (.aload_n 1, 1) := by decide +kernel
theorem dX5_missedLook_11 : decode cX5_missedLook 11 = .ok (.iload_n 2, 1) := by decide +kernel
theorem dX5_missedLook_12 : decode cX5_missedLook 12 = .ok (.iconst 2, 1) := by decide +kernel
theorem dX5_missedLook_13 : decode cX5_missedLook 13 = .ok (.invokevirtual 98, 3) := by decide +kernel
theorem dX5_missedLook_16 : decode cX5_missedLook 16 = .ok (.ifCond .eq 14, 3) := by decide +kernel
theorem dX5_missedLook_19 : decode cX5_missedLook 19 = .ok (.aload_n 0, 1) := by decide +kernel
theorem dX5_missedLook_20 : decode cX5_missedLook 20 = .ok (.aload_n 1, 1) := by decide +kernel
theorem dX5_missedLook_21 : decode cX5_missedLook 21 = .ok (.iload_n 2, 1) := by decide +kernel
theorem dX5_missedLook_22 : decode cX5_missedLook 22 = .ok (.invokevirtual 105, 3) := by decide +kernel
theorem dX5_missedLook_25 : decode cX5_missedLook 25 = .ok (.ifCond .ne 5, 3) := by decide +kernel
theorem dX5_missedLook_28 : decode cX5_missedLook 28 = .ok (.iload_n 2, 1) := by decide +kernel
theorem dX5_missedLook_29 : decode cX5_missedLook 29 = .ok (.ireturn, 1) := by decide +kernel
theorem dX5_missedLook_30 : decode cX5_missedLook 30 = .ok (.iinc 2 1, 3) := by decide +kernel
theorem dX5_missedLook_33 : decode cX5_missedLook 33 = .ok (.goto (-31), 3) := by decide +kernel
theorem dX5_missedLook_36 : decode cX5_missedLook 36 = .ok (.iconst (-1), 1) := by decide +kernel
theorem dX5_missedLook_37 : decode cX5_missedLook 37 = .ok (.ireturn, 1) := by decide +kernel
theorem dX5_isSeen_0 : decode cX5_isSeen 0 = .ok (.aload_n 1, 1) := by decide +kernel
theorem dX5_isSeen_1 : decode cX5_isSeen 1 = .ok (.getfield 109, 3) := by decide +kernel
theorem dX5_isSeen_4 : decode cX5_isSeen 4 = .ok (.iload_n 2, 1) := by decide +kernel
theorem dX5_isSeen_5 : decode cX5_isSeen 5 = .ok (.iaload, 1) := by decide +kernel
theorem dX5_isSeen_6 : decode cX5_isSeen 6 = .ok (.aload_n 1, 1) := by decide +kernel
theorem dX5_isSeen_7 : decode cX5_isSeen 7 = .ok (.getfield 66, 3) := by decide +kernel
theorem dX5_isSeen_10 : decode cX5_isSeen 10 = .ok (.invokestatic 110, 3) := by decide +kernel
theorem dX5_isSeen_13 : decode cX5_isSeen 13 = .ok (.istore_n 3, 1) := by decide +kernel
theorem dX5_isSeen_14 : decode cX5_isSeen 14 = .ok (.aload_n 1, 1) := by decide +kernel
theorem dX5_isSeen_15 : decode cX5_isSeen 15 = .ok (.getfield 101, 3) := by decide +kernel
theorem dX5_isSeen_18 : decode cX5_isSeen 18 = .ok (.iload_n 2, 1) := by decide +kernel
theorem dX5_isSeen_19 : decode cX5_isSeen 19 = .ok (.iaload, 1) := by decide +kernel
theorem dX5_isSeen_20 : decode cX5_isSeen 20 = .ok (.istore 4, 2) := by decide +kernel
theorem dX5_isSeen_22 : decode cX5_isSeen 22 = .ok (.iload 4, 2) := by decide +kernel
theorem dX5_isSeen_24 : decode cX5_isSeen 24 = .ok (.iload_n 3, 1) := by decide +kernel
theorem dX5_isSeen_25 : decode cX5_isSeen 25 = .ok (.if_icmp .gt 27, 3) := by decide +kernel
theorem dX5_isSeen_28 : decode cX5_isSeen 28 = .ok (.aload_n 0, 1) := by decide +kernel
theorem dX5_isSeen_29 : decode cX5_isSeen 29 = .ok (.getfield 18, 3) := by decide +kernel
theorem dX5_isSeen_32 : decode cX5_isSeen 32 = .ok (.iload 4, 2) := by decide +kernel
theorem dX5_isSeen_34 : decode cX5_isSeen 34 = .ok (.iaload, 1) := by decide +kernel
theorem dX5_isSeen_35 : decode cX5_isSeen 35 = .ok (.aload_n 1, 1) := by decide +kernel
theorem dX5_isSeen_36 : decode cX5_isSeen 36 = .ok (.getfield 102, 3) := by decide +kernel
theorem dX5_isSeen_39 : decode cX5_isSeen 39 = .ok (.iload_n 2, 1) := by decide +kernel
theorem dX5_isSeen_40 : decode cX5_isSeen 40 = .ok (.iaload, 1) := by decide +kernel
theorem dX5_isSeen_41 : decode cX5_isSeen 41 = .ok (.if_icmp .ne 5, 3) := by decide +kernel
theorem dX5_isSeen_44 : decode cX5_isSeen 44 = .ok (.iconst 1, 1) := by decide +kernel
theorem dX5_isSeen_45 : decode cX5_isSeen 45 = .ok (.ireturn, 1) := by decide +kernel
theorem dX5_isSeen_46 : decode cX5_isSeen 46 = .ok (.iinc 4 1, 3) := by decide +kernel
theorem dX5_isSeen_49 : decode cX5_isSeen 49 = .ok (.goto (-27), 3) := by decide +kernel
theorem dX5_isSeen_52 : decode cX5_isSeen 52 = .ok (.iconst 0, 1) := by decide +kernel
theorem dX5_isSeen_53 : decode cX5_isSeen 53 = .ok (.ireturn, 1) := by decide +kernel
theorem dX6_init_0 : decode cX6_init 0 = .ok (.aload_n 0, 1) := by decide +kernel
theorem dX6_init_1 : decode cX6_init 1 = .ok (.invokespecial 1, 3) := by decide +kernel
theorem dX6_init_4 : decode cX6_init 4 = .ok (.aload_n 0, 1) := by decide +kernel
theorem dX6_init_5 : decode cX6_init 5 = .ok (.sipush 500, 3) := by decide +kernel
theorem dX6_init_8 : decode cX6_init 8 = .ok (.newarray .byte, 2) := by decide +kernel
theorem dX6_init_10 : decode cX6_init 10 = .ok (.putfield 9, 3) := by decide +kernel
theorem dX6_init_13 : decode cX6_init 13 = .ok (.aload_n 0, 1) := by decide +kernel
theorem dX6_init_14 : decode cX6_init 14 = .ok (.new 13, 3) := by decide +kernel
theorem dX6_init_17 : decode cX6_init 17 = .ok (.dup, 1) := by decide +kernel
theorem dX6_init_18 : decode cX6_init 18 = .ok (.invokespecial 15, 3) := by decide +kernel
theorem dX6_init_21 : decode cX6_init 21 = .ok (.putfield 16, 3) := by decide +kernel
theorem dX6_init_24 : decode cX6_init 24 = .ok (.aload_n 0, 1) := by decide +kernel
theorem dX6_init_25 : decode cX6_init 25 = .ok (.new 13, 3) := by decide +kernel
theorem dX6_init_28 : decode cX6_init 28 = .ok (.dup, 1) := by decide +kernel
theorem dX6_init_29 : decode cX6_init 29 = .ok (.invokespecial 15, 3) := by decide +kernel
theorem dX6_init_32 : decode cX6_init 32 = .ok (.putfield 20, 3) := by decide +kernel
theorem dX6_init_35 : decode cX6_init 35 = .ok (.aload_n 0, 1) := by decide +kernel
theorem dX6_init_36 : decode cX6_init 36 = .ok (.new 23, 3) := by decide +kernel
theorem dX6_init_39 : decode cX6_init 39 = .ok (.dup, 1) := by decide +kernel
theorem dX6_init_40 : decode cX6_init 40 = .ok (.aload_n 0, 1) := by decide +kernel
theorem dX6_init_41 : decode cX6_init 41 = .ok (.getfield 9, 3) := by decide +kernel
theorem dX6_init_44 : decode cX6_init 44 = .ok (.aload_n 0, 1) := by decide +kernel
theorem dX6_init_45 : decode cX6_init 45 = .ok (.getfield 20, 3) := by decide +kernel
theorem dX6_init_48 : decode cX6_init 48 = .ok (.invokespecial 25, 3) := by decide +kernel
theorem dX6_init_51 : decode cX6_init 51 = .ok (.putfield 28, 3) := by decide +kernel
theorem dX6_init_54 : decode cX6_init 54 = .ok (.ldc 34, 2) := by decide +kernel
theorem dX6_init_56 : decode cX6_init 56 = .ok (.newarray .int, 2) := by decide +kernel
theorem dX6_init_58 : decode cX6_init 58 = .ok (.astore_n 1, 1) := by decide +kernel
theorem dX6_init_59 : decode cX6_init 59 = .ok (.aload_n 0, 1) := by decide +kernel
theorem dX6_init_60 : decode cX6_init 60 = .ok (.new 32, 3) := by decide +kernel
theorem dX6_init_63 : decode cX6_init 63 = .ok (.dup, 1) := by decide +kernel
theorem dX6_init_64 : decode cX6_init 64 = .ok (.aload_n 0, 1) := by decide +kernel
theorem dX6_init_65 : decode cX6_init 65 = .ok (.getfield 16, 3) := by decide +kernel
theorem dX6_init_68 : decode cX6_init 68 = .ok (.new 35, 3) := by decide +kernel
theorem dX6_init_71 : decode cX6_init 71 = .ok (.dup, 1) := by decide +kernel
theorem dX6_init_72 : decode cX6_init 72 = .ok (.invokespecial 37, 3) := by decide +kernel
theorem dX6_init_75 : decode cX6_init 75 = .ok (.aload_n 1, 1) := by decide +kernel
theorem dX6_init_76 : decode cX6_init 76 = .ok (.invokespecial 38, 3) := by decide +kernel
theorem dX6_init_79 : decode cX6_init 79 = .ok (.putfield 41, 3) := by decide +kernel
theorem dX6_init_82 : decode cX6_init 82 = .ok (.aload_n 0, 1) := by decide +kernel
theorem dX6_init_83 : decode cX6_init 83 = .ok (.new 32, 3) := by decide +kernel
theorem dX6_init_86 : decode cX6_init 86 = .ok (.dup, 1) := by decide +kernel
theorem dX6_init_87 : decode cX6_init 87 = .ok (.aload_n 0, 1) := by decide +kernel
theorem dX6_init_88 : decode cX6_init 88 = .ok (.getfield 16, 3) := by decide +kernel
theorem dX6_init_91 : decode cX6_init 91 = .ok (.new 35, 3) := by decide +kernel
theorem dX6_init_94 : decode cX6_init 94 = .ok (.dup, 1) := by decide +kernel
theorem dX6_init_95 : decode cX6_init 95 = .ok (.invokespecial 37, 3) := by decide +kernel
theorem dX6_init_98 : decode cX6_init 98 = .ok (.aload_n 1, 1) := by decide +kernel
theorem dX6_init_99 : decode cX6_init 99 = .ok (.invokespecial 38, 3) := by decide +kernel
theorem dX6_init_102 : decode cX6_init 102 = .ok (.putfield 45, 3) := by decide +kernel
theorem dX6_init_105 : decode cX6_init 105 = .ok (.aload_n 0, 1) := by decide +kernel
theorem dX6_init_106 : decode cX6_init 106 = .ok (.new 48, 3) := by decide +kernel
theorem dX6_init_109 : decode cX6_init 109 = .ok (.dup, 1) := by decide +kernel
theorem dX6_init_110 : decode cX6_init 110 = .ok (.aload_n 0, 1) := by decide +kernel
theorem dX6_init_111 : decode cX6_init 111 = .ok (.getfield 16, 3) := by decide +kernel
theorem dX6_init_114 : decode cX6_init 114 = .ok (.invokespecial 50, 3) := by decide +kernel
theorem dX6_init_117 : decode cX6_init 117 = .ok (.putfield 53, 3) := by decide +kernel
theorem dX6_init_120 : decode cX6_init 120 = .ok (.return_, 1) := by decide +kernel
theorem dX6_feed_0 : decode cX6_feed 0 = .ok (.aload_n 0, 1) := by decide +kernel
theorem dX6_feed_1 : decode cX6_feed 1 = .ok (.getfield 57, 3) := by decide +kernel
theorem dX6_feed_4 : decode cX6_feed 4 = .ok (.bipush 20, 2) := by decide +kernel
theorem dX6_feed_6 : decode cX6_feed 6 = .ok (.iadd, 1) := by decide +kernel
theorem dX6_feed_7 : decode cX6_feed 7 = .ok (.sipush 500, 3) := by decide +kernel
theorem dX6_feed_10 : decode cX6_feed 10 = .ok (.if_icmp .le 5, 3) := by decide +kernel
theorem dX6_feed_13 : decode cX6_feed 13 = .ok (.iconst (-1), 1) := by decide +kernel
theorem dX6_feed_14 : decode cX6_feed 14 = .ok (.ireturn, 1) := by decide +kernel
theorem dX6_feed_15 : decode cX6_feed 15 = .ok (.aload_n 0, 1) := by decide +kernel
theorem dX6_feed_16 : decode cX6_feed 16 = .ok (.iload_n 1, 1) := by decide +kernel
theorem dX6_feed_17 : decode cX6_feed 17 = .ok (.invokevirtual 61, 3) := by decide +kernel
theorem dX6_feed_20 : decode cX6_feed 20 = .ok (.aload_n 0, 1) := by decide +kernel
theorem dX6_feed_21 : decode cX6_feed 21 = .ok (.iload_n 2, 1) := by decide +kernel
theorem dX6_feed_22 : decode cX6_feed 22 = .ok (.invokevirtual 61, 3) := by decide +kernel
theorem dX6_feed_25 : decode cX6_feed 25 = .ok (.aload_n 0, 1) := by decide +kernel
theorem dX6_feed_26 : decode cX6_feed 26 = .ok (.iload_n 3, 1) := by decide +kernel
theorem dX6_feed_27 : decode cX6_feed 27 = .ok (.invokevirtual 61, 3) := by decide +kernel
theorem dX6_feed_30 : decode cX6_feed 30 = .ok (.aload_n 0, 1) := by decide +kernel
theorem dX6_feed_31 : decode cX6_feed 31 = .ok (.iload 4, 2) := by decide +kernel
theorem dX6_feed_33 : decode cX6_feed 33 = .ok (.invokevirtual 61, 3) := by decide +kernel
theorem dX6_feed_36 : decode cX6_feed 36 = .ok (.aload_n 0, 1) := by decide +kernel
theorem dX6_feed_37 : decode cX6_feed 37 = .ok (.iload 5, 2) := by decide +kernel
theorem dX6_feed_39 : decode cX6_feed 39 = .ok (.invokevirtual 61, 3) := by decide +kernel
theorem dX6_feed_42 : decode cX6_feed 42 = .ok (.aload_n 0, 1) := by decide +kernel
theorem dX6_feed_43 : decode cX6_feed 43 = .ok (.getfield 57, 3) := by decide +kernel
theorem dX6_feed_46 : decode cX6_feed 46 = .ok (.ireturn, 1) := by decide +kernel
theorem dX6_append_0 : decode cX6_append 0 = .ok (.bipush 24, 2) := by decide +kernel
theorem dX6_append_2 : decode cX6_append 2 = .ok (.istore_n 2, 1) := by decide +kernel
theorem dX6_append_3 : decode cX6_append 3 = .ok (.iload_n 2, 1) := by decide +kernel
theorem dX6_append_4 : decode cX6_append 4 = .ok (.ifCond .lt 42, 3) := by decide +kernel
theorem dX6_append_7 : decode cX6_append 7 = .ok (.aload_n 0, 1) := by decide +kernel
theorem dX6_append_8 : decode cX6_append 8 = .ok (.getfield 57, 3) := by decide +kernel
theorem dX6_append_11 : decode cX6_append 11 = .ok (.sipush 500, 3) := by decide +kernel
theorem dX6_append_14 : decode cX6_append 14 = .ok (.if_icmp .ge 32, 3) := by decide +kernel
theorem dX6_append_17 : decode cX6_append 17 = .ok (.aload_n 0, 1) := by decide +kernel
theorem dX6_append_18 : decode cX6_append 18 = .ok (.getfield 9, 3) := by decide +kernel
theorem dX6_append_21 : decode cX6_append 21 = .ok (.aload_n 0, 1) := by decide +kernel
theorem dX6_append_22 : decode cX6_append 22 = .ok (.getfield 57, 3) := by decide +kernel
theorem dX6_append_25 : decode cX6_append 25 = .ok (.iload_n 1, 1) := by decide +kernel
theorem dX6_append_26 : decode cX6_append 26 = .ok (.iload_n 2, 1) := by decide +kernel
theorem dX6_append_27 : decode cX6_append 27 = .ok (.ishr, 1) := by decide +kernel
theorem dX6_append_28 : decode cX6_append 28 = .ok (.i2b, 1) := by decide +kernel
theorem dX6_append_29 : decode cX6_append 29 = .ok (.bastore, 1) := by decide +kernel
theorem dX6_append_30 : decode cX6_append 30 = .ok (.aload_n 0, 1) := by decide +kernel
theorem dX6_append_31 : decode cX6_append 31 = .ok (.dup, 1) := by decide +kernel
theorem dX6_append_32 : decode cX6_append 32 = .ok (.getfield 57, 3) := by decide +kernel
theorem dX6_append_35 : decode cX6_append 35 = .ok (.iconst 1, 1) := by decide +kernel
theorem dX6_append_36 : decode cX6_append 36 = .ok (.iadd, 1) := by decide +kernel
theorem dX6_append_37 : decode cX6_append 37 = .ok (.putfield 57, 3) := by decide +kernel
theorem dX6_append_40 : decode cX6_append 40 = .ok (.iinc 2 (-8), 3) := by decide +kernel
theorem dX6_append_43 : decode cX6_append 43 = .ok (.goto (-40), 3) := by decide +kernel
theorem dX6_append_46 : decode cX6_append 46 = .ok (.return_, 1) := by decide +kernel
theorem dX6_end_0 : decode cX6_end 0 = .ok (.iload_n 1, 1) := by decide +kernel
theorem dX6_end_1 : decode cX6_end 1 = .ok (.ifCond .lt 11, 3) := by decide +kernel
theorem dX6_end_4 : decode cX6_end 4 = .ok (.iload_n 1, 1) := by decide +kernel
theorem dX6_end_5 : decode cX6_end 5 = .ok (.aload_n 0, 1) := by decide +kernel
theorem dX6_end_6 : decode cX6_end 6 = .ok (.getfield 57, 3) := by decide +kernel
theorem dX6_end_9 : decode cX6_end 9 = .ok (.if_icmp .le 5, 3) := by decide +kernel
theorem dX6_end_12 : decode cX6_end 12 = .ok (.iconst 0, 1) := by decide +kernel
theorem dX6_end_13 : decode cX6_end 13 = .ok (.ireturn, 1) := by decide +kernel
theorem dX6_end_14 : decode cX6_end 14 = .ok (.aload_n 0, 1) := by decide +kernel
theorem dX6_end_15 : decode cX6_end 15 = .ok (.iload_n 1, 1) := by decide +kernel
theorem dX6_end_16 : decode cX6_end 16 = .ok (.putfield 57, 3) := by decide +kernel
theorem dX6_end_19 : decode cX6_end 19 = .ok (.iconst 1, 1) := by decide +kernel
theorem dX6_end_20 : decode cX6_end 20 = .ok (.ireturn, 1) := by decide +kernel
theorem dX6_fault_0 : decode cX6_fault 0 = .ok (.aload_n 0, 1) := by decide +kernel
theorem dX6_fault_1 : decode cX6_fault 1 = .ok (.getfield 28, 3) := by decide +kernel
theorem dX6_fault_4 : decode cX6_fault 4 = .ok (.aload_n 0, 1) := by decide +kernel
theorem dX6_fault_5 : decode cX6_fault 5 = .ok (.getfield 57, 3) := by decide +kernel
theorem dX6_fault_8 : decode cX6_fault 8 = .ok (.invokevirtual 65, 3) := by decide +kernel
theorem dX6_fault_11 : decode cX6_fault 11 = .ok (.ireturn, 1) := by decide +kernel
theorem dX6_map_0 : decode cX6_map 0 = .ok (.aload_n 0, 1) := by decide +kernel
theorem dX6_map_1 : decode cX6_map 1 = .ok (.getfield 28, 3) := by decide +kernel
theorem dX6_map_4 : decode cX6_map 4 = .ok (.aload_n 0, 1) := by decide +kernel
theorem dX6_map_5 : decode cX6_map 5 = .ok (.getfield 57, 3) := by decide +kernel
theorem dX6_map_8 : decode cX6_map 8 = .ok (.invokevirtual 65, 3) := by decide +kernel
theorem dX6_map_11 : decode cX6_map 11 = .ok (.iconst (-1), 1) := by decide +kernel
theorem dX6_map_12 : decode cX6_map 12 = .ok (.if_icmp .eq 5, 3) := by decide +kernel
theorem dX6_map_15 : decode cX6_map 15 = .ok (.iconst (-1), 1) := by decide +kernel
theorem dX6_map_16 : decode cX6_map 16 = .ok (.ireturn, 1) := by decide +kernel
theorem dX6_map_17 : decode cX6_map 17 = .ok (.aload_n 0, 1) := by decide +kernel
theorem dX6_map_18 : decode cX6_map 18 = .ok (.getfield 16, 3) := by decide +kernel
theorem dX6_map_21 : decode cX6_map 21 = .ok (.aload_n 0, 1) := by decide +kernel
theorem dX6_map_22 : decode cX6_map 22 = .ok (.getfield 20, 3) := by decide +kernel
theorem dX6_map_25 : decode cX6_map 25 = .ok (.invokevirtual 69, 3) := by decide +kernel
theorem dX6_map_28 : decode cX6_map 28 = .ok (.aload_n 0, 1) := by decide +kernel
theorem dX6_map_29 : decode cX6_map 29 = .ok (.iconst 0, 1) := by decide +kernel
theorem dX6_map_30 : decode cX6_map 30 = .ok (.putfield 57, 3) := by decide +kernel
theorem dX6_map_33 : decode cX6_map 33 = .ok (.aload_n 0, 1) := by decide +kernel
theorem dX6_map_34 : decode cX6_map 34 = .ok (.getfield 41, 3) := by decide +kernel
theorem dX6_map_37 : decode cX6_map 37 = .ok (.getfield 72, 3) := by decide +kernel
theorem dX6_map_40 : decode cX6_map 40 = .ok (.invokevirtual 76, 3) := by decide +kernel
theorem dX6_map_43 : decode cX6_map 43 = .ok (.aload_n 0, 1) := by decide +kernel
theorem dX6_map_44 : decode cX6_map 44 = .ok (.getfield 45, 3) := by decide +kernel
theorem dX6_map_47 : decode cX6_map 47 = .ok (.getfield 72, 3) := by decide +kernel
theorem dX6_map_50 : decode cX6_map 50 = .ok (.invokevirtual 76, 3) := by decide +kernel
theorem dX6_map_53 : decode cX6_map 53 = .ok (.aload_n 0, 1) := by decide +kernel
theorem dX6_map_54 : decode cX6_map 54 = .ok (.getfield 53, 3) := by decide +kernel
theorem dX6_map_57 : decode cX6_map 57 = .ok (.iconst 0, 1) := by decide +kernel
theorem dX6_map_58 : decode cX6_map 58 = .ok (.putfield 79, 3) := by decide +kernel
theorem dX6_map_61 : decode cX6_map 61 = .ok (.aload_n 0, 1) := by decide +kernel
theorem dX6_map_62 : decode cX6_map 62 = .ok (.getfield 16, 3) := by decide +kernel
theorem dX6_map_65 : decode cX6_map 65 = .ok (.getfield 82, 3) := by decide +kernel
theorem dX6_map_68 : decode cX6_map 68 = .ok (.ireturn, 1) := by decide +kernel
theorem dX6_man_0 : decode cX6_man 0 = .ok (.aload_n 0, 1) := by decide +kernel
theorem dX6_man_1 : decode cX6_man 1 = .ok (.iload_n 1, 1) := by decide +kernel
theorem dX6_man_2 : decode cX6_man 2 = .ok (.invokevirtual 85, 3) := by decide +kernel
theorem dX6_man_5 : decode cX6_man 5 = .ok (.ifCond .eq 36, 3) := by decide +kernel
theorem dX6_man_8 : decode cX6_man 8 = .ok (.aload_n 0, 1) := by decide +kernel
theorem dX6_man_9 : decode cX6_man 9 = .ok (.getfield 16, 3) := by decide +kernel
theorem dX6_man_12 : decode cX6_man 12 = .ok (.iload_n 2, 1) := by decide +kernel
theorem dX6_man_13 : decode cX6_man 13 = .ok (.invokevirtual 89, 3) := by decide +kernel
theorem dX6_man_16 : decode cX6_man 16 = .ok (.ifCond .eq 25, 3) := by decide +kernel
theorem dX6_man_19 : decode cX6_man 19 = .ok (.iload_n 3, 1) := by decide +kernel
theorem dX6_man_20 : decode cX6_man 20 = .ok (.ifCond .lt 21, 3) := by decide +kernel
theorem dX6_man_23 : decode cX6_man 23 = .ok (.iload_n 3, 1) := by decide +kernel
theorem dX6_man_24 : decode cX6_man 24 = .ok (.iconst 4, 1) := by decide +kernel
theorem dX6_man_25 : decode cX6_man 25 = .ok (.if_icmp .gt 16, 3) := by decide +kernel
theorem dX6_man_28 : decode cX6_man 28 = .ok (.iload 4, 2) := by decide +kernel
theorem dX6_man_30 : decode cX6_man 30 = .ok (.iconst 1, 1) := by decide +kernel
theorem dX6_man_31 : decode cX6_man 31 = .ok (.if_icmp .lt 10, 3) := by decide +kernel
theorem dX6_man_34 : decode cX6_man 34 = .ok (.iload 4, 2) := by decide +kernel
theorem dX6_man_36 : decode cX6_man 36 = .ok (.bipush 96, 2) := by decide +kernel
theorem dX6_man_38 : decode cX6_man 38 = .ok (.if_icmp .le 5, 3) := by decide +kernel
theorem dX6_man_41 : decode cX6_man 41 = .ok (.iconst 0, 1) := by decide +kernel
theorem dX6_man_42 : decode cX6_man 42 = .ok (.ireturn, 1) := by decide +kernel
theorem dX6_man_43 : decode cX6_man 43 = .ok (.aload_n 0, 1) := by decide +kernel
theorem dX6_man_44 : decode cX6_man 44 = .ok (.iload_n 1, 1) := by decide +kernel
theorem dX6_man_45 : decode cX6_man 45 = .ok (.invokevirtual 92, 3) := by decide +kernel
theorem dX6_man_48 : decode cX6_man 48 = .ok (.getfield 72, 3) := by decide +kernel
theorem dX6_man_51 : decode cX6_man 51 = .ok (.iload_n 2, 1) := by decide +kernel
theorem dX6_man_52 : decode cX6_man 52 = .ok (.iload_n 3, 1) := by decide +kernel
theorem dX6_man_53 : decode cX6_man 53 = .ok (.iload 4, 2) := by decide +kernel
theorem dX6_man_55 : decode cX6_man 55 = .ok (.invokevirtual 96, 3) := by decide +kernel
theorem dX6_man_58 : decode cX6_man 58 = .ok (.iconst 1, 1) := by decide +kernel
theorem dX6_man_59 : decode cX6_man 59 = .ok (.ireturn, 1) := by decide +kernel
theorem dX6_stamp_0 : decode cX6_stamp 0 = .ok (.aload_n 0, 1) := by decide +kernel
theorem dX6_stamp_1 : decode cX6_stamp 1 = .ok (.iload_n 1, 1) := by decide +kernel
theorem dX6_stamp_2 : decode cX6_stamp 2 = .ok (.invokevirtual 85, 3) := by decide +kernel
theorem dX6_stamp_5 : decode cX6_stamp 5 = .ok (.ifCond .eq 33, 3) := by decide +kernel
theorem dX6_stamp_8 : decode cX6_stamp 8 = .ok (.aload_n 0, 1) := by decide +kernel
theorem dX6_stamp_9 : decode cX6_stamp 9 = .ok (.getfield 16, 3) := by decide +kernel
theorem dX6_stamp_12 : decode cX6_stamp 12 = .ok (.iload_n 2, 1) := by decide +kernel
theorem dX6_stamp_13 : decode cX6_stamp 13 = .ok (.invokevirtual 100, 3) := by decide +kernel
theorem dX6_stamp_16 : decode cX6_stamp 16 = .ok (.ifCond .eq 22, 3) := by decide +kernel
theorem dX6_stamp_19 : decode cX6_stamp 19 = .ok (.iload 4, 2) := by decide +kernel
theorem dX6_stamp_21 : decode cX6_stamp 21 = .ok (.iconst (-1), 1) := by decide +kernel
theorem dX6_stamp_22 : decode cX6_stamp 22 = .ok (.if_icmp .lt 16, 3) := by decide +kernel
theorem dX6_stamp_25 : decode cX6_stamp 25 = .ok (.iload 5, 2) := by decide +kernel
theorem dX6_stamp_27 : decode cX6_stamp 27 = .ok (.iload 4, 2) := by decide +kernel
theorem dX6_stamp_29 : decode cX6_stamp 29 = .ok (.if_icmp .lt 9, 3) := by decide +kernel
theorem dX6_stamp_32 : decode cX6_stamp 32 = .ok (.iload 5, 2) := by decide +kernel
theorem dX6_stamp_34 : decode cX6_stamp 34 = .ok (.iconst 5, 1) := by decide +kernel
theorem dX6_stamp_35 : decode cX6_stamp 35 = .ok (.if_icmp .le 5, 3) := by decide +kernel
theorem dX6_stamp_38 : decode cX6_stamp 38 = .ok (.iconst (-1), 1) := by decide +kernel
theorem dX6_stamp_39 : decode cX6_stamp 39 = .ok (.ireturn, 1) := by decide +kernel
theorem dX6_stamp_40 : decode cX6_stamp 40 = .ok (.aload_n 0, 1) := by decide +kernel
theorem dX6_stamp_41 : decode cX6_stamp 41 = .ok (.iload_n 1, 1) := by decide +kernel
theorem dX6_stamp_42 : decode cX6_stamp 42 = .ok (.invokevirtual 92, 3) := by decide +kernel
theorem dX6_stamp_45 : decode cX6_stamp 45 = .ok (.getfield 72, 3) := by decide +kernel
theorem dX6_stamp_48 : decode cX6_stamp 48 = .ok (.astore 6, 2) := by decide +kernel
theorem dX6_stamp_50 : decode cX6_stamp 50 = .ok (.aload 6, 2) := by decide +kernel
theorem dX6_stamp_52 : decode cX6_stamp 52 = .ok (.iconst 0, 1) := by decide +kernel
theorem dX6_stamp_53 : decode cX6_stamp 53 = .ok (.iload_n 2, 1) := by decide +kernel
theorem dX6_stamp_54 : decode cX6_stamp 54 = .ok (.iload 4, 2) := by decide +kernel
theorem dX6_stamp_56 : decode cX6_stamp 56 = .ok (.iload 5, 2) := by decide +kernel
theorem dX6_stamp_58 : decode cX6_stamp 58 = .ok (.invokevirtual 103, 3) := by decide +kernel
theorem dX6_stamp_61 : decode cX6_stamp 61 = .ok (.istore 7, 2) := by decide +kernel
theorem dX6_stamp_63 : decode cX6_stamp 63 = .ok (.iload 7, 2) := by decide +kernel
theorem dX6_stamp_65 : decode cX6_stamp 65 = .ok (.ifCond .lt 12, 3) := by decide +kernel
theorem dX6_stamp_68 : decode cX6_stamp 68 = .ok (.aload 6, 2) := by decide +kernel
theorem dX6_stamp_70 : decode cX6_stamp 70 = .ok (.getfield 107, 3) := by decide +kernel
theorem dX6_stamp_73 : decode cX6_stamp 73 = .ok (.iload 7, 2) := by decide +kernel
theorem dX6_stamp_75 : decode cX6_stamp 75 = .ok (.iload_n 3, 1) := by decide +kernel
theorem dX6_stamp_76 : decode cX6_stamp 76 = .ok (.bastore, 1) := by decide +kernel
theorem dX6_stamp_77 : decode cX6_stamp 77 = .ok (.iload 7, 2) := by decide +kernel
theorem dX6_stamp_79 : decode cX6_stamp 79 = .ok (.ireturn, 1) := by decide +kernel
theorem dX6_paper_0 : decode cX6_paper 0 = .ok (.aload_n 0, 1) := by decide +kernel
theorem dX6_paper_1 : decode cX6_paper 1 = .ok (.iload_n 1, 1) := by decide +kernel
theorem dX6_paper_2 : decode cX6_paper 2 = .ok (.invokevirtual 85, 3) := by decide +kernel
theorem dX6_paper_5 : decode cX6_paper 5 = .ok (.ifCond .eq 21, 3) := by decide +kernel
theorem dX6_paper_8 : decode cX6_paper 8 = .ok (.aload_n 0, 1) := by decide +kernel
theorem dX6_paper_9 : decode cX6_paper 9 = .ok (.getfield 16, 3) := by decide +kernel
theorem dX6_paper_12 : decode cX6_paper 12 = .ok (.iload_n 2, 1) := by decide +kernel
theorem dX6_paper_13 : decode cX6_paper 13 = .ok (.invokevirtual 89, 3) := by decide +kernel
theorem dX6_paper_16 : decode cX6_paper 16 = .ok (.ifCond .eq 10, 3) := by decide +kernel
theorem dX6_paper_19 : decode cX6_paper 19 = .ok (.iload_n 3, 1) := by decide +kernel
theorem dX6_paper_20 : decode cX6_paper 20 = .ok (.invokestatic 111, 3) := by decide +kernel
theorem dX6_paper_23 : decode cX6_paper 23 = .ok (.ifCond .ne 5, 3) := by decide +kernel
theorem dX6_paper_26 : decode cX6_paper 26 = .ok (.iconst (-1), 1) := by decide +kernel
theorem dX6_paper_27 : decode cX6_paper 27 = .ok (.ireturn, 1) := by decide +kernel
theorem dX6_paper_28 : decode cX6_paper 28 = .ok (.aload_n 0, 1) := by decide +kernel
theorem dX6_paper_29 : decode cX6_paper 29 = .ok (.iload_n 1, 1) := by decide +kernel
theorem dX6_paper_30 : decode cX6_paper 30 = .ok (.invokevirtual 92, 3) := by decide +kernel
theorem dX6_paper_33 : decode cX6_paper 33 = .ok (.getfield 72, 3) := by decide +kernel
theorem dX6_paper_36 : decode cX6_paper 36 = .ok (.iconst 1, 1) := by decide +kernel
theorem dX6_paper_37 : decode cX6_paper 37 = .ok (.iload_n 2, 1) := by decide +kernel
theorem dX6_paper_38 : decode cX6_paper 38 = .ok (.iload_n 3, 1) := by decide +kernel
theorem dX6_paper_39 : decode cX6_paper 39 = .ok (.iload_n 3, 1) := by decide +kernel
theorem dX6_paper_40 : decode cX6_paper 40 = .ok (.invokevirtual 103, 3) := by decide +kernel
theorem dX6_paper_43 : decode cX6_paper 43 = .ok (.ireturn, 1) := by decide +kernel
theorem dX6_look_0 : decode cX6_look 0 = .ok (.aload_n 0, 1) := by decide +kernel
theorem dX6_look_1 : decode cX6_look 1 = .ok (.iload_n 1, 1) := by decide +kernel
theorem dX6_look_2 : decode cX6_look 2 = .ok (.invokevirtual 85, 3) := by decide +kernel
theorem dX6_look_5 : decode cX6_look 5 = .ok (.ifCond .eq 35, 3) := by decide +kernel
theorem dX6_look_8 : decode cX6_look 8 = .ok (.aload_n 0, 1) := by decide +kernel
theorem dX6_look_9 : decode cX6_look 9 = .ok (.getfield 16, 3) := by decide +kernel
theorem dX6_look_12 : decode cX6_look 12 = .ok (.iload_n 2, 1) := by decide +kernel
theorem dX6_look_13 : decode cX6_look 13 = .ok (.invokevirtual 89, 3) := by decide +kernel
theorem dX6_look_16 : decode cX6_look 16 = .ok (.ifCond .eq 24, 3) := by decide +kernel
theorem dX6_look_19 : decode cX6_look 19 = .ok (.iload_n 3, 1) := by decide +kernel
theorem dX6_look_20 : decode cX6_look 20 = .ok (.invokestatic 111, 3) := by decide +kernel
theorem dX6_look_23 : decode cX6_look 23 = .ok (.ifCond .eq 17, 3) := by decide +kernel
theorem dX6_look_26 : decode cX6_look 26 = .ok (.iload 4, 2) := by decide +kernel
theorem dX6_look_28 : decode cX6_look 28 = .ok (.invokestatic 111, 3) := by decide +kernel
theorem dX6_look_31 : decode cX6_look 31 = .ok (.ifCond .eq 9, 3) := by decide +kernel
theorem dX6_look_34 : decode cX6_look 34 = .ok (.iload 4, 2) := by decide +kernel
theorem dX6_look_36 : decode cX6_look 36 = .ok (.iload_n 3, 1) := by decide +kernel
theorem dX6_look_37 : decode cX6_look 37 = .ok (.if_icmp .ge 5, 3) := by decide +kernel
theorem dX6_look_40 : decode cX6_look 40 = .ok (.iconst (-1), 1) := by decide +kernel
theorem dX6_look_41 : decode cX6_look 41 = .ok (.ireturn, 1) := by decide +kernel
theorem dX6_look_42 : decode cX6_look 42 = .ok (.aload_n 0, 1) := by decide +kernel
theorem dX6_look_43 : decode cX6_look 43 = .ok (.iload_n 1, 1) := by decide +kernel
theorem dX6_look_44 : decode cX6_look 44 = .ok (.invokevirtual 92, 3) := by decide +kernel
theorem dX6_look_47 : decode cX6_look 47 = .ok (.getfield 72, 3) := by decide +kernel
theorem dX6_look_50 : decode cX6_look 50 = .ok (.iconst 2, 1) := by decide +kernel
theorem dX6_look_51 : decode cX6_look 51 = .ok (.iload_n 2, 1) := by decide +kernel
theorem dX6_look_52 : decode cX6_look 52 = .ok (.iload_n 3, 1) := by decide +kernel
theorem dX6_look_53 : decode cX6_look 53 = .ok (.iload 4, 2) := by decide +kernel
theorem dX6_look_55 : decode cX6_look 55 = .ok (.invokevirtual 103, 3) := by decide +kernel
theorem dX6_look_58 : decode cX6_look 58 = .ok (.ireturn, 1) := by decide +kernel
theorem dX6_doubt_0 : decode cX6_doubt 0 = .ok (.aload_n 0, 1) := by decide +kernel
theorem dX6_doubt_1 : decode cX6_doubt 1 = .ok (.iload_n 1, 1) := by decide +kernel
theorem dX6_doubt_2 : decode cX6_doubt 2 = .ok (.invokevirtual 85, 3) := by decide +kernel
theorem dX6_doubt_5 : decode cX6_doubt 5 = .ok (.ifCond .eq 23, 3) := by decide +kernel
theorem dX6_doubt_8 : decode cX6_doubt 8 = .ok (.aload_n 0, 1) := by decide +kernel
theorem dX6_doubt_9 : decode cX6_doubt 9 = .ok (.iload_n 1, 1) := by decide +kernel
theorem dX6_doubt_10 : decode cX6_doubt 10 = .ok (.invokevirtual 92, 3) := by decide +kernel
theorem dX6_doubt_13 : decode cX6_doubt 13 = .ok (.getfield 72, 3) := by decide +kernel
theorem dX6_doubt_16 : decode cX6_doubt 16 = .ok (.iload_n 2, 1) := by decide +kernel
theorem dX6_doubt_17 : decode cX6_doubt 17 = .ok (.iload_n 3, 1) := by decide +kernel
theorem dX6_doubt_18 : decode cX6_doubt 18 = .ok (.invokevirtual 114, 3) := by decide +kernel
theorem dX6_doubt_21 : decode cX6_doubt 21 = .ok (.ifCond .eq 7, 3) := by decide +kernel
theorem dX6_doubt_24 : decode cX6_doubt 24 = .ok (.iconst 1, 1) := by decide +kernel
theorem dX6_doubt_25 : decode cX6_doubt 25 = .ok (.goto 4, 3) := by decide +kernel
theorem dX6_doubt_28 : decode cX6_doubt 28 = .ok (.iconst 0, 1) := by decide +kernel
theorem dX6_doubt_29 : decode cX6_doubt 29 = .ok (.ireturn, 1) := by decide +kernel
theorem dX6_undo_0 : decode cX6_undo 0 = .ok (.aload_n 0, 1) := by decide +kernel
theorem dX6_undo_1 : decode cX6_undo 1 = .ok (.iload_n 1, 1) := by decide +kernel
theorem dX6_undo_2 : decode cX6_undo 2 = .ok (.invokevirtual 85, 3) := by decide +kernel
theorem dX6_undo_5 : decode cX6_undo 5 = .ok (.ifCond .eq 17, 3) := by decide +kernel
theorem dX6_undo_8 : decode cX6_undo 8 = .ok (.aload_n 0, 1) := by decide +kernel
theorem dX6_undo_9 : decode cX6_undo 9 = .ok (.iload_n 1, 1) := by decide +kernel
theorem dX6_undo_10 : decode cX6_undo 10 = .ok (.invokevirtual 92, 3) := by decide +kernel
theorem dX6_undo_13 : decode cX6_undo 13 = .ok (.getfield 72, 3) := by decide +kernel
theorem dX6_undo_16 : decode cX6_undo 16 = .ok (.invokevirtual 118, 3) := by decide +kernel
theorem dX6_undo_19 : decode cX6_undo 19 = .ok (.goto 4, 3) := by decide +kernel
theorem dX6_undo_22 : decode cX6_undo 22 = .ok (.iconst (-1), 1) := by decide +kernel
theorem dX6_undo_23 : decode cX6_undo 23 = .ok (.ireturn, 1) := by decide +kernel
theorem dX6_link_0 : decode cX6_link 0 = .ok (.aload_n 0, 1) := by decide +kernel
theorem dX6_link_1 : decode cX6_link 1 = .ok (.getfield 16, 3) := by decide +kernel
theorem dX6_link_4 : decode cX6_link 4 = .ok (.iload_n 1, 1) := by decide +kernel
theorem dX6_link_5 : decode cX6_link 5 = .ok (.invokevirtual 122, 3) := by decide +kernel
theorem dX6_link_8 : decode cX6_link 8 = .ok (.ifCond .ne 5, 3) := by decide +kernel
theorem dX6_link_11 : decode cX6_link 11 = .ok (.iconst (-1), 1) := by decide +kernel
theorem dX6_link_12 : decode cX6_link 12 = .ok (.ireturn, 1) := by decide +kernel
theorem dX6_link_13 : decode cX6_link 13 = .ok (.iload_n 2, 1) := by decide +kernel
theorem dX6_link_14 : decode cX6_link 14 = .ok (.tableswitch 106 0 5 #[38, 48, 58, 68, 78, 88], 38) := by decide +kernel
theorem dX6_link_52 : decode cX6_link 52 = .ok (.aload_n 0, 1) := by decide +kernel
theorem dX6_link_53 : decode cX6_link 53 = .ok (.getfield 16, 3) := by decide +kernel
theorem dX6_link_56 : decode cX6_link 56 = .ok (.getfield 125, 3) := by decide +kernel
theorem dX6_link_59 : decode cX6_link 59 = .ok (.iload_n 1, 1) := by decide +kernel
theorem dX6_link_60 : decode cX6_link 60 = .ok (.iaload, 1) := by decide +kernel
theorem dX6_link_61 : decode cX6_link 61 = .ok (.ireturn, 1) := by decide +kernel
theorem dX6_link_62 : decode cX6_link 62 = .ok (.aload_n 0, 1) := by decide +kernel
theorem dX6_link_63 : decode cX6_link 63 = .ok (.getfield 16, 3) := by decide +kernel
theorem dX6_link_66 : decode cX6_link 66 = .ok (.getfield 129, 3) := by decide +kernel
theorem dX6_link_69 : decode cX6_link 69 = .ok (.iload_n 1, 1) := by decide +kernel
theorem dX6_link_70 : decode cX6_link 70 = .ok (.iaload, 1) := by decide +kernel
theorem dX6_link_71 : decode cX6_link 71 = .ok (.ireturn, 1) := by decide +kernel
theorem dX6_link_72 : decode cX6_link 72 = .ok (.aload_n 0, 1) := by decide +kernel
theorem dX6_link_73 : decode cX6_link 73 = .ok (.getfield 16, 3) := by decide +kernel
theorem dX6_link_76 : decode cX6_link 76 = .ok (.getfield 132, 3) := by decide +kernel
theorem dX6_link_79 : decode cX6_link 79 = .ok (.iload_n 1, 1) := by decide +kernel
theorem dX6_link_80 : decode cX6_link 80 = .ok (.iaload, 1) := by decide +kernel
theorem dX6_link_81 : decode cX6_link 81 = .ok (.ireturn, 1) := by decide +kernel
theorem dX6_link_82 : decode cX6_link 82 = .ok (.aload_n 0, 1) := by decide +kernel
theorem dX6_link_83 : decode cX6_link 83 = .ok (.getfield 16, 3) := by decide +kernel
theorem dX6_link_86 : decode cX6_link 86 = .ok (.getfield 135, 3) := by decide +kernel
theorem dX6_link_89 : decode cX6_link 89 = .ok (.iload_n 1, 1) := by decide +kernel
theorem dX6_link_90 : decode cX6_link 90 = .ok (.iaload, 1) := by decide +kernel
theorem dX6_link_91 : decode cX6_link 91 = .ok (.ireturn, 1) := by decide +kernel
theorem dX6_link_92 : decode cX6_link 92 = .ok (.aload_n 0, 1) := by decide +kernel
theorem dX6_link_93 : decode cX6_link 93 = .ok (.getfield 16, 3) := by decide +kernel
theorem dX6_link_96 : decode cX6_link 96 = .ok (.getfield 138, 3) := by decide +kernel
theorem dX6_link_99 : decode cX6_link 99 = .ok (.iload_n 1, 1) := by decide +kernel
theorem dX6_link_100 : decode cX6_link 100 = .ok (.iaload, 1) := by decide +kernel
theorem dX6_link_101 : decode cX6_link 101 = .ok (.ireturn, 1) := by decide +kernel
theorem dX6_link_102 : decode cX6_link 102 = .ok (.aload_n 0, 1) := by decide +kernel
theorem dX6_link_103 : decode cX6_link 103 = .ok (.getfield 16, 3) := by decide +kernel
theorem dX6_link_106 : decode cX6_link 106 = .ok (.getfield 141, 3) := by decide +kernel
theorem dX6_link_109 : decode cX6_link 109 = .ok (.iload_n 1, 1) := by decide +kernel
theorem dX6_link_110 : decode cX6_link 110 = .ok (.baload, 1) := by decide +kernel
theorem dX6_link_111 : decode cX6_link 111 = .ok (.ifCond .eq 7, 3) := by decide +kernel
theorem dX6_link_114 : decode cX6_link 114 = .ok (.iconst 1, 1) := by decide +kernel
theorem dX6_link_115 : decode cX6_link 115 = .ok (.goto 4, 3) := by decide +kernel
theorem dX6_link_118 : decode cX6_link 118 = .ok (.iconst 0, 1) := by decide +kernel
theorem dX6_link_119 : decode cX6_link 119 = .ok (.ireturn, 1) := by decide +kernel
theorem dX6_link_120 : decode cX6_link 120 = .ok (.iconst (-1), 1) := by decide +kernel
theorem dX6_link_121 : decode cX6_link 121 = .ok (.ireturn, 1) := by decide +kernel
theorem dX6_town_0 : decode cX6_town 0 = .ok (.aload_n 0, 1) := by decide +kernel
theorem dX6_town_1 : decode cX6_town 1 = .ok (.getfield 16, 3) := by decide +kernel
theorem dX6_town_4 : decode cX6_town 4 = .ok (.iload_n 1, 1) := by decide +kernel
theorem dX6_town_5 : decode cX6_town 5 = .ok (.invokevirtual 89, 3) := by decide +kernel
theorem dX6_town_8 : decode cX6_town 8 = .ok (.ifCond .ne 6, 3) := by decide +kernel
theorem dX6_town_11 : decode cX6_town 11 = .ok (.bipush (-99), 2) := by decide +kernel
theorem dX6_town_13 : decode cX6_town 13 = .ok (.ireturn, 1) := by decide +kernel
theorem dX6_town_14 : decode cX6_town 14 = .ok (.iload_n 2, 1) := by decide +kernel
theorem dX6_town_15 : decode cX6_town 15 = .ok (.lookupswitch 45 #[(0, 25), (1, 35)], 25) := by decide +kernel
theorem dX6_town_40 : decode cX6_town 40 = .ok (.aload_n 0, 1) := by decide +kernel
theorem dX6_town_41 : decode cX6_town 41 = .ok (.getfield 16, 3) := by decide +kernel
theorem dX6_town_44 : decode cX6_town 44 = .ok (.getfield 144, 3) := by decide +kernel
theorem dX6_town_47 : decode cX6_town 47 = .ok (.iload_n 1, 1) := by decide +kernel
theorem dX6_town_48 : decode cX6_town 48 = .ok (.iaload, 1) := by decide +kernel
theorem dX6_town_49 : decode cX6_town 49 = .ok (.ireturn, 1) := by decide +kernel
theorem dX6_town_50 : decode cX6_town 50 = .ok (.aload_n 0, 1) := by decide +kernel
theorem dX6_town_51 : decode cX6_town 51 = .ok (.getfield 16, 3) := by decide +kernel
theorem dX6_town_54 : decode cX6_town 54 = .ok (.getfield 147, 3) := by decide +kernel
theorem dX6_town_57 : decode cX6_town 57 = .ok (.iload_n 1, 1) := by decide +kernel
theorem dX6_town_58 : decode cX6_town 58 = .ok (.iaload, 1) := by decide +kernel
theorem dX6_town_59 : decode cX6_town 59 = .ok (.ireturn, 1) := by decide +kernel
theorem dX6_town_60 : decode cX6_town 60 = .ok (.bipush (-99), 2) := by decide +kernel
theorem dX6_town_62 : decode cX6_town 62 = .ok (.ireturn, 1) := by decide +kernel
theorem dX6_trace_0 : decode cX6_trace 0 = .ok (.aload_n 0, 1) := by decide +kernel
theorem dX6_trace_1 : decode cX6_trace 1 = .ok (.iload_n 1, 1) := by decide +kernel
theorem dX6_trace_2 : decode cX6_trace 2 = .ok (.invokevirtual 85, 3) := by decide +kernel
theorem dX6_trace_5 : decode cX6_trace 5 = .ok (.ifCond .eq 18, 3) := by decide +kernel
theorem dX6_trace_8 : decode cX6_trace 8 = .ok (.aload_n 0, 1) := by decide +kernel
theorem dX6_trace_9 : decode cX6_trace 9 = .ok (.iload_n 1, 1) := by decide +kernel
theorem dX6_trace_10 : decode cX6_trace 10 = .ok (.invokevirtual 92, 3) := by decide +kernel
theorem dX6_trace_13 : decode cX6_trace 13 = .ok (.getfield 72, 3) := by decide +kernel
theorem dX6_trace_16 : decode cX6_trace 16 = .ok (.iload_n 2, 1) := by decide +kernel
theorem dX6_trace_17 : decode cX6_trace 17 = .ok (.invokevirtual 150, 3) := by decide +kernel
theorem dX6_trace_20 : decode cX6_trace 20 = .ok (.ifCond .ne 6, 3) := by decide +kernel
theorem dX6_trace_23 : decode cX6_trace 23 = .ok (.bipush (-99), 2) := by decide +kernel
theorem dX6_trace_25 : decode cX6_trace 25 = .ok (.ireturn, 1) := by decide +kernel
theorem dX6_trace_26 : decode cX6_trace 26 = .ok (.aload_n 0, 1) := by decide +kernel
theorem dX6_trace_27 : decode cX6_trace 27 = .ok (.iload_n 1, 1) := by decide +kernel
theorem dX6_trace_28 : decode cX6_trace 28 = .ok (.invokevirtual 92, 3) := by decide +kernel
theorem dX6_trace_31 : decode cX6_trace 31 = .ok (.getfield 72, 3) := by decide +kernel
theorem dX6_trace_34 : decode cX6_trace 34 = .ok (.astore 4, 2) := by decide +kernel
theorem dX6_trace_36 : decode cX6_trace 36 = .ok (.iload_n 3, 1) := by decide +kernel
theorem dX6_trace_37 : decode cX6_trace 37 = .ok (.tableswitch 103 0 5 #[39, 47, 55, 63, 71, 87], 39) := by decide +kernel
theorem dX6_trace_76 : decode cX6_trace 76 = .ok (.aload 4, 2) := by decide +kernel
theorem dX6_trace_78 : decode cX6_trace 78 = .ok (.getfield 153, 3) := by decide +kernel
theorem dX6_trace_81 : decode cX6_trace 81 = .ok (.iload_n 2, 1) := by decide +kernel
theorem dX6_trace_82 : decode cX6_trace 82 = .ok (.iaload, 1) := by decide +kernel
theorem dX6_trace_83 : decode cX6_trace 83 = .ok (.ireturn, 1) := by decide +kernel
theorem dX6_trace_84 : decode cX6_trace 84 = .ok (.aload 4, 2) := by decide +kernel
theorem dX6_trace_86 : decode cX6_trace 86 = .ok (.getfield 156, 3) := by decide +kernel
theorem dX6_trace_89 : decode cX6_trace 89 = .ok (.iload_n 2, 1) := by decide +kernel
theorem dX6_trace_90 : decode cX6_trace 90 = .ok (.iaload, 1) := by decide +kernel
theorem dX6_trace_91 : decode cX6_trace 91 = .ok (.ireturn, 1) := by decide +kernel
theorem dX6_trace_92 : decode cX6_trace 92 = .ok (.aload 4, 2) := by decide +kernel
theorem dX6_trace_94 : decode cX6_trace 94 = .ok (.getfield 159, 3) := by decide +kernel
theorem dX6_trace_97 : decode cX6_trace 97 = .ok (.iload_n 2, 1) := by decide +kernel
theorem dX6_trace_98 : decode cX6_trace 98 = .ok (.iaload, 1) := by decide +kernel
theorem dX6_trace_99 : decode cX6_trace 99 = .ok (.ireturn, 1) := by decide +kernel
theorem dX6_trace_100 : decode cX6_trace 100 = .ok (.aload 4, 2) := by decide +kernel
theorem dX6_trace_102 : decode cX6_trace 102 = .ok (.getfield 160, 3) := by decide +kernel
theorem dX6_trace_105 : decode cX6_trace 105 = .ok (.iload_n 2, 1) := by decide +kernel
theorem dX6_trace_106 : decode cX6_trace 106 = .ok (.iaload, 1) := by decide +kernel
theorem dX6_trace_107 : decode cX6_trace 107 = .ok (.ireturn, 1) := by decide +kernel
theorem dX6_trace_108 : decode cX6_trace 108 = .ok (.aload 4, 2) := by decide +kernel
theorem dX6_trace_110 : decode cX6_trace 110 = .ok (.getfield 107, 3) := by decide +kernel
theorem dX6_trace_113 : decode cX6_trace 113 = .ok (.iload_n 2, 1) := by decide +kernel
theorem dX6_trace_114 : decode cX6_trace 114 = .ok (.baload, 1) := by decide +kernel
theorem dX6_trace_115 : decode cX6_trace 115 = .ok (.ifCond .eq 7, 3) := by decide +kernel
theorem dX6_trace_118 : decode cX6_trace 118 = .ok (.iconst 1, 1) := by decide +kernel
theorem dX6_trace_119 : decode cX6_trace 119 = .ok (.goto 4, 3) := by decide +kernel
theorem dX6_trace_122 : decode cX6_trace 122 = .ok (.iconst 0, 1) := by decide +kernel
theorem dX6_trace_123 : decode cX6_trace 123 = .ok (.ireturn, 1) := by decide +kernel
theorem dX6_trace_124 : decode cX6_trace 124 = .ok (.aload 4, 2) := by decide +kernel
theorem dX6_trace_126 : decode cX6_trace 126 = .ok (.getfield 161, 3) := by decide +kernel
theorem dX6_trace_129 : decode cX6_trace 129 = .ok (.iload_n 2, 1) := by decide +kernel
theorem dX6_trace_130 : decode cX6_trace 130 = .ok (.baload, 1) := by decide +kernel
theorem dX6_trace_131 : decode cX6_trace 131 = .ok (.ifCond .eq 7, 3) := by decide +kernel
theorem dX6_trace_134 : decode cX6_trace 134 = .ok (.iconst 1, 1) := by decide +kernel
theorem dX6_trace_135 : decode cX6_trace 135 = .ok (.goto 4, 3) := by decide +kernel
theorem dX6_trace_138 : decode cX6_trace 138 = .ok (.iconst 0, 1) := by decide +kernel
theorem dX6_trace_139 : decode cX6_trace 139 = .ok (.ireturn, 1) := by decide +kernel
theorem dX6_trace_140 : decode cX6_trace 140 = .ok (.bipush (-99), 2) := by decide +kernel
theorem dX6_trace_142 : decode cX6_trace 142 = .ok (.ireturn, 1) := by decide +kernel
theorem dX6_ways_0 : decode cX6_ways 0 = .ok (.aload_n 0, 1) := by decide +kernel
theorem dX6_ways_1 : decode cX6_ways 1 = .ok (.iload_n 1, 1) := by decide +kernel
theorem dX6_ways_2 : decode cX6_ways 2 = .ok (.invokevirtual 85, 3) := by decide +kernel
theorem dX6_ways_5 : decode cX6_ways 5 = .ok (.ifCond .eq 14, 3) := by decide +kernel
theorem dX6_ways_8 : decode cX6_ways 8 = .ok (.aload_n 0, 1) := by decide +kernel
theorem dX6_ways_9 : decode cX6_ways 9 = .ok (.iload_n 1, 1) := by decide +kernel
theorem dX6_ways_10 : decode cX6_ways 10 = .ok (.invokevirtual 92, 3) := by decide +kernel
theorem dX6_ways_13 : decode cX6_ways 13 = .ok (.invokevirtual 164, 3) := by decide +kernel
theorem dX6_ways_16 : decode cX6_ways 16 = .ok (.goto 4, 3) := by decide +kernel
theorem dX6_ways_19 : decode cX6_ways 19 = .ok (.iconst (-1), 1) := by decide +kernel
theorem dX6_ways_20 : decode cX6_ways 20 = .ok (.ireturn, 1) := by decide +kernel
theorem dX6_may_0 : decode cX6_may 0 = .ok (.aload_n 0, 1) := by decide +kernel
theorem dX6_may_1 : decode cX6_may 1 = .ok (.iload_n 1, 1) := by decide +kernel
theorem dX6_may_2 : decode cX6_may 2 = .ok (.iload_n 2, 1) := by decide +kernel
theorem dX6_may_3 : decode cX6_may 3 = .ok (.invokevirtual 167, 3) := by decide +kernel
theorem dX6_may_6 : decode cX6_may 6 = .ok (.ifCond .eq 15, 3) := by decide +kernel
theorem dX6_may_9 : decode cX6_may 9 = .ok (.aload_n 0, 1) := by decide +kernel
theorem dX6_may_10 : decode cX6_may 10 = .ok (.iload_n 1, 1) := by decide +kernel
theorem dX6_may_11 : decode cX6_may 11 = .ok (.invokevirtual 92, 3) := by decide +kernel
theorem dX6_may_14 : decode cX6_may 14 = .ok (.iload_n 2, 1) := by decide +kernel
theorem dX6_may_15 : decode cX6_may 15 = .ok (.invokevirtual 171, 3) := by decide +kernel
theorem dX6_may_18 : decode cX6_may 18 = .ok (.goto 4, 3) := by decide +kernel
theorem dX6_may_21 : decode cX6_may 21 = .ok (.iconst (-1), 1) := by decide +kernel
theorem dX6_may_22 : decode cX6_may 22 = .ok (.ireturn, 1) := by decide +kernel
theorem dX6_surely_0 : decode cX6_surely 0 = .ok (.aload_n 0, 1) := by decide +kernel
theorem dX6_surely_1 : decode cX6_surely 1 = .ok (.iload_n 1, 1) := by decide +kernel
theorem dX6_surely_2 : decode cX6_surely 2 = .ok (.iload_n 2, 1) := by decide +kernel
theorem dX6_surely_3 : decode cX6_surely 3 = .ok (.invokevirtual 167, 3) := by decide +kernel
theorem dX6_surely_6 : decode cX6_surely 6 = .ok (.ifCond .ne 5, 3) := by decide +kernel
theorem dX6_surely_9 : decode cX6_surely 9 = .ok (.iconst (-1), 1) := by decide +kernel
theorem dX6_surely_10 : decode cX6_surely 10 = .ok (.ireturn, 1) := by decide +kernel
theorem dX6_surely_11 : decode cX6_surely 11 = .ok (.aload_n 0, 1) := by decide +kernel
theorem dX6_surely_12 : decode cX6_surely 12 = .ok (.iload_n 1, 1) := by decide +kernel
theorem dX6_surely_13 : decode cX6_surely 13 = .ok (.invokevirtual 92, 3) := by decide +kernel
theorem dX6_surely_16 : decode cX6_surely 16 = .ok (.iload_n 2, 1) := by decide +kernel
theorem dX6_surely_17 : decode cX6_surely 17 = .ok (.invokevirtual 171, 3) := by decide +kernel
theorem dX6_surely_20 : decode cX6_surely 20 = .ok (.istore_n 3, 1) := by decide +kernel
theorem dX6_surely_21 : decode cX6_surely 21 = .ok (.iload_n 3, 1) := by decide +kernel
theorem dX6_surely_22 : decode cX6_surely 22 = .ok (.invokestatic 174, 3) := by decide +kernel
theorem dX6_surely_25 : decode cX6_surely 25 = .ok (.ifCond .eq 10, 3) := by decide +kernel
theorem dX6_surely_28 : decode cX6_surely 28 = .ok (.iload_n 3, 1) := by decide +kernel
theorem dX6_surely_29 : decode cX6_surely 29 = .ok (.invokestatic 177, 3) := by decide +kernel
theorem dX6_surely_32 : decode cX6_surely 32 = .ok (.goto 4, 3) := by decide +kernel
theorem dX6_surely_35 : decode cX6_surely 35 = .ok (.iconst (-1), 1) := by decide +kernel
theorem dX6_surely_36 : decode cX6_surely 36 = .ok (.ireturn, 1) := by decide +kernel
theorem dX6_extreme_0 : decode cX6_extreme 0 = .ok (.aload_n 0, 1) := by decide +kernel
theorem dX6_extreme_1 : decode cX6_extreme 1 = .ok (.iload_n 1, 1) := by decide +kernel
theorem dX6_extreme_2 : decode cX6_extreme 2 = .ok (.invokevirtual 85, 3) := by decide +kernel
theorem dX6_extreme_5 : decode cX6_extreme 5 = .ok (.ifCond .eq 12, 3) := by decide +kernel
theorem dX6_extreme_8 : decode cX6_extreme 8 = .ok (.iload_n 2, 1) := by decide +kernel
theorem dX6_extreme_9 : decode cX6_extreme 9 = .ok (.ifCond .lt 8, 3) := by decide +kernel
theorem dX6_extreme_12 : decode cX6_extreme 12 = .ok (.iload_n 2, 1) := by decide +kernel
theorem dX6_extreme_13 : decode cX6_extreme 13 = .ok (.iconst 3, 1) := by decide +kernel
theorem dX6_extreme_14 : decode cX6_extreme 14 = .ok (.if_icmp .le 5, 3) := by decide +kernel
theorem dX6_extreme_17 : decode cX6_extreme 17 = .ok (.iconst (-1), 1) := by decide +kernel
theorem dX6_extreme_18 : decode cX6_extreme 18 = .ok (.ireturn, 1) := by decide +kernel
theorem dX6_extreme_19 : decode cX6_extreme 19 = .ok (.aload_n 0, 1) := by decide +kernel
theorem dX6_extreme_20 : decode cX6_extreme 20 = .ok (.iload_n 1, 1) := by decide +kernel
theorem dX6_extreme_21 : decode cX6_extreme 21 = .ok (.invokevirtual 92, 3) := by decide +kernel
theorem dX6_extreme_24 : decode cX6_extreme 24 = .ok (.iload_n 2, 1) := by decide +kernel
theorem dX6_extreme_25 : decode cX6_extreme 25 = .ok (.invokevirtual 182, 3) := by decide +kernel
theorem dX6_extreme_28 : decode cX6_extreme 28 = .ok (.ireturn, 1) := by decide +kernel
theorem dX6_tale_0 : decode cX6_tale 0 = .ok (.aload_n 0, 1) := by decide +kernel
theorem dX6_tale_1 : decode cX6_tale 1 = .ok (.iload_n 1, 1) := by decide +kernel
theorem dX6_tale_2 : decode cX6_tale 2 = .ok (.invokevirtual 85, 3) := by decide +kernel
theorem dX6_tale_5 : decode cX6_tale 5 = .ok (.ifCond .eq 20, 3) := by decide +kernel
theorem dX6_tale_8 : decode cX6_tale 8 = .ok (.iload_n 2, 1) := by decide +kernel
theorem dX6_tale_9 : decode cX6_tale 9 = .ok (.iconst (-1), 1) := by decide +kernel
theorem dX6_tale_10 : decode cX6_tale 10 = .ok (.if_icmp .lt 15, 3) := by decide +kernel
theorem dX6_tale_13 : decode cX6_tale 13 = .ok (.aload_n 0, 1) := by decide +kernel
theorem dX6_tale_14 : decode cX6_tale 14 = .ok (.iload_n 1, 1) := by decide +kernel
theorem dX6_tale_15 : decode cX6_tale 15 = .ok (.invokevirtual 92, 3) := by decide +kernel
theorem dX6_tale_18 : decode cX6_tale 18 = .ok (.iload_n 2, 1) := by decide +kernel
theorem dX6_tale_19 : decode cX6_tale 19 = .ok (.invokevirtual 185, 3) := by decide +kernel
theorem dX6_tale_22 : decode cX6_tale 22 = .ok (.goto 4, 3) := by decide +kernel
theorem dX6_tale_25 : decode cX6_tale 25 = .ok (.iconst (-1), 1) := by decide +kernel
theorem dX6_tale_26 : decode cX6_tale 26 = .ok (.ireturn, 1) := by decide +kernel
theorem dX6_toDoubt_0 : decode cX6_toDoubt 0 = .ok (.aload_n 0, 1) := by decide +kernel
theorem dX6_toDoubt_1 : decode cX6_toDoubt 1 = .ok (.iload_n 1, 1) := by decide +kernel
theorem dX6_toDoubt_2 : decode cX6_toDoubt 2 = .ok (.invokevirtual 85, 3) := by decide +kernel
theorem dX6_toDoubt_5 : decode cX6_toDoubt 5 = .ok (.ifCond .eq 14, 3) := by decide +kernel
theorem dX6_toDoubt_8 : decode cX6_toDoubt 8 = .ok (.aload_n 0, 1) := by decide +kernel
theorem dX6_toDoubt_9 : decode cX6_toDoubt 9 = .ok (.iload_n 1, 1) := by decide +kernel
theorem dX6_toDoubt_10 : decode cX6_toDoubt 10 = .ok (.invokevirtual 92, 3) := by decide +kernel
theorem dX6_toDoubt_13 : decode cX6_toDoubt 13 = .ok (.invokevirtual 188, 3) := by decide +kernel
end
section
theorem dX6_toDoubt_16 : decode cX6_toDoubt 16 = .ok (.goto 4, 3) := by decide +kernel
theorem dX6_toDoubt_19 : decode cX6_toDoubt 19 = .ok (.iconst (-1), 1) := by decide +kernel
theorem dX6_toDoubt_20 : decode cX6_toDoubt 20 = .ok (.ireturn, 1) := by decide +kernel
theorem dX6_away_0 : decode cX6_away 0 = .ok (.aload_n 0, 1) := by decide +kernel
theorem dX6_away_1 : decode cX6_away 1 = .ok (.iload_n 1, 1) := by decide +kernel
theorem dX6_away_2 : decode cX6_away 2 = .ok (.invokevirtual 85, 3) := by decide +kernel
theorem dX6_away_5 : decode cX6_away 5 = .ok (.ifCond .eq 14, 3) := by decide +kernel
theorem dX6_away_8 : decode cX6_away 8 = .ok (.aload_n 0, 1) := by decide +kernel
theorem dX6_away_9 : decode cX6_away 9 = .ok (.iload_n 1, 1) := by decide +kernel
theorem dX6_away_10 : decode cX6_away 10 = .ok (.invokevirtual 92, 3) := by decide +kernel
theorem dX6_away_13 : decode cX6_away 13 = .ok (.invokevirtual 191, 3) := by decide +kernel
theorem dX6_away_16 : decode cX6_away 16 = .ok (.goto 4, 3) := by decide +kernel
theorem dX6_away_19 : decode cX6_away 19 = .ok (.iconst (-1), 1) := by decide +kernel
theorem dX6_away_20 : decode cX6_away 20 = .ok (.ireturn, 1) := by decide +kernel
theorem dX6_met_0 : decode cX6_met 0 = .ok (.aload_n 0, 1) := by decide +kernel
theorem dX6_met_1 : decode cX6_met 1 = .ok (.iconst 0, 1) := by decide +kernel
theorem dX6_met_2 : decode cX6_met 2 = .ok (.iload_n 1, 1) := by decide +kernel
theorem dX6_met_3 : decode cX6_met 3 = .ok (.invokevirtual 167, 3) := by decide +kernel
theorem dX6_met_6 : decode cX6_met 6 = .ok (.ifCond .eq 12, 3) := by decide +kernel
theorem dX6_met_9 : decode cX6_met 9 = .ok (.aload_n 0, 1) := by decide +kernel
theorem dX6_met_10 : decode cX6_met 10 = .ok (.iconst 1, 1) := by decide +kernel
theorem dX6_met_11 : decode cX6_met 11 = .ok (.iload_n 1, 1) := by decide +kernel
theorem dX6_met_12 : decode cX6_met 12 = .ok (.invokevirtual 167, 3) := by decide +kernel
theorem dX6_met_15 : decode cX6_met 15 = .ok (.ifCond .ne 5, 3) := by decide +kernel
theorem dX6_met_18 : decode cX6_met 18 = .ok (.iconst (-1), 1) := by decide +kernel
theorem dX6_met_19 : decode cX6_met 19 = .ok (.ireturn, 1) := by decide +kernel
theorem dX6_met_20 : decode cX6_met 20 = .ok (.aload_n 0, 1) := by decide +kernel
theorem dX6_met_21 : decode cX6_met 21 = .ok (.getfield 41, 3) := by decide +kernel
theorem dX6_met_24 : decode cX6_met 24 = .ok (.iload_n 1, 1) := by decide +kernel
theorem dX6_met_25 : decode cX6_met 25 = .ok (.invokevirtual 171, 3) := by decide +kernel
theorem dX6_met_28 : decode cX6_met 28 = .ok (.istore_n 3, 1) := by decide +kernel
theorem dX6_met_29 : decode cX6_met 29 = .ok (.aload_n 0, 1) := by decide +kernel
theorem dX6_met_30 : decode cX6_met 30 = .ok (.getfield 45, 3) := by decide +kernel
theorem dX6_met_33 : decode cX6_met 33 = .ok (.iload_n 1, 1) := by decide +kernel
theorem dX6_met_34 : decode cX6_met 34 = .ok (.invokevirtual 171, 3) := by decide +kernel
theorem dX6_met_37 : decode cX6_met 37 = .ok (.istore 4, 2) := by decide +kernel
theorem dX6_met_39 : decode cX6_met 39 = .ok (.iload_n 2, 1) := by decide +kernel
theorem dX6_met_40 : decode cX6_met 40 = .ok (.ifCond .eq 22, 3) := by decide +kernel
theorem dX6_met_43 : decode cX6_met 43 = .ok (.iload_n 3, 1) := by decide +kernel
theorem dX6_met_44 : decode cX6_met 44 = .ok (.iload 4, 2) := by decide +kernel
theorem dX6_met_46 : decode cX6_met 46 = .ok (.if_icmp .ne 14, 3) := by decide +kernel
theorem dX6_met_49 : decode cX6_met 49 = .ok (.iload_n 3, 1) := by decide +kernel
theorem dX6_met_50 : decode cX6_met 50 = .ok (.invokestatic 174, 3) := by decide +kernel
theorem dX6_met_53 : decode cX6_met 53 = .ok (.ifCond .eq 7, 3) := by decide +kernel
theorem dX6_met_56 : decode cX6_met 56 = .ok (.iload_n 3, 1) := by decide +kernel
theorem dX6_met_57 : decode cX6_met 57 = .ok (.goto 4, 3) := by decide +kernel
theorem dX6_met_60 : decode cX6_met 60 = .ok (.iconst 0, 1) := by decide +kernel
theorem dX6_met_61 : decode cX6_met 61 = .ok (.ireturn, 1) := by decide +kernel
theorem dX6_met_62 : decode cX6_met 62 = .ok (.iload_n 3, 1) := by decide +kernel
theorem dX6_met_63 : decode cX6_met 63 = .ok (.iload 4, 2) := by decide +kernel
theorem dX6_met_65 : decode cX6_met 65 = .ok (.iand, 1) := by decide +kernel
theorem dX6_met_66 : decode cX6_met 66 = .ok (.sipush (-257), 3) := by decide +kernel
theorem dX6_met_69 : decode cX6_met 69 = .ok (.iand, 1) := by decide +kernel
theorem dX6_met_70 : decode cX6_met 70 = .ok (.ireturn, 1) := by decide +kernel
theorem dX6_leg_0 : decode cX6_leg 0 = .ok (.aload_n 0, 1) := by decide +kernel
theorem dX6_leg_1 : decode cX6_leg 1 = .ok (.getfield 16, 3) := by decide +kernel
theorem dX6_leg_4 : decode cX6_leg 4 = .ok (.iload_n 1, 1) := by decide +kernel
theorem dX6_leg_5 : decode cX6_leg 5 = .ok (.invokevirtual 122, 3) := by decide +kernel
theorem dX6_leg_8 : decode cX6_leg 8 = .ok (.ifCond .eq 10, 3) := by decide +kernel
theorem dX6_leg_11 : decode cX6_leg 11 = .ok (.iload_n 2, 1) := by decide +kernel
theorem dX6_leg_12 : decode cX6_leg 12 = .ok (.invokestatic 111, 3) := by decide +kernel
theorem dX6_leg_15 : decode cX6_leg 15 = .ok (.ifCond .ne 5, 3) := by decide +kernel
theorem dX6_leg_18 : decode cX6_leg 18 = .ok (.iconst (-1), 1) := by decide +kernel
theorem dX6_leg_19 : decode cX6_leg 19 = .ok (.ireturn, 1) := by decide +kernel
theorem dX6_leg_20 : decode cX6_leg 20 = .ok (.aload_n 0, 1) := by decide +kernel
theorem dX6_leg_21 : decode cX6_leg 21 = .ok (.getfield 53, 3) := by decide +kernel
theorem dX6_leg_24 : decode cX6_leg 24 = .ok (.iload_n 1, 1) := by decide +kernel
theorem dX6_leg_25 : decode cX6_leg 25 = .ok (.iload_n 2, 1) := by decide +kernel
theorem dX6_leg_26 : decode cX6_leg 26 = .ok (.invokevirtual 194, 3) := by decide +kernel
theorem dX6_leg_29 : decode cX6_leg 29 = .ok (.ireturn, 1) := by decide +kernel
theorem dX6_forget_0 : decode cX6_forget 0 = .ok (.aload_n 0, 1) := by decide +kernel
theorem dX6_forget_1 : decode cX6_forget 1 = .ok (.getfield 53, 3) := by decide +kernel
theorem dX6_forget_4 : decode cX6_forget 4 = .ok (.getfield 79, 3) := by decide +kernel
theorem dX6_forget_7 : decode cX6_forget 7 = .ok (.istore_n 1, 1) := by decide +kernel
theorem dX6_forget_8 : decode cX6_forget 8 = .ok (.aload_n 0, 1) := by decide +kernel
theorem dX6_forget_9 : decode cX6_forget 9 = .ok (.getfield 53, 3) := by decide +kernel
theorem dX6_forget_12 : decode cX6_forget 12 = .ok (.iconst 0, 1) := by decide +kernel
theorem dX6_forget_13 : decode cX6_forget 13 = .ok (.putfield 79, 3) := by decide +kernel
theorem dX6_forget_16 : decode cX6_forget 16 = .ok (.iload_n 1, 1) := by decide +kernel
theorem dX6_forget_17 : decode cX6_forget 17 = .ok (.ireturn, 1) := by decide +kernel
theorem dX6_barred_0 : decode cX6_barred 0 = .ok (.aload_n 0, 1) := by decide +kernel
theorem dX6_barred_1 : decode cX6_barred 1 = .ok (.iload_n 1, 1) := by decide +kernel
theorem dX6_barred_2 : decode cX6_barred 2 = .ok (.invokevirtual 85, 3) := by decide +kernel
theorem dX6_barred_5 : decode cX6_barred 5 = .ok (.ifCond .eq 21, 3) := by decide +kernel
theorem dX6_barred_8 : decode cX6_barred 8 = .ok (.aload_n 0, 1) := by decide +kernel
theorem dX6_barred_9 : decode cX6_barred 9 = .ok (.getfield 53, 3) := by decide +kernel
theorem dX6_barred_12 : decode cX6_barred 12 = .ok (.aload_n 0, 1) := by decide +kernel
theorem dX6_barred_13 : decode cX6_barred 13 = .ok (.iload_n 1, 1) := by decide +kernel
theorem dX6_barred_14 : decode cX6_barred 14 = .ok (.invokevirtual 92, 3) := by decide +kernel
theorem dX6_barred_17 : decode cX6_barred 17 = .ok (.getfield 72, 3) := by decide +kernel
theorem dX6_barred_20 : decode cX6_barred 20 = .ok (.invokevirtual 197, 3) := by decide +kernel
theorem dX6_barred_23 : decode cX6_barred 23 = .ok (.goto 4, 3) := by decide +kernel
theorem dX6_barred_26 : decode cX6_barred 26 = .ok (.iconst (-1), 1) := by decide +kernel
theorem dX6_barred_27 : decode cX6_barred 27 = .ok (.ireturn, 1) := by decide +kernel
theorem dX6_count_0 : decode cX6_count 0 = .ok (.iload_n 1, 1) := by decide +kernel
theorem dX6_count_1 : decode cX6_count 1 = .ok (.tableswitch 102 0 6 #[43, 51, 59, 67, 78, 89, 97], 43) := by decide +kernel
theorem dX6_count_44 : decode cX6_count 44 = .ok (.aload_n 0, 1) := by decide +kernel
theorem dX6_count_45 : decode cX6_count 45 = .ok (.getfield 16, 3) := by decide +kernel
theorem dX6_count_48 : decode cX6_count 48 = .ok (.getfield 201, 3) := by decide +kernel
theorem dX6_count_51 : decode cX6_count 51 = .ok (.ireturn, 1) := by decide +kernel
theorem dX6_count_52 : decode cX6_count 52 = .ok (.aload_n 0, 1) := by decide +kernel
theorem dX6_count_53 : decode cX6_count 53 = .ok (.getfield 16, 3) := by decide +kernel
theorem dX6_count_56 : decode cX6_count 56 = .ok (.getfield 82, 3) := by decide +kernel
theorem dX6_count_59 : decode cX6_count 59 = .ok (.ireturn, 1) := by decide +kernel
theorem dX6_count_60 : decode cX6_count 60 = .ok (.aload_n 0, 1) := by decide +kernel
theorem dX6_count_61 : decode cX6_count 61 = .ok (.getfield 16, 3) := by decide +kernel
theorem dX6_count_64 : decode cX6_count 64 = .ok (.getfield 204, 3) := by decide +kernel
theorem dX6_count_67 : decode cX6_count 67 = .ok (.ireturn, 1) := by decide +kernel
theorem dX6_count_68 : decode cX6_count 68 = .ok (.aload_n 0, 1) := by decide +kernel
theorem dX6_count_69 : decode cX6_count 69 = .ok (.getfield 41, 3) := by decide +kernel
theorem dX6_count_72 : decode cX6_count 72 = .ok (.getfield 72, 3) := by decide +kernel
theorem dX6_count_75 : decode cX6_count 75 = .ok (.getfield 207, 3) := by decide +kernel
theorem dX6_count_78 : decode cX6_count 78 = .ok (.ireturn, 1) := by decide +kernel
theorem dX6_count_79 : decode cX6_count 79 = .ok (.aload_n 0, 1) := by decide +kernel
theorem dX6_count_80 : decode cX6_count 80 = .ok (.getfield 45, 3) := by decide +kernel
theorem dX6_count_83 : decode cX6_count 83 = .ok (.getfield 72, 3) := by decide +kernel
theorem dX6_count_86 : decode cX6_count 86 = .ok (.getfield 207, 3) := by decide +kernel
theorem dX6_count_89 : decode cX6_count 89 = .ok (.ireturn, 1) := by decide +kernel
theorem dX6_count_90 : decode cX6_count 90 = .ok (.aload_n 0, 1) := by decide +kernel
theorem dX6_count_91 : decode cX6_count 91 = .ok (.getfield 53, 3) := by decide +kernel
theorem dX6_count_94 : decode cX6_count 94 = .ok (.getfield 79, 3) := by decide +kernel
theorem dX6_count_97 : decode cX6_count 97 = .ok (.ireturn, 1) := by decide +kernel
theorem dX6_count_98 : decode cX6_count 98 = .ok (.aload_n 0, 1) := by decide +kernel
theorem dX6_count_99 : decode cX6_count 99 = .ok (.getfield 57, 3) := by decide +kernel
theorem dX6_count_102 : decode cX6_count 102 = .ok (.ireturn, 1) := by decide +kernel
theorem dX6_count_103 : decode cX6_count 103 = .ok (.iconst (-1), 1) := by decide +kernel
theorem dX6_count_104 : decode cX6_count 104 = .ok (.ireturn, 1) := by decide +kernel
theorem dX6_isMan_0 : decode cX6_isMan 0 = .ok (.aload_n 0, 1) := by decide +kernel
theorem dX6_isMan_1 : decode cX6_isMan 1 = .ok (.getfield 16, 3) := by decide +kernel
theorem dX6_isMan_4 : decode cX6_isMan 4 = .ok (.getfield 82, 3) := by decide +kernel
theorem dX6_isMan_7 : decode cX6_isMan 7 = .ok (.ifCond .le 16, 3) := by decide +kernel
theorem dX6_isMan_10 : decode cX6_isMan 10 = .ok (.iload_n 1, 1) := by decide +kernel
theorem dX6_isMan_11 : decode cX6_isMan 11 = .ok (.ifCond .eq 8, 3) := by decide +kernel
theorem dX6_isMan_14 : decode cX6_isMan 14 = .ok (.iload_n 1, 1) := by decide +kernel
theorem dX6_isMan_15 : decode cX6_isMan 15 = .ok (.iconst 1, 1) := by decide +kernel
theorem dX6_isMan_16 : decode cX6_isMan 16 = .ok (.if_icmp .ne 7, 3) := by decide +kernel
theorem dX6_isMan_19 : decode cX6_isMan 19 = .ok (.iconst 1, 1) := by decide +kernel
theorem dX6_isMan_20 : decode cX6_isMan 20 = .ok (.goto 4, 3) := by decide +kernel
theorem dX6_isMan_23 : decode cX6_isMan 23 = .ok (.iconst 0, 1) := by decide +kernel
theorem dX6_isMan_24 : decode cX6_isMan 24 = .ok (.ireturn, 1) := by decide +kernel
theorem dX6_searchOf_0 : decode cX6_searchOf 0 = .ok (.iload_n 1, 1) := by decide +kernel
theorem dX6_searchOf_1 : decode cX6_searchOf 1 = .ok (.ifCond .ne 10, 3) := by decide +kernel
theorem dX6_searchOf_4 : decode cX6_searchOf 4 = .ok (.aload_n 0, 1) := by decide +kernel
theorem dX6_searchOf_5 : decode cX6_searchOf 5 = .ok (.getfield 41, 3) := by decide +kernel
theorem dX6_searchOf_8 : decode cX6_searchOf 8 = .ok (.goto 7, 3) := by decide +kernel
theorem dX6_searchOf_11 : decode cX6_searchOf 11 = .ok (.aload_n 0, 1) := by decide +kernel
theorem dX6_searchOf_12 : decode cX6_searchOf 12 = .ok (.getfield 45, 3) := by decide +kernel
theorem dX6_searchOf_15 : decode cX6_searchOf 15 = .ok (.areturn, 1) := by decide +kernel
theorem dX6_isTimeOf_0 : decode cX6_isTimeOf 0 = .ok (.aload_n 0, 1) := by decide +kernel
theorem dX6_isTimeOf_1 : decode cX6_isTimeOf 1 = .ok (.iload_n 1, 1) := by decide +kernel
theorem dX6_isTimeOf_2 : decode cX6_isTimeOf 2 = .ok (.invokevirtual 85, 3) := by decide +kernel
theorem dX6_isTimeOf_5 : decode cX6_isTimeOf 5 = .ok (.ifCond .eq 26, 3) := by decide +kernel
theorem dX6_isTimeOf_8 : decode cX6_isTimeOf 8 = .ok (.iload_n 2, 1) := by decide +kernel
theorem dX6_isTimeOf_9 : decode cX6_isTimeOf 9 = .ok (.ifCond .lt 22, 3) := by decide +kernel
theorem dX6_isTimeOf_12 : decode cX6_isTimeOf 12 = .ok (.iload_n 2, 1) := by decide +kernel
theorem dX6_isTimeOf_13 : decode cX6_isTimeOf 13 = .ok (.aload_n 0, 1) := by decide +kernel
theorem dX6_isTimeOf_14 : decode cX6_isTimeOf 14 = .ok (.iload_n 1, 1) := by decide +kernel
theorem dX6_isTimeOf_15 : decode cX6_isTimeOf 15 = .ok (.invokevirtual 92, 3) := by decide +kernel
theorem dX6_isTimeOf_18 : decode cX6_isTimeOf 18 = .ok (.getfield 72, 3) := by decide +kernel
theorem dX6_isTimeOf_21 : decode cX6_isTimeOf 21 = .ok (.getfield 208, 3) := by decide +kernel
theorem dX6_isTimeOf_24 : decode cX6_isTimeOf 24 = .ok (.if_icmp .gt 7, 3) := by decide +kernel
theorem dX6_isTimeOf_27 : decode cX6_isTimeOf 27 = .ok (.iconst 1, 1) := by decide +kernel
theorem dX6_isTimeOf_28 : decode cX6_isTimeOf 28 = .ok (.goto 4, 3) := by decide +kernel
theorem dX6_isTimeOf_31 : decode cX6_isTimeOf 31 = .ok (.iconst 0, 1) := by decide +kernel
theorem dX6_isTimeOf_32 : decode cX6_isTimeOf 32 = .ok (.ireturn, 1) := by decide +kernel
theorem dX6_isHour_0 : decode cX6_isHour 0 = .ok (.iload_n 0, 1) := by decide +kernel
theorem dX6_isHour_1 : decode cX6_isHour 1 = .ok (.ifCond .lt 13, 3) := by decide +kernel
theorem dX6_isHour_4 : decode cX6_isHour 4 = .ok (.iload_n 0, 1) := by decide +kernel
theorem dX6_isHour_5 : decode cX6_isHour 5 = .ok (.bipush 96, 2) := by decide +kernel
theorem dX6_isHour_7 : decode cX6_isHour 7 = .ok (.if_icmp .gt 7, 3) := by decide +kernel
theorem dX6_isHour_10 : decode cX6_isHour 10 = .ok (.iconst 1, 1) := by decide +kernel
theorem dX6_isHour_11 : decode cX6_isHour 11 = .ok (.goto 4, 3) := by decide +kernel
theorem dX6_isHour_14 : decode cX6_isHour 14 = .ok (.iconst 0, 1) := by decide +kernel
theorem dX6_isHour_15 : decode cX6_isHour 15 = .ok (.ireturn, 1) := by decide +kernel
theorem dX6_isOneTown_0 : decode cX6_isOneTown 0 = .ok (.iload_n 0, 1) := by decide +kernel
theorem dX6_isOneTown_1 : decode cX6_isOneTown 1 = .ok (.invokestatic 211, 3) := by decide +kernel
theorem dX6_isOneTown_4 : decode cX6_isOneTown 4 = .ok (.iconst 1, 1) := by decide +kernel
theorem dX6_isOneTown_5 : decode cX6_isOneTown 5 = .ok (.if_icmp .ne 14, 3) := by decide +kernel
theorem dX6_isOneTown_8 : decode cX6_isOneTown 8 = .ok (.iload_n 0, 1) := by decide +kernel
theorem dX6_isOneTown_9 : decode cX6_isOneTown 9 = .ok (.sipush 256, 3) := by decide +kernel
theorem dX6_isOneTown_12 : decode cX6_isOneTown 12 = .ok (.if_icmp .eq 7, 3) := by decide +kernel
theorem dX6_isOneTown_15 : decode cX6_isOneTown 15 = .ok (.iconst 1, 1) := by decide +kernel
theorem dX6_isOneTown_16 : decode cX6_isOneTown 16 = .ok (.goto 4, 3) := by decide +kernel
theorem dX6_isOneTown_19 : decode cX6_isOneTown 19 = .ok (.iconst 0, 1) := by decide +kernel
theorem dX6_isOneTown_20 : decode cX6_isOneTown 20 = .ok (.ireturn, 1) := by decide +kernel
theorem dX7_init_0 : decode cX7_init 0 = .ok (.aload_n 0, 1) := by decide +kernel
theorem dX7_init_1 : decode cX7_init 1 = .ok (.invokespecial 3, 3) := by decide +kernel
theorem dX7_init_4 : decode cX7_init 4 = .ok (.aload_n 0, 1) := by decide +kernel
theorem dX7_init_5 : decode cX7_init 5 = .ok (.sipush 500, 3) := by decide +kernel
theorem dX7_init_8 : decode cX7_init 8 = .ok (.newarray .byte, 2) := by decide +kernel
theorem dX7_init_10 : decode cX7_init 10 = .ok (.putfield 9, 3) := by decide +kernel
theorem dX7_init_13 : decode cX7_init 13 = .ok (.aload_n 0, 1) := by decide +kernel
theorem dX7_init_14 : decode cX7_init 14 = .ok (.iconst 4, 1) := by decide +kernel
theorem dX7_init_15 : decode cX7_init 15 = .ok (.newarray .long, 2) := by decide +kernel
theorem dX7_init_17 : decode cX7_init 17 = .ok (.putfield 13, 3) := by decide +kernel
theorem dX7_init_20 : decode cX7_init 20 = .ok (.aload_n 0, 1) := by decide +kernel
theorem dX7_init_21 : decode cX7_init 21 = .ok (.iconst 4, 1) := by decide +kernel
theorem dX7_init_22 : decode cX7_init 22 = .ok (.newarray .int, 2) := by decide +kernel
theorem dX7_init_24 : decode cX7_init 24 = .ok (.putfield 17, 3) := by decide +kernel
theorem dX7_init_27 : decode cX7_init 27 = .ok (.aload_n 0, 1) := by decide +kernel
theorem dX7_init_28 : decode cX7_init 28 = .ok (.bipush 8, 2) := by decide +kernel
theorem dX7_init_30 : decode cX7_init 30 = .ok (.newarray .long, 2) := by decide +kernel
theorem dX7_init_32 : decode cX7_init 32 = .ok (.putfield 21, 3) := by decide +kernel
theorem dX7_init_35 : decode cX7_init 35 = .ok (.aload_n 0, 1) := by decide +kernel
theorem dX7_init_36 : decode cX7_init 36 = .ok (.bipush 8, 2) := by decide +kernel
theorem dX7_init_38 : decode cX7_init 38 = .ok (.newarray .int, 2) := by decide +kernel
theorem dX7_init_40 : decode cX7_init 40 = .ok (.putfield 24, 3) := by decide +kernel
theorem dX7_init_43 : decode cX7_init 43 = .ok (.aload_n 0, 1) := by decide +kernel
theorem dX7_init_44 : decode cX7_init 44 = .ok (.bipush 8, 2) := by decide +kernel
theorem dX7_init_46 : decode cX7_init 46 = .ok (.newarray .int, 2) := by decide +kernel
theorem dX7_init_48 : decode cX7_init 48 = .ok (.putfield 27, 3) := by decide +kernel
theorem dX7_init_51 : decode cX7_init 51 = .ok (.aload_n 0, 1) := by decide +kernel
theorem dX7_init_52 : decode cX7_init 52 = .ok (.bipush 96, 2) := by decide +kernel
theorem dX7_init_54 : decode cX7_init 54 = .ok (.newarray .int, 2) := by decide +kernel
theorem dX7_init_56 : decode cX7_init 56 = .ok (.putfield 30, 3) := by decide +kernel
theorem dX7_init_59 : decode cX7_init 59 = .ok (.aload_n 0, 1) := by decide +kernel
theorem dX7_init_60 : decode cX7_init 60 = .ok (.iconst 4, 1) := by decide +kernel
theorem dX7_init_61 : decode cX7_init 61 = .ok (.newarray .int, 2) := by decide +kernel
theorem dX7_init_63 : decode cX7_init 63 = .ok (.putfield 33, 3) := by decide +kernel
theorem dX7_init_66 : decode cX7_init 66 = .ok (.aload_n 0, 1) := by decide +kernel
theorem dX7_init_67 : decode cX7_init 67 = .ok (.bipush 8, 2) := by decide +kernel
theorem dX7_init_69 : decode cX7_init 69 = .ok (.newarray .int, 2) := by decide +kernel
theorem dX7_init_71 : decode cX7_init 71 = .ok (.putfield 36, 3) := by decide +kernel
theorem dX7_init_74 : decode cX7_init 74 = .ok (.aload_n 0, 1) := by decide +kernel
theorem dX7_init_75 : decode cX7_init 75 = .ok (.bipush 8, 2) := by decide +kernel
theorem dX7_init_77 : decode cX7_init 77 = .ok (.newarray .int, 2) := by decide +kernel
theorem dX7_init_79 : decode cX7_init 79 = .ok (.putfield 39, 3) := by decide +kernel
theorem dX7_init_82 : decode cX7_init 82 = .ok (.aload_n 0, 1) := by decide +kernel
theorem dX7_init_83 : decode cX7_init 83 = .ok (.bipush 96, 2) := by decide +kernel
theorem dX7_init_85 : decode cX7_init 85 = .ok (.newarray .int, 2) := by decide +kernel
theorem dX7_init_87 : decode cX7_init 87 = .ok (.putfield 42, 3) := by decide +kernel
theorem dX7_init_90 : decode cX7_init 90 = .ok (.aload_n 0, 1) := by decide +kernel
theorem dX7_init_91 : decode cX7_init 91 = .ok (.iconst 2, 1) := by decide +kernel
theorem dX7_init_92 : decode cX7_init 92 = .ok (.newarray .int, 2) := by decide +kernel
theorem dX7_init_94 : decode cX7_init 94 = .ok (.putfield 45, 3) := by decide +kernel
theorem dX7_init_97 : decode cX7_init 97 = .ok (.aload_n 0, 1) := by decide +kernel
theorem dX7_init_98 : decode cX7_init 98 = .ok (.iconst 2, 1) := by decide +kernel
theorem dX7_init_99 : decode cX7_init 99 = .ok (.newarray .int, 2) := by decide +kernel
theorem dX7_init_101 : decode cX7_init 101 = .ok (.putfield 48, 3) := by decide +kernel
theorem dX7_init_104 : decode cX7_init 104 = .ok (.aload_n 0, 1) := by decide +kernel
theorem dX7_init_105 : decode cX7_init 105 = .ok (.iconst 2, 1) := by decide +kernel
theorem dX7_init_106 : decode cX7_init 106 = .ok (.newarray .int, 2) := by decide +kernel
theorem dX7_init_108 : decode cX7_init 108 = .ok (.putfield 51, 3) := by decide +kernel
theorem dX7_init_111 : decode cX7_init 111 = .ok (.aload_n 0, 1) := by decide +kernel
theorem dX7_init_112 : decode cX7_init 112 = .ok (.iconst 2, 1) := by decide +kernel
theorem dX7_init_113 : decode cX7_init 113 = .ok (.newarray .int, 2) := by decide +kernel
theorem dX7_init_115 : decode cX7_init 115 = .ok (.putfield 54, 3) := by decide +kernel
theorem dX7_init_118 : decode cX7_init 118 = .ok (.aload_n 0, 1) := by decide +kernel
theorem dX7_init_119 : decode cX7_init 119 = .ok (.bipush 16, 2) := by decide +kernel
theorem dX7_init_121 : decode cX7_init 121 = .ok (.newarray .int, 2) := by decide +kernel
theorem dX7_init_123 : decode cX7_init 123 = .ok (.putfield 57, 3) := by decide +kernel
theorem dX7_init_126 : decode cX7_init 126 = .ok (.aload_n 0, 1) := by decide +kernel
theorem dX7_init_127 : decode cX7_init 127 = .ok (.bipush 16, 2) := by decide +kernel
theorem dX7_init_129 : decode cX7_init 129 = .ok (.newarray .int, 2) := by decide +kernel
theorem dX7_init_131 : decode cX7_init 131 = .ok (.putfield 60, 3) := by decide +kernel
theorem dX7_init_134 : decode cX7_init 134 = .ok (.aload_n 0, 1) := by decide +kernel
theorem dX7_init_135 : decode cX7_init 135 = .ok (.bipush 16, 2) := by decide +kernel
theorem dX7_init_137 : decode cX7_init 137 = .ok (.newarray .int, 2) := by decide +kernel
theorem dX7_init_139 : decode cX7_init 139 = .ok (.putfield 63, 3) := by decide +kernel
theorem dX7_init_142 : decode cX7_init 142 = .ok (.aload_n 0, 1) := by decide +kernel
theorem dX7_init_143 : decode cX7_init 143 = .ok (.bipush 16, 2) := by decide +kernel
theorem dX7_init_145 : decode cX7_init 145 = .ok (.newarray .int, 2) := by decide +kernel
theorem dX7_init_147 : decode cX7_init 147 = .ok (.putfield 66, 3) := by decide +kernel
theorem dX7_init_150 : decode cX7_init 150 = .ok (.aload_n 0, 1) := by decide +kernel
theorem dX7_init_151 : decode cX7_init 151 = .ok (.bipush 16, 2) := by decide +kernel
theorem dX7_init_153 : decode cX7_init 153 = .ok (.newarray .int, 2) := by decide +kernel
theorem dX7_init_155 : decode cX7_init 155 = .ok (.putfield 69, 3) := by decide +kernel
theorem dX7_init_158 : decode cX7_init 158 = .ok (.aload_n 0, 1) := by decide +kernel
theorem dX7_init_159 : decode cX7_init 159 = .ok (.bipush 16, 2) := by decide +kernel
theorem dX7_init_161 : decode cX7_init 161 = .ok (.newarray .boolean, 2) := by decide +kernel
theorem dX7_init_163 : decode cX7_init 163 = .ok (.putfield 72, 3) := by decide +kernel
theorem dX7_init_166 : decode cX7_init 166 = .ok (.aload_n 0, 1) := by decide +kernel
theorem dX7_init_167 : decode cX7_init 167 = .ok (.bipush 20, 2) := by decide +kernel
theorem dX7_init_169 : decode cX7_init 169 = .ok (.newarray .int, 2) := by decide +kernel
theorem dX7_init_171 : decode cX7_init 171 = .ok (.putfield 76, 3) := by decide +kernel
theorem dX7_init_174 : decode cX7_init 174 = .ok (.aload_n 0, 1) := by decide +kernel
theorem dX7_init_175 : decode cX7_init 175 = .ok (.bipush 20, 2) := by decide +kernel
theorem dX7_init_177 : decode cX7_init 177 = .ok (.newarray .int, 2) := by decide +kernel
theorem dX7_init_179 : decode cX7_init 179 = .ok (.putfield 79, 3) := by decide +kernel
theorem dX7_init_182 : decode cX7_init 182 = .ok (.aload_n 0, 1) := by decide +kernel
theorem dX7_init_183 : decode cX7_init 183 = .ok (.bipush 6, 2) := by decide +kernel
theorem dX7_init_185 : decode cX7_init 185 = .ok (.newarray .int, 2) := by decide +kernel
theorem dX7_init_187 : decode cX7_init 187 = .ok (.putfield 82, 3) := by decide +kernel
theorem dX7_init_190 : decode cX7_init 190 = .ok (.aload_n 0, 1) := by decide +kernel
theorem dX7_init_191 : decode cX7_init 191 = .ok (.bipush 97, 2) := by decide +kernel
theorem dX7_init_193 : decode cX7_init 193 = .ok (.newarray .int, 2) := by decide +kernel
theorem dX7_init_195 : decode cX7_init 195 = .ok (.putfield 85, 3) := by decide +kernel
theorem dX7_init_198 : decode cX7_init 198 = .ok (.aload_n 0, 1) := by decide +kernel
theorem dX7_init_199 : decode cX7_init 199 = .ok (.iconst 2, 1) := by decide +kernel
theorem dX7_init_200 : decode cX7_init 200 = .ok (.newarray .int, 2) := by decide +kernel
theorem dX7_init_202 : decode cX7_init 202 = .ok (.putfield 88, 3) := by decide +kernel
theorem dX7_init_205 : decode cX7_init 205 = .ok (.aload_n 0, 1) := by decide +kernel
theorem dX7_init_206 : decode cX7_init 206 = .ok (.iconst 2, 1) := by decide +kernel
theorem dX7_init_207 : decode cX7_init 207 = .ok (.newarray .int, 2) := by decide +kernel
theorem dX7_init_209 : decode cX7_init 209 = .ok (.putfield 91, 3) := by decide +kernel
theorem dX7_init_212 : decode cX7_init 212 = .ok (.aload_n 0, 1) := by decide +kernel
theorem dX7_init_213 : decode cX7_init 213 = .ok (.iconst 2, 1) := by decide +kernel
theorem dX7_init_214 : decode cX7_init 214 = .ok (.newarray .int, 2) := by decide +kernel
theorem dX7_init_216 : decode cX7_init 216 = .ok (.putfield 94, 3) := by decide +kernel
theorem dX7_init_219 : decode cX7_init 219 = .ok (.aload_n 0, 1) := by decide +kernel
theorem dX7_init_220 : decode cX7_init 220 = .ok (.ldc 97, 2) := by decide +kernel
theorem dX7_init_222 : decode cX7_init 222 = .ok (.newarray .int, 2) := by decide +kernel
theorem dX7_init_224 : decode cX7_init 224 = .ok (.putfield 98, 3) := by decide +kernel
theorem dX7_init_227 : decode cX7_init 227 = .ok (.aload_n 0, 1) := by decide +kernel
theorem dX7_init_228 : decode cX7_init 228 = .ok (.ldc 97, 2) := by decide +kernel
theorem dX7_init_230 : decode cX7_init 230 = .ok (.newarray .int, 2) := by decide +kernel
theorem dX7_init_232 : decode cX7_init 232 = .ok (.putfield 101, 3) := by decide +kernel
theorem dX7_init_235 : decode cX7_init 235 = .ok (.aload_n 0, 1) := by decide +kernel
theorem dX7_init_236 : decode cX7_init 236 = .ok (.ldc 97, 2) := by decide +kernel
theorem dX7_init_238 : decode cX7_init 238 = .ok (.newarray .boolean, 2) := by decide +kernel
theorem dX7_init_240 : decode cX7_init 240 = .ok (.putfield 104, 3) := by decide +kernel
theorem dX7_init_243 : decode cX7_init 243 = .ok (.aload_n 0, 1) := by decide +kernel
theorem dX7_init_244 : decode cX7_init 244 = .ok (.bipush 97, 2) := by decide +kernel
theorem dX7_init_246 : decode cX7_init 246 = .ok (.newarray .int, 2) := by decide +kernel
theorem dX7_init_248 : decode cX7_init 248 = .ok (.putfield 107, 3) := by decide +kernel
theorem dX7_init_251 : decode cX7_init 251 = .ok (.aload_n 0, 1) := by decide +kernel
theorem dX7_init_252 : decode cX7_init 252 = .ok (.bipush 97, 2) := by decide +kernel
theorem dX7_init_254 : decode cX7_init 254 = .ok (.newarray .boolean, 2) := by decide +kernel
theorem dX7_init_256 : decode cX7_init 256 = .ok (.putfield 110, 3) := by decide +kernel
theorem dX7_init_259 : decode cX7_init 259 = .ok (.return_, 1) := by decide +kernel
theorem dX7_in_0 : decode cX7_in 0 = .ok (.iload_n 0, 1) := by decide +kernel
theorem dX7_in_1 : decode cX7_in 1 = .ok (.iload_n 1, 1) := by decide +kernel
theorem dX7_in_2 : decode cX7_in 2 = .ok (.if_icmp .lt 12, 3) := by decide +kernel
theorem dX7_in_5 : decode cX7_in 5 = .ok (.iload_n 0, 1) := by decide +kernel
theorem dX7_in_6 : decode cX7_in 6 = .ok (.iload_n 2, 1) := by decide +kernel
theorem dX7_in_7 : decode cX7_in 7 = .ok (.if_icmp .gt 7, 3) := by decide +kernel
theorem dX7_in_10 : decode cX7_in 10 = .ok (.iconst 1, 1) := by decide +kernel
theorem dX7_in_11 : decode cX7_in 11 = .ok (.goto 4, 3) := by decide +kernel
theorem dX7_in_14 : decode cX7_in 14 = .ok (.iconst 0, 1) := by decide +kernel
theorem dX7_in_15 : decode cX7_in 15 = .ok (.ireturn, 1) := by decide +kernel
theorem dX7_feed_0 : decode cX7_feed 0 = .ok (.aload_n 0, 1) := by decide +kernel
theorem dX7_feed_1 : decode cX7_feed 1 = .ok (.getfield 113, 3) := by decide +kernel
theorem dX7_feed_4 : decode cX7_feed 4 = .ok (.bipush 20, 2) := by decide +kernel
theorem dX7_feed_6 : decode cX7_feed 6 = .ok (.iadd, 1) := by decide +kernel
theorem dX7_feed_7 : decode cX7_feed 7 = .ok (.sipush 500, 3) := by decide +kernel
theorem dX7_feed_10 : decode cX7_feed 10 = .ok (.if_icmp .le 5, 3) := by decide +kernel
theorem dX7_feed_13 : decode cX7_feed 13 = .ok (.iconst (-1), 1) := by decide +kernel
theorem dX7_feed_14 : decode cX7_feed 14 = .ok (.ireturn, 1) := by decide +kernel
theorem dX7_feed_15 : decode cX7_feed 15 = .ok (.iconst 0, 1) := by decide +kernel
theorem dX7_feed_16 : decode cX7_feed 16 = .ok (.istore 6, 2) := by decide +kernel
theorem dX7_feed_18 : decode cX7_feed 18 = .ok (.iload 6, 2) := by decide +kernel
theorem dX7_feed_20 : decode cX7_feed 20 = .ok (.bipush 20, 2) := by decide +kernel
theorem dX7_feed_22 : decode cX7_feed 22 = .ok (.if_icmp .ge 90, 3) := by decide +kernel
theorem dX7_feed_25 : decode cX7_feed 25 = .ok (.iload 6, 2) := by decide +kernel
theorem dX7_feed_27 : decode cX7_feed 27 = .ok (.iconst 4, 1) := by decide +kernel
theorem dX7_feed_28 : decode cX7_feed 28 = .ok (.if_icmp .ge 7, 3) := by decide +kernel
theorem dX7_feed_31 : decode cX7_feed 31 = .ok (.iload_n 1, 1) := by decide +kernel
theorem dX7_feed_32 : decode cX7_feed 32 = .ok (.goto 39, 3) := by decide +kernel
theorem dX7_feed_35 : decode cX7_feed 35 = .ok (.iload 6, 2) := by decide +kernel
theorem dX7_feed_37 : decode cX7_feed 37 = .ok (.bipush 8, 2) := by decide +kernel
theorem dX7_feed_39 : decode cX7_feed 39 = .ok (.if_icmp .ge 7, 3) := by decide +kernel
theorem dX7_feed_42 : decode cX7_feed 42 = .ok (.iload_n 2, 1) := by decide +kernel
theorem dX7_feed_43 : decode cX7_feed 43 = .ok (.goto 28, 3) := by decide +kernel
theorem dX7_feed_46 : decode cX7_feed 46 = .ok (.iload 6, 2) := by decide +kernel
theorem dX7_feed_48 : decode cX7_feed 48 = .ok (.bipush 12, 2) := by decide +kernel
theorem dX7_feed_50 : decode cX7_feed 50 = .ok (.if_icmp .ge 7, 3) := by decide +kernel
theorem dX7_feed_53 : decode cX7_feed 53 = .ok (.iload_n 3, 1) := by decide +kernel
theorem dX7_feed_54 : decode cX7_feed 54 = .ok (.goto 17, 3) := by decide +kernel
theorem dX7_feed_57 : decode cX7_feed 57 = .ok (.iload 6, 2) := by decide +kernel
theorem dX7_feed_59 : decode cX7_feed 59 = .ok (.bipush 16, 2) := by decide +kernel
theorem dX7_feed_61 : decode cX7_feed 61 = .ok (.if_icmp .ge 8, 3) := by decide +kernel
theorem dX7_feed_64 : decode cX7_feed 64 = .ok (.iload 4, 2) := by decide +kernel
theorem dX7_feed_66 : decode cX7_feed 66 = .ok (.goto 5, 3) := by decide +kernel
theorem dX7_feed_69 : decode cX7_feed 69 = .ok (.iload 5, 2) := by decide +kernel
theorem dX7_feed_71 : decode cX7_feed 71 = .ok (.istore 7, 2) := by decide +kernel
theorem dX7_feed_73 : decode cX7_feed 73 = .ok (.aload_n 0, 1) := by decide +kernel
theorem dX7_feed_74 : decode cX7_feed 74 = .ok (.getfield 9, 3) := by decide +kernel
theorem dX7_feed_77 : decode cX7_feed 77 = .ok (.aload_n 0, 1) := by decide +kernel
theorem dX7_feed_78 : decode cX7_feed 78 = .ok (.getfield 113, 3) := by decide +kernel
theorem dX7_feed_81 : decode cX7_feed 81 = .ok (.iload 7, 2) := by decide +kernel
theorem dX7_feed_83 : decode cX7_feed 83 = .ok (.bipush 24, 2) := by decide +kernel
theorem dX7_feed_85 : decode cX7_feed 85 = .ok (.bipush 8, 2) := by decide +kernel
theorem dX7_feed_87 : decode cX7_feed 87 = .ok (.iload 6, 2) := by decide +kernel
theorem dX7_feed_89 : decode cX7_feed 89 = .ok (.iconst 4, 1) := by decide +kernel
theorem dX7_feed_90 : decode cX7_feed 90 = .ok (.irem, 1) := by decide +kernel
theorem dX7_feed_91 : decode cX7_feed 91 = .ok (.imul, 1) := by decide +kernel
theorem dX7_feed_92 : decode cX7_feed 92 = .ok (.isub, 1) := by decide +kernel
theorem dX7_feed_93 : decode cX7_feed 93 = .ok (.ishr, 1) := by decide +kernel
theorem dX7_feed_94 : decode cX7_feed 94 = .ok (.i2b, 1) := by decide +kernel
theorem dX7_feed_95 : decode cX7_feed 95 = .ok (.bastore, 1) := by decide +kernel
theorem dX7_feed_96 : decode cX7_feed 96 = .ok (.aload_n 0, 1) := by decide +kernel
theorem dX7_feed_97 : decode cX7_feed 97 = .ok (.dup, 1) := by decide +kernel
theorem dX7_feed_98 : decode cX7_feed 98 = .ok (.getfield 113, 3) := by decide +kernel
theorem dX7_feed_101 : decode cX7_feed 101 = .ok (.iconst 1, 1) := by decide +kernel
theorem dX7_feed_102 : decode cX7_feed 102 = .ok (.iadd, 1) := by decide +kernel
theorem dX7_feed_103 : decode cX7_feed 103 = .ok (.putfield 113, 3) := by decide +kernel
theorem dX7_feed_106 : decode cX7_feed 106 = .ok (.iinc 6 1, 3) := by decide +kernel
theorem dX7_feed_109 : decode cX7_feed 109 = .ok (.goto (-91), 3) := by decide +kernel
theorem dX7_feed_112 : decode cX7_feed 112 = .ok (.aload_n 0, 1) := by decide +kernel
theorem dX7_feed_113 : decode cX7_feed 113 = .ok (.getfield 113, 3) := by decide +kernel
theorem dX7_feed_116 : decode cX7_feed 116 = .ok (.ireturn, 1) := by decide +kernel
theorem dX7_end_0 : decode cX7_end 0 = .ok (.iload_n 1, 1) := by decide +kernel
theorem dX7_end_1 : decode cX7_end 1 = .ok (.iconst 0, 1) := by decide +kernel
theorem dX7_end_2 : decode cX7_end 2 = .ok (.aload_n 0, 1) := by decide +kernel
theorem dX7_end_3 : decode cX7_end 3 = .ok (.getfield 113, 3) := by decide +kernel
theorem dX7_end_6 : decode cX7_end 6 = .ok (.invokestatic 117, 3) := by decide +kernel
theorem dX7_end_9 : decode cX7_end 9 = .ok (.ifCond .ne 5, 3) := by decide +kernel
theorem dX7_end_12 : decode cX7_end 12 = .ok (.iconst 0, 1) := by decide +kernel
theorem dX7_end_13 : decode cX7_end 13 = .ok (.ireturn, 1) := by decide +kernel
theorem dX7_end_14 : decode cX7_end 14 = .ok (.aload_n 0, 1) := by decide +kernel
theorem dX7_end_15 : decode cX7_end 15 = .ok (.iload_n 1, 1) := by decide +kernel
theorem dX7_end_16 : decode cX7_end 16 = .ok (.putfield 113, 3) := by decide +kernel
theorem dX7_end_19 : decode cX7_end 19 = .ok (.iconst 1, 1) := by decide +kernel
theorem dX7_end_20 : decode cX7_end 20 = .ok (.ireturn, 1) := by decide +kernel
theorem dX7_isLetter_0 : decode cX7_isLetter 0 = .ok (.iload_n 0, 1) := by decide +kernel
theorem dX7_isLetter_1 : decode cX7_isLetter 1 = .ok (.bipush 97, 2) := by decide +kernel
theorem dX7_isLetter_3 : decode cX7_isLetter 3 = .ok (.if_icmp .lt 13, 3) := by decide +kernel
theorem dX7_isLetter_6 : decode cX7_isLetter 6 = .ok (.iload_n 0, 1) := by decide +kernel
theorem dX7_isLetter_7 : decode cX7_isLetter 7 = .ok (.bipush 122, 2) := by decide +kernel
theorem dX7_isLetter_9 : decode cX7_isLetter 9 = .ok (.if_icmp .gt 7, 3) := by decide +kernel
theorem dX7_isLetter_12 : decode cX7_isLetter 12 = .ok (.iconst 1, 1) := by decide +kernel
theorem dX7_isLetter_13 : decode cX7_isLetter 13 = .ok (.goto 4, 3) := by decide +kernel
theorem dX7_isLetter_16 : decode cX7_isLetter 16 = .ok (.iconst 0, 1) := by decide +kernel
theorem dX7_isLetter_17 : decode cX7_isLetter 17 = .ok (.ireturn, 1) := by decide +kernel
theorem dX7_isDigit_0 : decode cX7_isDigit 0 = .ok (.iload_n 0, 1) := by decide +kernel
theorem dX7_isDigit_1 : decode cX7_isDigit 1 = .ok (.bipush 48, 2) := by decide +kernel
theorem dX7_isDigit_3 : decode cX7_isDigit 3 = .ok (.if_icmp .lt 13, 3) := by decide +kernel
theorem dX7_isDigit_6 : decode cX7_isDigit 6 = .ok (.iload_n 0, 1) := by decide +kernel
theorem dX7_isDigit_7 : decode cX7_isDigit 7 = .ok (.bipush 57, 2) := by decide +kernel
theorem dX7_isDigit_9 : decode cX7_isDigit 9 = .ok (.if_icmp .gt 7, 3) := by decide +kernel
theorem dX7_isDigit_12 : decode cX7_isDigit 12 = .ok (.iconst 1, 1) := by decide +kernel
theorem dX7_isDigit_13 : decode cX7_isDigit 13 = .ok (.goto 4, 3) := by decide +kernel
theorem dX7_isDigit_16 : decode cX7_isDigit 16 = .ok (.iconst 0, 1) := by decide +kernel
theorem dX7_isDigit_17 : decode cX7_isDigit 17 = .ok (.ireturn, 1) := by decide +kernel
theorem dX7_next_0 : decode cX7_next 0 = .ok (.aload_n 0, 1) := by decide +kernel
theorem dX7_next_1 : decode cX7_next 1 = .ok (.getfield 121, 3) := by decide +kernel
theorem dX7_next_4 : decode cX7_next 4 = .ok (.aload_n 0, 1) := by decide +kernel
theorem dX7_next_5 : decode cX7_next 5 = .ok (.getfield 113, 3) := by decide +kernel
theorem dX7_next_8 : decode cX7_next 8 = .ok (.if_icmp .ge 44, 3) := by decide +kernel
theorem dX7_next_11 : decode cX7_next 11 = .ok (.aload_n 0, 1) := by decide +kernel
theorem dX7_next_12 : decode cX7_next 12 = .ok (.getfield 9, 3) := by decide +kernel
theorem dX7_next_15 : decode cX7_next 15 = .ok (.aload_n 0, 1) := by decide +kernel
theorem dX7_next_16 : decode cX7_next 16 = .ok (.getfield 121, 3) := by decide +kernel
theorem dX7_next_19 : decode cX7_next 19 = .ok (.baload, 1) := by decide +kernel
theorem dX7_next_20 : decode cX7_next 20 = .ok (.bipush 32, 2) := by decide +kernel
theorem dX7_next_22 : decode cX7_next 22 = .ok (.if_icmp .eq 17, 3) := by decide +kernel
theorem dX7_next_25 : decode cX7_next 25 = .ok (.aload_n 0, 1) := by decide +kernel
theorem dX7_next_26 : decode cX7_next 26 = .ok (.getfield 9, 3) := by decide +kernel
theorem dX7_next_29 : decode cX7_next 29 = .ok (.aload_n 0, 1) := by decide +kernel
theorem dX7_next_30 : decode cX7_next 30 = .ok (.getfield 121, 3) := by decide +kernel
theorem dX7_next_33 : decode cX7_next 33 = .ok (.baload, 1) := by decide +kernel
theorem dX7_next_34 : decode cX7_next 34 = .ok (.bipush 10, 2) := by decide +kernel
theorem dX7_next_36 : decode cX7_next 36 = .ok (.if_icmp .ne 16, 3) := by decide +kernel
theorem dX7_next_39 : decode cX7_next 39 = .ok (.aload_n 0, 1) := by decide +kernel
theorem dX7_next_40 : decode cX7_next 40 = .ok (.dup, 1) := by decide +kernel
theorem dX7_next_41 : decode cX7_next 41 = .ok (.getfield 121, 3) := by decide +kernel
theorem dX7_next_44 : decode cX7_next 44 = .ok (.iconst 1, 1) := by decide +kernel
theorem dX7_next_45 : decode cX7_next 45 = .ok (.iadd, 1) := by decide +kernel
theorem dX7_next_46 : decode cX7_next 46 = .ok (.putfield 121, 3) := by decide +kernel
theorem dX7_next_49 : decode cX7_next 49 = .ok (.goto (-49), 3) := by decide +kernel
theorem dX7_next_52 : decode cX7_next 52 = .ok (.aload_n 0, 1) := by decide +kernel
theorem dX7_next_53 : decode cX7_next 53 = .ok (.aload_n 0, 1) := by decide +kernel
theorem dX7_next_54 : decode cX7_next 54 = .ok (.getfield 121, 3) := by decide +kernel
theorem dX7_next_57 : decode cX7_next 57 = .ok (.putfield 124, 3) := by decide +kernel
theorem dX7_next_60 : decode cX7_next 60 = .ok (.aload_n 0, 1) := by decide +kernel
theorem dX7_next_61 : decode cX7_next 61 = .ok (.lconst 0, 1) := by decide +kernel
theorem dX7_next_62 : decode cX7_next 62 = .ok (.putfield 127, 3) := by decide +kernel
theorem dX7_next_65 : decode cX7_next 65 = .ok (.aload_n 0, 1) := by decide +kernel
theorem dX7_next_66 : decode cX7_next 66 = .ok (.iconst 0, 1) := by decide +kernel
theorem dX7_next_67 : decode cX7_next 67 = .ok (.putfield 131, 3) := by decide +kernel
theorem dX7_next_70 : decode cX7_next 70 = .ok (.aload_n 0, 1) := by decide +kernel
theorem dX7_next_71 : decode cX7_next 71 = .ok (.getfield 121, 3) := by decide +kernel
theorem dX7_next_74 : decode cX7_next 74 = .ok (.aload_n 0, 1) := by decide +kernel
theorem dX7_next_75 : decode cX7_next 75 = .ok (.getfield 113, 3) := by decide +kernel
theorem dX7_next_78 : decode cX7_next 78 = .ok (.if_icmp .ne 4, 3) := by decide +kernel
theorem dX7_next_81 : decode cX7_next 81 = .ok (.return_, 1) := by decide +kernel
theorem dX7_next_82 : decode cX7_next 82 = .ok (.aload_n 0, 1) := by decide +kernel
theorem dX7_next_83 : decode cX7_next 83 = .ok (.getfield 9, 3) := by decide +kernel
theorem dX7_next_86 : decode cX7_next 86 = .ok (.aload_n 0, 1) := by decide +kernel
theorem dX7_next_87 : decode cX7_next 87 = .ok (.getfield 121, 3) := by decide +kernel
theorem dX7_next_90 : decode cX7_next 90 = .ok (.baload, 1) := by decide +kernel
theorem dX7_next_91 : decode cX7_next 91 = .ok (.istore_n 1, 1) := by decide +kernel
theorem dX7_next_92 : decode cX7_next 92 = .ok (.iload_n 1, 1) := by decide +kernel
theorem dX7_next_93 : decode cX7_next 93 = .ok (.invokestatic 134, 3) := by decide +kernel
theorem dX7_next_96 : decode cX7_next 96 = .ok (.ifCond .eq 105, 3) := by decide +kernel
theorem dX7_next_99 : decode cX7_next 99 = .ok (.aload_n 0, 1) := by decide +kernel
theorem dX7_next_100 : decode cX7_next 100 = .ok (.getfield 121, 3) := by decide +kernel
theorem dX7_next_103 : decode cX7_next 103 = .ok (.aload_n 0, 1) := by decide +kernel
theorem dX7_next_104 : decode cX7_next 104 = .ok (.getfield 113, 3) := by decide +kernel
theorem dX7_next_107 : decode cX7_next 107 = .ok (.if_icmp .ge 67, 3) := by decide +kernel
theorem dX7_next_110 : decode cX7_next 110 = .ok (.aload_n 0, 1) := by decide +kernel
theorem dX7_next_111 : decode cX7_next 111 = .ok (.getfield 9, 3) := by decide +kernel
theorem dX7_next_114 : decode cX7_next 114 = .ok (.aload_n 0, 1) := by decide +kernel
theorem dX7_next_115 : decode cX7_next 115 = .ok (.getfield 121, 3) := by decide +kernel
theorem dX7_next_118 : decode cX7_next 118 = .ok (.baload, 1) := by decide +kernel
theorem dX7_next_119 : decode cX7_next 119 = .ok (.invokestatic 134, 3) := by decide +kernel
theorem dX7_next_122 : decode cX7_next 122 = .ok (.ifCond .eq 52, 3) := by decide +kernel
theorem dX7_next_125 : decode cX7_next 125 = .ok (.aload_n 0, 1) := by decide +kernel
theorem dX7_next_126 : decode cX7_next 126 = .ok (.getfield 121, 3) := by decide +kernel
theorem dX7_next_129 : decode cX7_next 129 = .ok (.aload_n 0, 1) := by decide +kernel
theorem dX7_next_130 : decode cX7_next 130 = .ok (.getfield 124, 3) := by decide +kernel
theorem dX7_next_133 : decode cX7_next 133 = .ok (.isub, 1) := by decide +kernel
theorem dX7_next_134 : decode cX7_next 134 = .ok (.bipush 8, 2) := by decide +kernel
theorem dX7_next_136 : decode cX7_next 136 = .ok (.if_icmp .ge 25, 3) := by decide +kernel
theorem dX7_next_139 : decode cX7_next 139 = .ok (.aload_n 0, 1) := by decide +kernel
theorem dX7_next_140 : decode cX7_next 140 = .ok (.aload_n 0, 1) := by decide +kernel
theorem dX7_next_141 : decode cX7_next 141 = .ok (.getfield 127, 3) := by decide +kernel
theorem dX7_next_144 : decode cX7_next 144 = .ok (.bipush 8, 2) := by decide +kernel
theorem dX7_next_146 : decode cX7_next 146 = .ok (.lshl, 1) := by decide +kernel
theorem dX7_next_147 : decode cX7_next 147 = .ok (.aload_n 0, 1) := by decide +kernel
theorem dX7_next_148 : decode cX7_next 148 = .ok (.getfield 9, 3) := by decide +kernel
theorem dX7_next_151 : decode cX7_next 151 = .ok (.aload_n 0, 1) := by decide +kernel
theorem dX7_next_152 : decode cX7_next 152 = .ok (.getfield 121, 3) := by decide +kernel
theorem dX7_next_155 : decode cX7_next 155 = .ok (.baload, 1) := by decide +kernel
theorem dX7_next_156 : decode cX7_next 156 = .ok (.i2l, 1) := by decide +kernel
theorem dX7_next_157 : decode cX7_next 157 = .ok (.lor, 1) := by decide +kernel
theorem dX7_next_158 : decode cX7_next 158 = .ok (.putfield 127, 3) := by decide +kernel
theorem dX7_next_161 : decode cX7_next 161 = .ok (.aload_n 0, 1) := by decide +kernel
theorem dX7_next_162 : decode cX7_next 162 = .ok (.dup, 1) := by decide +kernel
theorem dX7_next_163 : decode cX7_next 163 = .ok (.getfield 121, 3) := by decide +kernel
theorem dX7_next_166 : decode cX7_next 166 = .ok (.iconst 1, 1) := by decide +kernel
theorem dX7_next_167 : decode cX7_next 167 = .ok (.iadd, 1) := by decide +kernel
theorem dX7_next_168 : decode cX7_next 168 = .ok (.putfield 121, 3) := by decide +kernel
theorem dX7_next_171 : decode cX7_next 171 = .ok (.goto (-72), 3) := by decide +kernel
theorem dX7_next_174 : decode cX7_next 174 = .ok (.aload_n 0, 1) := by decide +kernel
theorem dX7_next_175 : decode cX7_next 175 = .ok (.getfield 121, 3) := by decide +kernel
theorem dX7_next_178 : decode cX7_next 178 = .ok (.aload_n 0, 1) := by decide +kernel
theorem dX7_next_179 : decode cX7_next 179 = .ok (.getfield 124, 3) := by decide +kernel
theorem dX7_next_182 : decode cX7_next 182 = .ok (.isub, 1) := by decide +kernel
theorem dX7_next_183 : decode cX7_next 183 = .ok (.bipush 8, 2) := by decide +kernel
theorem dX7_next_185 : decode cX7_next 185 = .ok (.if_icmp .le 8, 3) := by decide +kernel
theorem dX7_next_188 : decode cX7_next 188 = .ok (.aload_n 0, 1) := by decide +kernel
theorem dX7_next_189 : decode cX7_next 189 = .ok (.lconst 0, 1) := by decide +kernel
theorem dX7_next_190 : decode cX7_next 190 = .ok (.putfield 127, 3) := by decide +kernel
theorem dX7_next_193 : decode cX7_next 193 = .ok (.aload_n 0, 1) := by decide +kernel
theorem dX7_next_194 : decode cX7_next 194 = .ok (.iconst 1, 1) := by decide +kernel
theorem dX7_next_195 : decode cX7_next 195 = .ok (.putfield 131, 3) := by decide +kernel
theorem dX7_next_198 : decode cX7_next 198 = .ok (.goto 127, 3) := by decide +kernel
theorem dX7_next_201 : decode cX7_next 201 = .ok (.iload_n 1, 1) := by decide +kernel
theorem dX7_next_202 : decode cX7_next 202 = .ok (.invokestatic 138, 3) := by decide +kernel
theorem dX7_next_205 : decode cX7_next 205 = .ok (.ifCond .eq 95, 3) := by decide +kernel
theorem dX7_next_208 : decode cX7_next 208 = .ok (.aload_n 0, 1) := by decide +kernel
theorem dX7_next_209 : decode cX7_next 209 = .ok (.getfield 121, 3) := by decide +kernel
theorem dX7_next_212 : decode cX7_next 212 = .ok (.aload_n 0, 1) := by decide +kernel
theorem dX7_next_213 : decode cX7_next 213 = .ok (.getfield 113, 3) := by decide +kernel
theorem dX7_next_216 : decode cX7_next 216 = .ok (.if_icmp .ge 76, 3) := by decide +kernel
theorem dX7_next_219 : decode cX7_next 219 = .ok (.aload_n 0, 1) := by decide +kernel
theorem dX7_next_220 : decode cX7_next 220 = .ok (.getfield 9, 3) := by decide +kernel
theorem dX7_next_223 : decode cX7_next 223 = .ok (.aload_n 0, 1) := by decide +kernel
theorem dX7_next_224 : decode cX7_next 224 = .ok (.getfield 121, 3) := by decide +kernel
theorem dX7_next_227 : decode cX7_next 227 = .ok (.baload, 1) := by decide +kernel
theorem dX7_next_228 : decode cX7_next 228 = .ok (.invokestatic 138, 3) := by decide +kernel
theorem dX7_next_231 : decode cX7_next 231 = .ok (.ifCond .eq 61, 3) := by decide +kernel
theorem dX7_next_234 : decode cX7_next 234 = .ok (.aload_n 0, 1) := by decide +kernel
theorem dX7_next_235 : decode cX7_next 235 = .ok (.aload_n 0, 1) := by decide +kernel
theorem dX7_next_236 : decode cX7_next 236 = .ok (.getfield 127, 3) := by decide +kernel
theorem dX7_next_239 : decode cX7_next 239 = .ok (.ldc2_w 141, 3) := by decide +kernel
theorem dX7_next_242 : decode cX7_next 242 = .ok (.lcmp, 1) := by decide +kernel
theorem dX7_next_243 : decode cX7_next 243 = .ok (.ifCond .le 10, 3) := by decide +kernel
theorem dX7_next_246 : decode cX7_next 246 = .ok (.aload_n 0, 1) := by decide +kernel
theorem dX7_next_247 : decode cX7_next 247 = .ok (.getfield 127, 3) := by decide +kernel
theorem dX7_next_250 : decode cX7_next 250 = .ok (.goto 26, 3) := by decide +kernel
theorem dX7_next_253 : decode cX7_next 253 = .ok (.ldc2_w 143, 3) := by decide +kernel
theorem dX7_next_256 : decode cX7_next 256 = .ok (.aload_n 0, 1) := by decide +kernel
theorem dX7_next_257 : decode cX7_next 257 = .ok (.getfield 127, 3) := by decide +kernel
theorem dX7_next_260 : decode cX7_next 260 = .ok (.lmul, 1) := by decide +kernel
theorem dX7_next_261 : decode cX7_next 261 = .ok (.aload_n 0, 1) := by decide +kernel
theorem dX7_next_262 : decode cX7_next 262 = .ok (.getfield 9, 3) := by decide +kernel
theorem dX7_next_265 : decode cX7_next 265 = .ok (.aload_n 0, 1) := by decide +kernel
theorem dX7_next_266 : decode cX7_next 266 = .ok (.getfield 121, 3) := by decide +kernel
theorem dX7_next_269 : decode cX7_next 269 = .ok (.baload, 1) := by decide +kernel
theorem dX7_next_270 : decode cX7_next 270 = .ok (.i2l, 1) := by decide +kernel
theorem dX7_next_271 : decode cX7_next 271 = .ok (.ladd, 1) := by decide +kernel
theorem dX7_next_272 : decode cX7_next 272 = .ok (.ldc2_w 145, 3) := by decide +kernel
theorem dX7_next_275 : decode cX7_next 275 = .ok (.lsub, 1) := by decide +kernel
theorem dX7_next_276 : decode cX7_next 276 = .ok (.putfield 127, 3) := by decide +kernel
theorem dX7_next_279 : decode cX7_next 279 = .ok (.aload_n 0, 1) := by decide +kernel
theorem dX7_next_280 : decode cX7_next 280 = .ok (.dup, 1) := by decide +kernel
theorem dX7_next_281 : decode cX7_next 281 = .ok (.getfield 121, 3) := by decide +kernel
theorem dX7_next_284 : decode cX7_next 284 = .ok (.iconst 1, 1) := by decide +kernel
theorem dX7_next_285 : decode cX7_next 285 = .ok (.iadd, 1) := by decide +kernel
theorem dX7_next_286 : decode cX7_next 286 = .ok (.putfield 121, 3) := by decide +kernel
theorem dX7_next_289 : decode cX7_next 289 = .ok (.goto (-81), 3) := by decide +kernel
theorem dX7_next_292 : decode cX7_next 292 = .ok (.aload_n 0, 1) := by decide +kernel
theorem dX7_next_293 : decode cX7_next 293 = .ok (.iconst 2, 1) := by decide +kernel
theorem dX7_next_294 : decode cX7_next 294 = .ok (.putfield 131, 3) := by decide +kernel
theorem dX7_next_297 : decode cX7_next 297 = .ok (.goto 28, 3) := by decide +kernel
theorem dX7_next_300 : decode cX7_next 300 = .ok (.aload_n 0, 1) := by decide +kernel
theorem dX7_next_301 : decode cX7_next 301 = .ok (.iload_n 1, 1) := by decide +kernel
theorem dX7_next_302 : decode cX7_next 302 = .ok (.bipush 59, 2) := by decide +kernel
theorem dX7_next_304 : decode cX7_next 304 = .ok (.if_icmp .ne 7, 3) := by decide +kernel
theorem dX7_next_307 : decode cX7_next 307 = .ok (.iconst 3, 1) := by decide +kernel
theorem dX7_next_308 : decode cX7_next 308 = .ok (.goto 4, 3) := by decide +kernel
theorem dX7_next_311 : decode cX7_next 311 = .ok (.iconst 4, 1) := by decide +kernel
theorem dX7_next_312 : decode cX7_next 312 = .ok (.putfield 131, 3) := by decide +kernel
theorem dX7_next_315 : decode cX7_next 315 = .ok (.aload_n 0, 1) := by decide +kernel
theorem dX7_next_316 : decode cX7_next 316 = .ok (.dup, 1) := by decide +kernel
theorem dX7_next_317 : decode cX7_next 317 = .ok (.getfield 121, 3) := by decide +kernel
theorem dX7_next_320 : decode cX7_next 320 = .ok (.iconst 1, 1) := by decide +kernel
theorem dX7_next_321 : decode cX7_next 321 = .ok (.iadd, 1) := by decide +kernel
theorem dX7_next_322 : decode cX7_next 322 = .ok (.putfield 121, 3) := by decide +kernel
theorem dX7_next_325 : decode cX7_next 325 = .ok (.return_, 1) := by decide +kernel
theorem dX7_packed_0 : decode cX7_packed 0 = .ok (.lconst 0, 1) := by decide +kernel
theorem dX7_packed_1 : decode cX7_packed 1 = .ok (.lstore_n 1, 1) := by decide +kernel
theorem dX7_packed_2 : decode cX7_packed 2 = .ok (.iconst 0, 1) := by decide +kernel
theorem dX7_packed_3 : decode cX7_packed 3 = .ok (.istore_n 3, 1) := by decide +kernel
theorem dX7_packed_4 : decode cX7_packed 4 = .ok (.iload_n 3, 1) := by decide +kernel
theorem dX7_packed_5 : decode cX7_packed 5 = .ok (.aload_n 0, 1) := by decide +kernel
theorem dX7_packed_6 : decode cX7_packed 6 = .ok (.invokevirtual 147, 3) := by decide +kernel
theorem dX7_packed_9 : decode cX7_packed 9 = .ok (.if_icmp .ge 21, 3) := by decide +kernel
theorem dX7_packed_12 : decode cX7_packed 12 = .ok (.lload_n 1, 1) := by decide +kernel
theorem dX7_packed_13 : decode cX7_packed 13 = .ok (.bipush 8, 2) := by decide +kernel
theorem dX7_packed_15 : decode cX7_packed 15 = .ok (.lshl, 1) := by decide +kernel
theorem dX7_packed_16 : decode cX7_packed 16 = .ok (.aload_n 0, 1) := by decide +kernel
theorem dX7_packed_17 : decode cX7_packed 17 = .ok (.iload_n 3, 1) := by decide +kernel
theorem dX7_packed_18 : decode cX7_packed 18 = .ok (.invokevirtual 153, 3) := by decide +kernel
theorem dX7_packed_21 : decode cX7_packed 21 = .ok (.i2l, 1) := by decide +kernel
theorem dX7_packed_22 : decode cX7_packed 22 = .ok (.lor, 1) := by decide +kernel
theorem dX7_packed_23 : decode cX7_packed 23 = .ok (.lstore_n 1, 1) := by decide +kernel
theorem dX7_packed_24 : decode cX7_packed 24 = .ok (.iinc 3 1, 3) := by decide +kernel
theorem dX7_packed_27 : decode cX7_packed 27 = .ok (.goto (-23), 3) := by decide +kernel
theorem dX7_packed_30 : decode cX7_packed 30 = .ok (.lload_n 1, 1) := by decide +kernel
theorem dX7_packed_31 : decode cX7_packed 31 = .ok (.lreturn, 1) := by decide +kernel
theorem dX7_isWord_0 : decode cX7_isWord 0 = .ok (.aload_n 0, 1) := by decide +kernel
theorem dX7_isWord_1 : decode cX7_isWord 1 = .ok (.getfield 131, 3) := by decide +kernel
theorem dX7_isWord_4 : decode cX7_isWord 4 = .ok (.iconst 1, 1) := by decide +kernel
theorem dX7_isWord_5 : decode cX7_isWord 5 = .ok (.if_icmp .ne 19, 3) := by decide +kernel
theorem dX7_isWord_8 : decode cX7_isWord 8 = .ok (.aload_n 0, 1) := by decide +kernel
theorem dX7_isWord_9 : decode cX7_isWord 9 = .ok (.getfield 127, 3) := by decide +kernel
theorem dX7_isWord_12 : decode cX7_isWord 12 = .ok (.aload_n 1, 1) := by decide +kernel
theorem dX7_isWord_13 : decode cX7_isWord 13 = .ok (.invokestatic 157, 3) := by decide +kernel
theorem dX7_isWord_16 : decode cX7_isWord 16 = .ok (.lcmp, 1) := by decide +kernel
theorem dX7_isWord_17 : decode cX7_isWord 17 = .ok (.ifCond .ne 7, 3) := by decide +kernel
theorem dX7_isWord_20 : decode cX7_isWord 20 = .ok (.iconst 1, 1) := by decide +kernel
theorem dX7_isWord_21 : decode cX7_isWord 21 = .ok (.goto 4, 3) := by decide +kernel
theorem dX7_isWord_24 : decode cX7_isWord 24 = .ok (.iconst 0, 1) := by decide +kernel
theorem dX7_isWord_25 : decode cX7_isWord 25 = .ok (.ireturn, 1) := by decide +kernel
theorem dX7_isName_0 : decode cX7_isName 0 = .ok (.aload_n 0, 1) := by decide +kernel
theorem dX7_isName_1 : decode cX7_isName 1 = .ok (.getfield 131, 3) := by decide +kernel
theorem dX7_isName_4 : decode cX7_isName 4 = .ok (.iconst 1, 1) := by decide +kernel
theorem dX7_isName_5 : decode cX7_isName 5 = .ok (.if_icmp .ne 75, 3) := by decide +kernel
theorem dX7_isName_8 : decode cX7_isName 8 = .ok (.aload_n 0, 1) := by decide +kernel
theorem dX7_isName_9 : decode cX7_isName 9 = .ok (.getfield 127, 3) := by decide +kernel
theorem dX7_isName_12 : decode cX7_isName 12 = .ok (.lconst 0, 1) := by decide +kernel
theorem dX7_isName_13 : decode cX7_isName 13 = .ok (.lcmp, 1) := by decide +kernel
theorem dX7_isName_14 : decode cX7_isName 14 = .ok (.ifCond .eq 66, 3) := by decide +kernel
theorem dX7_isName_17 : decode cX7_isName 17 = .ok (.aload_n 0, 1) := by decide +kernel
theorem dX7_isName_18 : decode cX7_isName 18 = .ok (.ldc 161, 2) := by decide +kernel
theorem dX7_isName_20 : decode cX7_isName 20 = .ok (.invokevirtual 163, 3) := by decide +kernel
theorem dX7_isName_23 : decode cX7_isName 23 = .ok (.ifCond .ne 57, 3) := by decide +kernel
theorem dX7_isName_26 : decode cX7_isName 26 = .ok (.aload_n 0, 1) := by decide +kernel
theorem dX7_isName_27 : decode cX7_isName 27 = .ok (.ldc 167, 2) := by decide +kernel
theorem dX7_isName_29 : decode cX7_isName 29 = .ok (.invokevirtual 163, 3) := by decide +kernel
theorem dX7_isName_32 : decode cX7_isName 32 = .ok (.ifCond .ne 48, 3) := by decide +kernel
theorem dX7_isName_35 : decode cX7_isName 35 = .ok (.aload_n 0, 1) := by decide +kernel
theorem dX7_isName_36 : decode cX7_isName 36 = .ok (.ldc 169, 2) := by decide +kernel
theorem dX7_isName_38 : decode cX7_isName 38 = .ok (.invokevirtual 163, 3) := by decide +kernel
theorem dX7_isName_41 : decode cX7_isName 41 = .ok (.ifCond .ne 39, 3) := by decide +kernel
theorem dX7_isName_44 : decode cX7_isName 44 = .ok (.aload_n 0, 1) := by decide +kernel
theorem dX7_isName_45 : decode cX7_isName 45 = .ok (.ldc 170, 2) := by decide +kernel
theorem dX7_isName_47 : decode cX7_isName 47 = .ok (.invokevirtual 163, 3) := by decide +kernel
theorem dX7_isName_50 : decode cX7_isName 50 = .ok (.ifCond .ne 30, 3) := by decide +kernel
theorem dX7_isName_53 : decode cX7_isName 53 = .ok (.aload_n 0, 1) := by decide +kernel
theorem dX7_isName_54 : decode cX7_isName 54 = .ok (.ldc 172, 2) := by decide +kernel
theorem dX7_isName_56 : decode cX7_isName 56 = .ok (.invokevirtual 163, 3) := by decide +kernel
theorem dX7_isName_59 : decode cX7_isName 59 = .ok (.ifCond .ne 21, 3) := by decide +kernel
theorem dX7_isName_62 : decode cX7_isName 62 = .ok (.aload_n 0, 1) := by decide +kernel
theorem dX7_isName_63 : decode cX7_isName 63 = .ok (.ldc 174, 2) := by decide +kernel
theorem dX7_isName_65 : decode cX7_isName 65 = .ok (.invokevirtual 163, 3) := by decide +kernel
theorem dX7_isName_68 : decode cX7_isName 68 = .ok (.ifCond .ne 12, 3) := by decide +kernel
theorem dX7_isName_71 : decode cX7_isName 71 = .ok (.aload_n 0, 1) := by decide +kernel
theorem dX7_isName_72 : decode cX7_isName 72 = .ok (.ldc 176, 2) := by decide +kernel
theorem dX7_isName_74 : decode cX7_isName 74 = .ok (.invokevirtual 163, 3) := by decide +kernel
theorem dX7_isName_77 : decode cX7_isName 77 = .ok (.ifCond .eq 5, 3) := by decide +kernel
theorem dX7_isName_80 : decode cX7_isName 80 = .ok (.iconst 0, 1) := by decide +kernel
theorem dX7_isName_81 : decode cX7_isName 81 = .ok (.ireturn, 1) := by decide +kernel
theorem dX7_isName_82 : decode cX7_isName 82 = .ok (.aload_n 0, 1) := by decide +kernel
theorem dX7_isName_83 : decode cX7_isName 83 = .ok (.ldc 178, 2) := by decide +kernel
theorem dX7_isName_85 : decode cX7_isName 85 = .ok (.invokevirtual 163, 3) := by decide +kernel
theorem dX7_isName_88 : decode cX7_isName 88 = .ok (.ifCond .ne 61, 3) := by decide +kernel
theorem dX7_isName_91 : decode cX7_isName 91 = .ok (.aload_n 0, 1) := by decide +kernel
theorem dX7_isName_92 : decode cX7_isName 92 = .ok (.ldc 180, 2) := by decide +kernel
theorem dX7_isName_94 : decode cX7_isName 94 = .ok (.invokevirtual 163, 3) := by decide +kernel
theorem dX7_isName_97 : decode cX7_isName 97 = .ok (.ifCond .ne 52, 3) := by decide +kernel
theorem dX7_isName_100 : decode cX7_isName 100 = .ok (.aload_n 0, 1) := by decide +kernel
theorem dX7_isName_101 : decode cX7_isName 101 = .ok (.ldc 182, 2) := by decide +kernel
theorem dX7_isName_103 : decode cX7_isName 103 = .ok (.invokevirtual 163, 3) := by decide +kernel
theorem dX7_isName_106 : decode cX7_isName 106 = .ok (.ifCond .ne 43, 3) := by decide +kernel
theorem dX7_isName_109 : decode cX7_isName 109 = .ok (.aload_n 0, 1) := by decide +kernel
theorem dX7_isName_110 : decode cX7_isName 110 = .ok (.ldc 184, 2) := by decide +kernel
theorem dX7_isName_112 : decode cX7_isName 112 = .ok (.invokevirtual 163, 3) := by decide +kernel
theorem dX7_isName_115 : decode cX7_isName 115 = .ok (.ifCond .ne 34, 3) := by decide +kernel
theorem dX7_isName_118 : decode cX7_isName 118 = .ok (.aload_n 0, 1) := by decide +kernel
theorem dX7_isName_119 : decode cX7_isName 119 = .ok (.ldc 186, 2) := by decide +kernel
theorem dX7_isName_121 : decode cX7_isName 121 = .ok (.invokevirtual 163, 3) := by decide +kernel
theorem dX7_isName_124 : decode cX7_isName 124 = .ok (.ifCond .ne 25, 3) := by decide +kernel
theorem dX7_isName_127 : decode cX7_isName 127 = .ok (.aload_n 0, 1) := by decide +kernel
theorem dX7_isName_128 : decode cX7_isName 128 = .ok (.ldc 187, 2) := by decide +kernel
theorem dX7_isName_130 : decode cX7_isName 130 = .ok (.invokevirtual 163, 3) := by decide +kernel
theorem dX7_isName_133 : decode cX7_isName 133 = .ok (.ifCond .ne 16, 3) := by decide +kernel
theorem dX7_isName_136 : decode cX7_isName 136 = .ok (.aload_n 0, 1) := by decide +kernel
theorem dX7_isName_137 : decode cX7_isName 137 = .ok (.ldc 189, 2) := by decide +kernel
theorem dX7_isName_139 : decode cX7_isName 139 = .ok (.invokevirtual 163, 3) := by decide +kernel
theorem dX7_isName_142 : decode cX7_isName 142 = .ok (.ifCond .ne 7, 3) := by decide +kernel
theorem dX7_isName_145 : decode cX7_isName 145 = .ok (.iconst 1, 1) := by decide +kernel
theorem dX7_isName_146 : decode cX7_isName 146 = .ok (.goto 4, 3) := by decide +kernel
theorem dX7_isName_149 : decode cX7_isName 149 = .ok (.iconst 0, 1) := by decide +kernel
theorem dX7_isName_150 : decode cX7_isName 150 = .ok (.ireturn, 1) := by decide +kernel
theorem dX7_word_0 : decode cX7_word 0 = .ok (.aload_n 0, 1) := by decide +kernel
theorem dX7_word_1 : decode cX7_word 1 = .ok (.aload_n 1, 1) := by decide +kernel
theorem dX7_word_2 : decode cX7_word 2 = .ok (.invokevirtual 163, 3) := by decide +kernel
theorem dX7_word_5 : decode cX7_word 5 = .ok (.ifCond .ne 5, 3) := by decide +kernel
theorem dX7_word_8 : decode cX7_word 8 = .ok (.iconst 0, 1) := by decide +kernel
theorem dX7_word_9 : decode cX7_word 9 = .ok (.ireturn, 1) := by decide +kernel
theorem dX7_word_10 : decode cX7_word 10 = .ok (.aload_n 0, 1) := by decide +kernel
theorem dX7_word_11 : decode cX7_word 11 = .ok (.invokevirtual 191, 3) := by decide +kernel
theorem dX7_word_14 : decode cX7_word 14 = .ok (.iconst 1, 1) := by decide +kernel
theorem dX7_word_15 : decode cX7_word 15 = .ok (.ireturn, 1) := by decide +kernel
theorem dX7_closes_0 : decode cX7_closes 0 = .ok (.aload_n 0, 1) := by decide +kernel
theorem dX7_closes_1 : decode cX7_closes 1 = .ok (.getfield 131, 3) := by decide +kernel
theorem dX7_closes_4 : decode cX7_closes 4 = .ok (.iconst 3, 1) := by decide +kernel
theorem dX7_closes_5 : decode cX7_closes 5 = .ok (.if_icmp .eq 5, 3) := by decide +kernel
theorem dX7_closes_8 : decode cX7_closes 8 = .ok (.iconst 0, 1) := by decide +kernel
theorem dX7_closes_9 : decode cX7_closes 9 = .ok (.ireturn, 1) := by decide +kernel
theorem dX7_closes_10 : decode cX7_closes 10 = .ok (.aload_n 0, 1) := by decide +kernel
theorem dX7_closes_11 : decode cX7_closes 11 = .ok (.invokevirtual 191, 3) := by decide +kernel
theorem dX7_closes_14 : decode cX7_closes 14 = .ok (.iconst 1, 1) := by decide +kernel
theorem dX7_closes_15 : decode cX7_closes 15 = .ok (.ireturn, 1) := by decide +kernel
theorem dX7_number_0 : decode cX7_number 0 = .ok (.aload_n 0, 1) := by decide +kernel
theorem dX7_number_1 : decode cX7_number 1 = .ok (.getfield 131, 3) := by decide +kernel
theorem dX7_number_4 : decode cX7_number 4 = .ok (.iconst 2, 1) := by decide +kernel
theorem dX7_number_5 : decode cX7_number 5 = .ok (.if_icmp .ne 23, 3) := by decide +kernel
theorem dX7_number_8 : decode cX7_number 8 = .ok (.aload_n 0, 1) := by decide +kernel
theorem dX7_number_9 : decode cX7_number 9 = .ok (.getfield 127, 3) := by decide +kernel
theorem dX7_number_12 : decode cX7_number 12 = .ok (.iload_n 1, 1) := by decide +kernel
theorem dX7_number_13 : decode cX7_number 13 = .ok (.i2l, 1) := by decide +kernel
theorem dX7_number_14 : decode cX7_number 14 = .ok (.lcmp, 1) := by decide +kernel
theorem dX7_number_15 : decode cX7_number 15 = .ok (.ifCond .lt 13, 3) := by decide +kernel
theorem dX7_number_18 : decode cX7_number 18 = .ok (.aload_n 0, 1) := by decide +kernel
theorem dX7_number_19 : decode cX7_number 19 = .ok (.getfield 127, 3) := by decide +kernel
theorem dX7_number_22 : decode cX7_number 22 = .ok (.iload_n 2, 1) := by decide +kernel
theorem dX7_number_23 : decode cX7_number 23 = .ok (.i2l, 1) := by decide +kernel
theorem dX7_number_24 : decode cX7_number 24 = .ok (.lcmp, 1) := by decide +kernel
theorem dX7_number_25 : decode cX7_number 25 = .ok (.ifCond .le 5, 3) := by decide +kernel
theorem dX7_number_28 : decode cX7_number 28 = .ok (.iconst 0, 1) := by decide +kernel
theorem dX7_number_29 : decode cX7_number 29 = .ok (.ireturn, 1) := by decide +kernel
theorem dX7_number_30 : decode cX7_number 30 = .ok (.aload_n 0, 1) := by decide +kernel
theorem dX7_number_31 : decode cX7_number 31 = .ok (.aload_n 0, 1) := by decide +kernel
theorem dX7_number_32 : decode cX7_number 32 = .ok (.getfield 127, 3) := by decide +kernel
theorem dX7_number_35 : decode cX7_number 35 = .ok (.l2i, 1) := by decide +kernel
theorem dX7_number_36 : decode cX7_number 36 = .ok (.putfield 194, 3) := by decide +kernel
theorem dX7_number_39 : decode cX7_number 39 = .ok (.aload_n 0, 1) := by decide +kernel
theorem dX7_number_40 : decode cX7_number 40 = .ok (.invokevirtual 191, 3) := by decide +kernel
theorem dX7_number_43 : decode cX7_number 43 = .ok (.iconst 1, 1) := by decide +kernel
theorem dX7_number_44 : decode cX7_number 44 = .ok (.ireturn, 1) := by decide +kernel
theorem dX7_landHere_0 : decode cX7_landHere 0 = .ok (.iconst 0, 1) := by decide +kernel
theorem dX7_landHere_1 : decode cX7_landHere 1 = .ok (.istore_n 1, 1) := by decide +kernel
theorem dX7_landHere_2 : decode cX7_landHere 2 = .ok (.iload_n 1, 1) := by decide +kernel
theorem dX7_landHere_3 : decode cX7_landHere 3 = .ok (.aload_n 0, 1) := by decide +kernel
theorem dX7_landHere_4 : decode cX7_landHere 4 = .ok (.getfield 197, 3) := by decide +kernel
theorem dX7_landHere_7 : decode cX7_landHere 7 = .ok (.if_icmp .ge 32, 3) := by decide +kernel
theorem dX7_landHere_10 : decode cX7_landHere 10 = .ok (.aload_n 0, 1) := by decide +kernel
theorem dX7_landHere_11 : decode cX7_landHere 11 = .ok (.invokevirtual 200, 3) := by decide +kernel
theorem dX7_landHere_14 : decode cX7_landHere 14 = .ok (.ifCond .eq 25, 3) := by decide +kernel
theorem dX7_landHere_17 : decode cX7_landHere 17 = .ok (.aload_n 0, 1) := by decide +kernel
theorem dX7_landHere_18 : decode cX7_landHere 18 = .ok (.getfield 13, 3) := by decide +kernel
theorem dX7_landHere_21 : decode cX7_landHere 21 = .ok (.iload_n 1, 1) := by decide +kernel
theorem dX7_landHere_22 : decode cX7_landHere 22 = .ok (.laload, 1) := by decide +kernel
theorem dX7_landHere_23 : decode cX7_landHere 23 = .ok (.aload_n 0, 1) := by decide +kernel
theorem dX7_landHere_24 : decode cX7_landHere 24 = .ok (.getfield 127, 3) := by decide +kernel
theorem dX7_landHere_27 : decode cX7_landHere 27 = .ok (.lcmp, 1) := by decide +kernel
theorem dX7_landHere_28 : decode cX7_landHere 28 = .ok (.ifCond .ne 5, 3) := by decide +kernel
theorem dX7_landHere_31 : decode cX7_landHere 31 = .ok (.iload_n 1, 1) := by decide +kernel
theorem dX7_landHere_32 : decode cX7_landHere 32 = .ok (.ireturn, 1) := by decide +kernel
theorem dX7_landHere_33 : decode cX7_landHere 33 = .ok (.iinc 1 1, 3) := by decide +kernel
theorem dX7_landHere_36 : decode cX7_landHere 36 = .ok (.goto (-34), 3) := by decide +kernel
theorem dX7_landHere_39 : decode cX7_landHere 39 = .ok (.iconst (-1), 1) := by decide +kernel
theorem dX7_landHere_40 : decode cX7_landHere 40 = .ok (.ireturn, 1) := by decide +kernel
theorem dX7_townHere_0 : decode cX7_townHere 0 = .ok (.iconst 0, 1) := by decide +kernel
theorem dX7_townHere_1 : decode cX7_townHere 1 = .ok (.istore_n 1, 1) := by decide +kernel
theorem dX7_townHere_2 : decode cX7_townHere 2 = .ok (.iload_n 1, 1) := by decide +kernel
theorem dX7_townHere_3 : decode cX7_townHere 3 = .ok (.aload_n 0, 1) := by decide +kernel
theorem dX7_townHere_4 : decode cX7_townHere 4 = .ok (.getfield 204, 3) := by decide +kernel
theorem dX7_townHere_7 : decode cX7_townHere 7 = .ok (.if_icmp .ge 32, 3) := by decide +kernel
theorem dX7_townHere_10 : decode cX7_townHere 10 = .ok (.aload_n 0, 1) := by decide +kernel
theorem dX7_townHere_11 : decode cX7_townHere 11 = .ok (.invokevirtual 200, 3) := by decide +kernel
theorem dX7_townHere_14 : decode cX7_townHere 14 = .ok (.ifCond .eq 25, 3) := by decide +kernel
theorem dX7_townHere_17 : decode cX7_townHere 17 = .ok (.aload_n 0, 1) := by decide +kernel
theorem dX7_townHere_18 : decode cX7_townHere 18 = .ok (.getfield 21, 3) := by decide +kernel
theorem dX7_townHere_21 : decode cX7_townHere 21 = .ok (.iload_n 1, 1) := by decide +kernel
theorem dX7_townHere_22 : decode cX7_townHere 22 = .ok (.laload, 1) := by decide +kernel
theorem dX7_townHere_23 : decode cX7_townHere 23 = .ok (.aload_n 0, 1) := by decide +kernel
theorem dX7_townHere_24 : decode cX7_townHere 24 = .ok (.getfield 127, 3) := by decide +kernel
theorem dX7_townHere_27 : decode cX7_townHere 27 = .ok (.lcmp, 1) := by decide +kernel
theorem dX7_townHere_28 : decode cX7_townHere 28 = .ok (.ifCond .ne 5, 3) := by decide +kernel
theorem dX7_townHere_31 : decode cX7_townHere 31 = .ok (.iload_n 1, 1) := by decide +kernel
theorem dX7_townHere_32 : decode cX7_townHere 32 = .ok (.ireturn, 1) := by decide +kernel
theorem dX7_townHere_33 : decode cX7_townHere 33 = .ok (.iinc 1 1, 3) := by decide +kernel
theorem dX7_townHere_36 : decode cX7_townHere 36 = .ok (.goto (-34), 3) := by decide +kernel
theorem dX7_townHere_39 : decode cX7_townHere 39 = .ok (.iconst (-1), 1) := by decide +kernel
theorem dX7_townHere_40 : decode cX7_townHere 40 = .ok (.ireturn, 1) := by decide +kernel
theorem dX7_isNew_0 : decode cX7_isNew 0 = .ok (.aload_n 0, 1) := by decide +kernel
theorem dX7_isNew_1 : decode cX7_isNew 1 = .ok (.invokevirtual 200, 3) := by decide +kernel
theorem dX7_isNew_4 : decode cX7_isNew 4 = .ok (.ifCond .eq 23, 3) := by decide +kernel
theorem dX7_isNew_7 : decode cX7_isNew 7 = .ok (.aload_n 0, 1) := by decide +kernel
theorem dX7_isNew_8 : decode cX7_isNew 8 = .ok (.invokevirtual 207, 3) := by decide +kernel
theorem dX7_isNew_11 : decode cX7_isNew 11 = .ok (.iconst (-1), 1) := by decide +kernel
theorem dX7_isNew_12 : decode cX7_isNew 12 = .ok (.if_icmp .ne 15, 3) := by decide +kernel
theorem dX7_isNew_15 : decode cX7_isNew 15 = .ok (.aload_n 0, 1) := by decide +kernel
theorem dX7_isNew_16 : decode cX7_isNew 16 = .ok (.invokevirtual 210, 3) := by decide +kernel
theorem dX7_isNew_19 : decode cX7_isNew 19 = .ok (.iconst (-1), 1) := by decide +kernel
theorem dX7_isNew_20 : decode cX7_isNew 20 = .ok (.if_icmp .ne 7, 3) := by decide +kernel
theorem dX7_isNew_23 : decode cX7_isNew 23 = .ok (.iconst 1, 1) := by decide +kernel
theorem dX7_isNew_24 : decode cX7_isNew 24 = .ok (.goto 4, 3) := by decide +kernel
theorem dX7_isNew_27 : decode cX7_isNew 27 = .ok (.iconst 0, 1) := by decide +kernel
theorem dX7_isNew_28 : decode cX7_isNew 28 = .ok (.ireturn, 1) := by decide +kernel
theorem dX7_landLine_0 : decode cX7_landLine 0 = .ok (.aload_n 0, 1) := by decide +kernel
theorem dX7_landLine_1 : decode cX7_landLine 1 = .ok (.getfield 197, 3) := by decide +kernel
theorem dX7_landLine_4 : decode cX7_landLine 4 = .ok (.iconst 4, 1) := by decide +kernel
theorem dX7_landLine_5 : decode cX7_landLine 5 = .ok (.if_icmp .ne 5, 3) := by decide +kernel
theorem dX7_landLine_8 : decode cX7_landLine 8 = .ok (.iconst 0, 1) := by decide +kernel
theorem dX7_landLine_9 : decode cX7_landLine 9 = .ok (.ireturn, 1) := by decide +kernel
theorem dX7_landLine_10 : decode cX7_landLine 10 = .ok (.aload_n 0, 1) := by decide +kernel
theorem dX7_landLine_11 : decode cX7_landLine 11 = .ok (.invokevirtual 191, 3) := by decide +kernel
theorem dX7_landLine_14 : decode cX7_landLine 14 = .ok (.aload_n 0, 1) := by decide +kernel
theorem dX7_landLine_15 : decode cX7_landLine 15 = .ok (.invokevirtual 213, 3) := by decide +kernel
theorem dX7_landLine_18 : decode cX7_landLine 18 = .ok (.ifCond .ne 5, 3) := by decide +kernel
theorem dX7_landLine_21 : decode cX7_landLine 21 = .ok (.iconst 0, 1) := by decide +kernel
theorem dX7_landLine_22 : decode cX7_landLine 22 = .ok (.ireturn, 1) := by decide +kernel
theorem dX7_landLine_23 : decode cX7_landLine 23 = .ok (.aload_n 0, 1) := by decide +kernel
theorem dX7_landLine_24 : decode cX7_landLine 24 = .ok (.getfield 13, 3) := by decide +kernel
theorem dX7_landLine_27 : decode cX7_landLine 27 = .ok (.aload_n 0, 1) := by decide +kernel
theorem dX7_landLine_28 : decode cX7_landLine 28 = .ok (.getfield 197, 3) := by decide +kernel
theorem dX7_landLine_31 : decode cX7_landLine 31 = .ok (.aload_n 0, 1) := by decide +kernel
theorem dX7_landLine_32 : decode cX7_landLine 32 = .ok (.getfield 127, 3) := by decide +kernel
theorem dX7_landLine_35 : decode cX7_landLine 35 = .ok (.lastore, 1) := by decide +kernel
theorem dX7_landLine_36 : decode cX7_landLine 36 = .ok (.aload_n 0, 1) := by decide +kernel
theorem dX7_landLine_37 : decode cX7_landLine 37 = .ok (.invokevirtual 191, 3) := by decide +kernel
theorem dX7_landLine_40 : decode cX7_landLine 40 = .ok (.aload_n 0, 1) := by decide +kernel
theorem dX7_landLine_41 : decode cX7_landLine 41 = .ok (.ldc 169, 2) := by decide +kernel
theorem dX7_landLine_43 : decode cX7_landLine 43 = .ok (.invokevirtual 163, 3) := by decide +kernel
theorem dX7_landLine_46 : decode cX7_landLine 46 = .ok (.ifCond .eq 7, 3) := by decide +kernel
theorem dX7_landLine_49 : decode cX7_landLine 49 = .ok (.iconst 1, 1) := by decide +kernel
theorem dX7_landLine_50 : decode cX7_landLine 50 = .ok (.goto 43, 3) := by decide +kernel
theorem dX7_landLine_53 : decode cX7_landLine 53 = .ok (.aload_n 0, 1) := by decide +kernel
theorem dX7_landLine_54 : decode cX7_landLine 54 = .ok (.ldc 170, 2) := by decide +kernel
theorem dX7_landLine_56 : decode cX7_landLine 56 = .ok (.invokevirtual 163, 3) := by decide +kernel
theorem dX7_landLine_59 : decode cX7_landLine 59 = .ok (.ifCond .eq 7, 3) := by decide +kernel
theorem dX7_landLine_62 : decode cX7_landLine 62 = .ok (.iconst 2, 1) := by decide +kernel
theorem dX7_landLine_63 : decode cX7_landLine 63 = .ok (.goto 30, 3) := by decide +kernel
theorem dX7_landLine_66 : decode cX7_landLine 66 = .ok (.aload_n 0, 1) := by decide +kernel
theorem dX7_landLine_67 : decode cX7_landLine 67 = .ok (.ldc 172, 2) := by decide +kernel
theorem dX7_landLine_69 : decode cX7_landLine 69 = .ok (.invokevirtual 163, 3) := by decide +kernel
theorem dX7_landLine_72 : decode cX7_landLine 72 = .ok (.ifCond .eq 7, 3) := by decide +kernel
theorem dX7_landLine_75 : decode cX7_landLine 75 = .ok (.iconst 3, 1) := by decide +kernel
theorem dX7_landLine_76 : decode cX7_landLine 76 = .ok (.goto 17, 3) := by decide +kernel
theorem dX7_landLine_79 : decode cX7_landLine 79 = .ok (.aload_n 0, 1) := by decide +kernel
theorem dX7_landLine_80 : decode cX7_landLine 80 = .ok (.ldc 174, 2) := by decide +kernel
theorem dX7_landLine_82 : decode cX7_landLine 82 = .ok (.invokevirtual 163, 3) := by decide +kernel
theorem dX7_landLine_85 : decode cX7_landLine 85 = .ok (.ifCond .eq 7, 3) := by decide +kernel
theorem dX7_landLine_88 : decode cX7_landLine 88 = .ok (.iconst 0, 1) := by decide +kernel
theorem dX7_landLine_89 : decode cX7_landLine 89 = .ok (.goto 4, 3) := by decide +kernel
theorem dX7_landLine_92 : decode cX7_landLine 92 = .ok (.iconst (-1), 1) := by decide +kernel
theorem dX7_landLine_93 : decode cX7_landLine 93 = .ok (.istore_n 1, 1) := by decide +kernel
theorem dX7_landLine_94 : decode cX7_landLine 94 = .ok (.iload_n 1, 1) := by decide +kernel
theorem dX7_landLine_95 : decode cX7_landLine 95 = .ok (.iconst (-1), 1) := by decide +kernel
theorem dX7_landLine_96 : decode cX7_landLine 96 = .ok (.if_icmp .ne 5, 3) := by decide +kernel
theorem dX7_landLine_99 : decode cX7_landLine 99 = .ok (.iconst 0, 1) := by decide +kernel
theorem dX7_landLine_100 : decode cX7_landLine 100 = .ok (.ireturn, 1) := by decide +kernel
theorem dX7_landLine_101 : decode cX7_landLine 101 = .ok (.aload_n 0, 1) := by decide +kernel
theorem dX7_landLine_102 : decode cX7_landLine 102 = .ok (.getfield 17, 3) := by decide +kernel
theorem dX7_landLine_105 : decode cX7_landLine 105 = .ok (.aload_n 0, 1) := by decide +kernel
theorem dX7_landLine_106 : decode cX7_landLine 106 = .ok (.getfield 197, 3) := by decide +kernel
theorem dX7_landLine_109 : decode cX7_landLine 109 = .ok (.iload_n 1, 1) := by decide +kernel
theorem dX7_landLine_110 : decode cX7_landLine 110 = .ok (.iastore, 1) := by decide +kernel
theorem dX7_landLine_111 : decode cX7_landLine 111 = .ok (.aload_n 0, 1) := by decide +kernel
theorem dX7_landLine_112 : decode cX7_landLine 112 = .ok (.dup, 1) := by decide +kernel
theorem dX7_landLine_113 : decode cX7_landLine 113 = .ok (.getfield 197, 3) := by decide +kernel
theorem dX7_landLine_116 : decode cX7_landLine 116 = .ok (.iconst 1, 1) := by decide +kernel
theorem dX7_landLine_117 : decode cX7_landLine 117 = .ok (.iadd, 1) := by decide +kernel
theorem dX7_landLine_118 : decode cX7_landLine 118 = .ok (.putfield 197, 3) := by decide +kernel
theorem dX7_landLine_121 : decode cX7_landLine 121 = .ok (.aload_n 0, 1) := by decide +kernel
theorem dX7_landLine_122 : decode cX7_landLine 122 = .ok (.invokevirtual 191, 3) := by decide +kernel
theorem dX7_landLine_125 : decode cX7_landLine 125 = .ok (.aload_n 0, 1) := by decide +kernel
theorem dX7_landLine_126 : decode cX7_landLine 126 = .ok (.invokevirtual 216, 3) := by decide +kernel
theorem dX7_landLine_129 : decode cX7_landLine 129 = .ok (.ireturn, 1) := by decide +kernel
theorem dX7_townLine_0 : decode cX7_townLine 0 = .ok (.aload_n 0, 1) := by decide +kernel
theorem dX7_townLine_1 : decode cX7_townLine 1 = .ok (.getfield 204, 3) := by decide +kernel
theorem dX7_townLine_4 : decode cX7_townLine 4 = .ok (.bipush 8, 2) := by decide +kernel
theorem dX7_townLine_6 : decode cX7_townLine 6 = .ok (.if_icmp .ne 5, 3) := by decide +kernel
theorem dX7_townLine_9 : decode cX7_townLine 9 = .ok (.iconst 0, 1) := by decide +kernel
theorem dX7_townLine_10 : decode cX7_townLine 10 = .ok (.ireturn, 1) := by decide +kernel
theorem dX7_townLine_11 : decode cX7_townLine 11 = .ok (.aload_n 0, 1) := by decide +kernel
theorem dX7_townLine_12 : decode cX7_townLine 12 = .ok (.invokevirtual 191, 3) := by decide +kernel
theorem dX7_townLine_15 : decode cX7_townLine 15 = .ok (.aload_n 0, 1) := by decide +kernel
theorem dX7_townLine_16 : decode cX7_townLine 16 = .ok (.invokevirtual 213, 3) := by decide +kernel
theorem dX7_townLine_19 : decode cX7_townLine 19 = .ok (.ifCond .ne 5, 3) := by decide +kernel
theorem dX7_townLine_22 : decode cX7_townLine 22 = .ok (.iconst 0, 1) := by decide +kernel
theorem dX7_townLine_23 : decode cX7_townLine 23 = .ok (.ireturn, 1) := by decide +kernel
theorem dX7_townLine_24 : decode cX7_townLine 24 = .ok (.aload_n 0, 1) := by decide +kernel
theorem dX7_townLine_25 : decode cX7_townLine 25 = .ok (.getfield 127, 3) := by decide +kernel
theorem dX7_townLine_28 : decode cX7_townLine 28 = .ok (.lstore_n 1, 1) := by decide +kernel
theorem dX7_townLine_29 : decode cX7_townLine 29 = .ok (.aload_n 0, 1) := by decide +kernel
theorem dX7_townLine_30 : decode cX7_townLine 30 = .ok (.invokevirtual 191, 3) := by decide +kernel
theorem dX7_townLine_33 : decode cX7_townLine 33 = .ok (.aload_n 0, 1) := by decide +kernel
theorem dX7_townLine_34 : decode cX7_townLine 34 = .ok (.ldc 176, 2) := by decide +kernel
theorem dX7_townLine_36 : decode cX7_townLine 36 = .ok (.invokevirtual 219, 3) := by decide +kernel
theorem dX7_townLine_39 : decode cX7_townLine 39 = .ok (.ifCond .ne 5, 3) := by decide +kernel
theorem dX7_townLine_42 : decode cX7_townLine 42 = .ok (.iconst 0, 1) := by decide +kernel
theorem dX7_townLine_43 : decode cX7_townLine 43 = .ok (.ireturn, 1) := by decide +kernel
theorem dX7_townLine_44 : decode cX7_townLine 44 = .ok (.aload_n 0, 1) := by decide +kernel
theorem dX7_townLine_45 : decode cX7_townLine 45 = .ok (.getfield 24, 3) := by decide +kernel
theorem dX7_townLine_48 : decode cX7_townLine 48 = .ok (.aload_n 0, 1) := by decide +kernel
theorem dX7_townLine_49 : decode cX7_townLine 49 = .ok (.getfield 204, 3) := by decide +kernel
theorem dX7_townLine_52 : decode cX7_townLine 52 = .ok (.aload_n 0, 1) := by decide +kernel
theorem dX7_townLine_53 : decode cX7_townLine 53 = .ok (.invokevirtual 207, 3) := by decide +kernel
theorem dX7_townLine_56 : decode cX7_townLine 56 = .ok (.iastore, 1) := by decide +kernel
theorem dX7_townLine_57 : decode cX7_townLine 57 = .ok (.aload_n 0, 1) := by decide +kernel
theorem dX7_townLine_58 : decode cX7_townLine 58 = .ok (.getfield 24, 3) := by decide +kernel
theorem dX7_townLine_61 : decode cX7_townLine 61 = .ok (.aload_n 0, 1) := by decide +kernel
theorem dX7_townLine_62 : decode cX7_townLine 62 = .ok (.getfield 204, 3) := by decide +kernel
theorem dX7_townLine_65 : decode cX7_townLine 65 = .ok (.iaload, 1) := by decide +kernel
theorem dX7_townLine_66 : decode cX7_townLine 66 = .ok (.iconst (-1), 1) := by decide +kernel
theorem dX7_townLine_67 : decode cX7_townLine 67 = .ok (.if_icmp .ne 5, 3) := by decide +kernel
theorem dX7_townLine_70 : decode cX7_townLine 70 = .ok (.iconst 0, 1) := by decide +kernel
theorem dX7_townLine_71 : decode cX7_townLine 71 = .ok (.ireturn, 1) := by decide +kernel
theorem dX7_townLine_72 : decode cX7_townLine 72 = .ok (.aload_n 0, 1) := by decide +kernel
theorem dX7_townLine_73 : decode cX7_townLine 73 = .ok (.invokevirtual 191, 3) := by decide +kernel
theorem dX7_townLine_76 : decode cX7_townLine 76 = .ok (.aload_n 0, 1) := by decide +kernel
theorem dX7_townLine_77 : decode cX7_townLine 77 = .ok (.getfield 27, 3) := by decide +kernel
theorem dX7_townLine_80 : decode cX7_townLine 80 = .ok (.aload_n 0, 1) := by decide +kernel
theorem dX7_townLine_81 : decode cX7_townLine 81 = .ok (.getfield 204, 3) := by decide +kernel
theorem dX7_townLine_84 : decode cX7_townLine 84 = .ok (.iconst 0, 1) := by decide +kernel
theorem dX7_townLine_85 : decode cX7_townLine 85 = .ok (.iastore, 1) := by decide +kernel
theorem dX7_townLine_86 : decode cX7_townLine 86 = .ok (.aload_n 0, 1) := by decide +kernel
theorem dX7_townLine_87 : decode cX7_townLine 87 = .ok (.ldc 178, 2) := by decide +kernel
theorem dX7_townLine_89 : decode cX7_townLine 89 = .ok (.invokevirtual 163, 3) := by decide +kernel
theorem dX7_townLine_92 : decode cX7_townLine 92 = .ok (.ifCond .ne 12, 3) := by decide +kernel
theorem dX7_townLine_95 : decode cX7_townLine 95 = .ok (.aload_n 0, 1) := by decide +kernel
theorem dX7_townLine_96 : decode cX7_townLine 96 = .ok (.ldc 180, 2) := by decide +kernel
theorem dX7_townLine_98 : decode cX7_townLine 98 = .ok (.invokevirtual 163, 3) := by decide +kernel
theorem dX7_townLine_101 : decode cX7_townLine 101 = .ok (.ifCond .eq 51, 3) := by decide +kernel
theorem dX7_townLine_104 : decode cX7_townLine 104 = .ok (.aload_n 0, 1) := by decide +kernel
theorem dX7_townLine_105 : decode cX7_townLine 105 = .ok (.ldc 178, 2) := by decide +kernel
theorem dX7_townLine_107 : decode cX7_townLine 107 = .ok (.invokevirtual 163, 3) := by decide +kernel
theorem dX7_townLine_110 : decode cX7_townLine 110 = .ok (.istore_n 3, 1) := by decide +kernel
theorem dX7_townLine_111 : decode cX7_townLine 111 = .ok (.aload_n 0, 1) := by decide +kernel
theorem dX7_townLine_112 : decode cX7_townLine 112 = .ok (.invokevirtual 191, 3) := by decide +kernel
theorem dX7_townLine_115 : decode cX7_townLine 115 = .ok (.aload_n 0, 1) := by decide +kernel
theorem dX7_townLine_116 : decode cX7_townLine 116 = .ok (.iconst 0, 1) := by decide +kernel
theorem dX7_townLine_117 : decode cX7_townLine 117 = .ok (.bipush 12, 2) := by decide +kernel
theorem dX7_townLine_119 : decode cX7_townLine 119 = .ok (.invokevirtual 222, 3) := by decide +kernel
theorem dX7_townLine_122 : decode cX7_townLine 122 = .ok (.ifCond .ne 5, 3) := by decide +kernel
theorem dX7_townLine_125 : decode cX7_townLine 125 = .ok (.iconst 0, 1) := by decide +kernel
theorem dX7_townLine_126 : decode cX7_townLine 126 = .ok (.ireturn, 1) := by decide +kernel
theorem dX7_townLine_127 : decode cX7_townLine 127 = .ok (.aload_n 0, 1) := by decide +kernel
theorem dX7_townLine_128 : decode cX7_townLine 128 = .ok (.getfield 27, 3) := by decide +kernel
theorem dX7_townLine_131 : decode cX7_townLine 131 = .ok (.aload_n 0, 1) := by decide +kernel
theorem dX7_townLine_132 : decode cX7_townLine 132 = .ok (.getfield 204, 3) := by decide +kernel
theorem dX7_townLine_135 : decode cX7_townLine 135 = .ok (.iload_n 3, 1) := by decide +kernel
theorem dX7_townLine_136 : decode cX7_townLine 136 = .ok (.ifCond .eq 10, 3) := by decide +kernel
theorem dX7_townLine_139 : decode cX7_townLine 139 = .ok (.aload_n 0, 1) := by decide +kernel
theorem dX7_townLine_140 : decode cX7_townLine 140 = .ok (.getfield 194, 3) := by decide +kernel
theorem dX7_townLine_143 : decode cX7_townLine 143 = .ok (.goto 8, 3) := by decide +kernel
theorem dX7_townLine_146 : decode cX7_townLine 146 = .ok (.aload_n 0, 1) := by decide +kernel
theorem dX7_townLine_147 : decode cX7_townLine 147 = .ok (.getfield 194, 3) := by decide +kernel
theorem dX7_townLine_150 : decode cX7_townLine 150 = .ok (.ineg, 1) := by decide +kernel
theorem dX7_townLine_151 : decode cX7_townLine 151 = .ok (.iastore, 1) := by decide +kernel
theorem dX7_townLine_152 : decode cX7_townLine 152 = .ok (.aload_n 0, 1) := by decide +kernel
theorem dX7_townLine_153 : decode cX7_townLine 153 = .ok (.getfield 21, 3) := by decide +kernel
theorem dX7_townLine_156 : decode cX7_townLine 156 = .ok (.aload_n 0, 1) := by decide +kernel
theorem dX7_townLine_157 : decode cX7_townLine 157 = .ok (.getfield 204, 3) := by decide +kernel
theorem dX7_townLine_160 : decode cX7_townLine 160 = .ok (.lload_n 1, 1) := by decide +kernel
theorem dX7_townLine_161 : decode cX7_townLine 161 = .ok (.lastore, 1) := by decide +kernel
theorem dX7_townLine_162 : decode cX7_townLine 162 = .ok (.aload_n 0, 1) := by decide +kernel
theorem dX7_townLine_163 : decode cX7_townLine 163 = .ok (.dup, 1) := by decide +kernel
theorem dX7_townLine_164 : decode cX7_townLine 164 = .ok (.getfield 204, 3) := by decide +kernel
theorem dX7_townLine_167 : decode cX7_townLine 167 = .ok (.iconst 1, 1) := by decide +kernel
theorem dX7_townLine_168 : decode cX7_townLine 168 = .ok (.iadd, 1) := by decide +kernel
theorem dX7_townLine_169 : decode cX7_townLine 169 = .ok (.putfield 204, 3) := by decide +kernel
theorem dX7_townLine_172 : decode cX7_townLine 172 = .ok (.aload_n 0, 1) := by decide +kernel
theorem dX7_townLine_173 : decode cX7_townLine 173 = .ok (.invokevirtual 216, 3) := by decide +kernel
theorem dX7_townLine_176 : decode cX7_townLine 176 = .ok (.ireturn, 1) := by decide +kernel
theorem dX7_linkLine_0 : decode cX7_linkLine 0 = .ok (.aload_n 0, 1) := by decide +kernel
theorem dX7_linkLine_1 : decode cX7_linkLine 1 = .ok (.getfield 225, 3) := by decide +kernel
theorem dX7_linkLine_4 : decode cX7_linkLine 4 = .ok (.bipush 16, 2) := by decide +kernel
theorem dX7_linkLine_6 : decode cX7_linkLine 6 = .ok (.if_icmp .ne 5, 3) := by decide +kernel
theorem dX7_linkLine_9 : decode cX7_linkLine 9 = .ok (.iconst 0, 1) := by decide +kernel
theorem dX7_linkLine_10 : decode cX7_linkLine 10 = .ok (.ireturn, 1) := by decide +kernel
theorem dX7_linkLine_11 : decode cX7_linkLine 11 = .ok (.bipush 6, 2) := by decide +kernel
theorem dX7_linkLine_13 : decode cX7_linkLine 13 = .ok (.aload_n 0, 1) := by decide +kernel
theorem dX7_linkLine_14 : decode cX7_linkLine 14 = .ok (.getfield 225, 3) := by decide +kernel
theorem dX7_linkLine_17 : decode cX7_linkLine 17 = .ok (.imul, 1) := by decide +kernel
theorem dX7_linkLine_18 : decode cX7_linkLine 18 = .ok (.istore_n 2, 1) := by decide +kernel
theorem dX7_linkLine_19 : decode cX7_linkLine 19 = .ok (.aload_n 0, 1) := by decide +kernel
theorem dX7_linkLine_20 : decode cX7_linkLine 20 = .ok (.invokevirtual 191, 3) := by decide +kernel
theorem dX7_linkLine_23 : decode cX7_linkLine 23 = .ok (.aload_n 0, 1) := by decide +kernel
theorem dX7_linkLine_24 : decode cX7_linkLine 24 = .ok (.getfield 30, 3) := by decide +kernel
theorem dX7_linkLine_27 : decode cX7_linkLine 27 = .ok (.iload_n 2, 1) := by decide +kernel
theorem dX7_linkLine_28 : decode cX7_linkLine 28 = .ok (.aload_n 0, 1) := by decide +kernel
theorem dX7_linkLine_29 : decode cX7_linkLine 29 = .ok (.invokevirtual 210, 3) := by decide +kernel
theorem dX7_linkLine_32 : decode cX7_linkLine 32 = .ok (.iastore, 1) := by decide +kernel
theorem dX7_linkLine_33 : decode cX7_linkLine 33 = .ok (.aload_n 0, 1) := by decide +kernel
theorem dX7_linkLine_34 : decode cX7_linkLine 34 = .ok (.getfield 30, 3) := by decide +kernel
theorem dX7_linkLine_37 : decode cX7_linkLine 37 = .ok (.iload_n 2, 1) := by decide +kernel
theorem dX7_linkLine_38 : decode cX7_linkLine 38 = .ok (.iaload, 1) := by decide +kernel
theorem dX7_linkLine_39 : decode cX7_linkLine 39 = .ok (.iconst (-1), 1) := by decide +kernel
theorem dX7_linkLine_40 : decode cX7_linkLine 40 = .ok (.if_icmp .ne 5, 3) := by decide +kernel
theorem dX7_linkLine_43 : decode cX7_linkLine 43 = .ok (.iconst 0, 1) := by decide +kernel
theorem dX7_linkLine_44 : decode cX7_linkLine 44 = .ok (.ireturn, 1) := by decide +kernel
end
section
theorem dX7_linkLine_45 : decode cX7_linkLine 45 = .ok (.aload_n 0, 1) := by decide +kernel
theorem dX7_linkLine_46 : decode cX7_linkLine 46 = .ok (.invokevirtual 191, 3) := by decide +kernel
theorem dX7_linkLine_49 : decode cX7_linkLine 49 = .ok (.aload_n 0, 1) := by decide +kernel
theorem dX7_linkLine_50 : decode cX7_linkLine 50 = .ok (.getfield 30, 3) := by decide +kernel
theorem dX7_linkLine_53 : decode cX7_linkLine 53 = .ok (.iload_n 2, 1) := by decide +kernel
theorem dX7_linkLine_54 : decode cX7_linkLine 54 = .ok (.iconst 1, 1) := by decide +kernel
theorem dX7_linkLine_55 : decode cX7_linkLine 55 = .ok (.iadd, 1) := by decide +kernel
theorem dX7_linkLine_56 : decode cX7_linkLine 56 = .ok (.aload_n 0, 1) := by decide +kernel
theorem dX7_linkLine_57 : decode cX7_linkLine 57 = .ok (.invokevirtual 210, 3) := by decide +kernel
theorem dX7_linkLine_60 : decode cX7_linkLine 60 = .ok (.iastore, 1) := by decide +kernel
theorem dX7_linkLine_61 : decode cX7_linkLine 61 = .ok (.aload_n 0, 1) := by decide +kernel
theorem dX7_linkLine_62 : decode cX7_linkLine 62 = .ok (.getfield 30, 3) := by decide +kernel
theorem dX7_linkLine_65 : decode cX7_linkLine 65 = .ok (.iload_n 2, 1) := by decide +kernel
theorem dX7_linkLine_66 : decode cX7_linkLine 66 = .ok (.iconst 1, 1) := by decide +kernel
theorem dX7_linkLine_67 : decode cX7_linkLine 67 = .ok (.iadd, 1) := by decide +kernel
theorem dX7_linkLine_68 : decode cX7_linkLine 68 = .ok (.iaload, 1) := by decide +kernel
theorem dX7_linkLine_69 : decode cX7_linkLine 69 = .ok (.iconst (-1), 1) := by decide +kernel
theorem dX7_linkLine_70 : decode cX7_linkLine 70 = .ok (.if_icmp .eq 20, 3) := by decide +kernel
theorem dX7_linkLine_73 : decode cX7_linkLine 73 = .ok (.aload_n 0, 1) := by decide +kernel
theorem dX7_linkLine_74 : decode cX7_linkLine 74 = .ok (.getfield 30, 3) := by decide +kernel
theorem dX7_linkLine_77 : decode cX7_linkLine 77 = .ok (.iload_n 2, 1) := by decide +kernel
theorem dX7_linkLine_78 : decode cX7_linkLine 78 = .ok (.iconst 1, 1) := by decide +kernel
theorem dX7_linkLine_79 : decode cX7_linkLine 79 = .ok (.iadd, 1) := by decide +kernel
theorem dX7_linkLine_80 : decode cX7_linkLine 80 = .ok (.iaload, 1) := by decide +kernel
theorem dX7_linkLine_81 : decode cX7_linkLine 81 = .ok (.aload_n 0, 1) := by decide +kernel
theorem dX7_linkLine_82 : decode cX7_linkLine 82 = .ok (.getfield 30, 3) := by decide +kernel
theorem dX7_linkLine_85 : decode cX7_linkLine 85 = .ok (.iload_n 2, 1) := by decide +kernel
theorem dX7_linkLine_86 : decode cX7_linkLine 86 = .ok (.iaload, 1) := by decide +kernel
theorem dX7_linkLine_87 : decode cX7_linkLine 87 = .ok (.if_icmp .ne 5, 3) := by decide +kernel
theorem dX7_linkLine_90 : decode cX7_linkLine 90 = .ok (.iconst 0, 1) := by decide +kernel
theorem dX7_linkLine_91 : decode cX7_linkLine 91 = .ok (.ireturn, 1) := by decide +kernel
theorem dX7_linkLine_92 : decode cX7_linkLine 92 = .ok (.aload_n 0, 1) := by decide +kernel
theorem dX7_linkLine_93 : decode cX7_linkLine 93 = .ok (.invokevirtual 191, 3) := by decide +kernel
theorem dX7_linkLine_96 : decode cX7_linkLine 96 = .ok (.aload_n 0, 1) := by decide +kernel
theorem dX7_linkLine_97 : decode cX7_linkLine 97 = .ok (.ldc 186, 2) := by decide +kernel
theorem dX7_linkLine_99 : decode cX7_linkLine 99 = .ok (.invokevirtual 219, 3) := by decide +kernel
theorem dX7_linkLine_102 : decode cX7_linkLine 102 = .ok (.ifCond .eq 22, 3) := by decide +kernel
theorem dX7_linkLine_105 : decode cX7_linkLine 105 = .ok (.aload_n 0, 1) := by decide +kernel
theorem dX7_linkLine_106 : decode cX7_linkLine 106 = .ok (.iconst 0, 1) := by decide +kernel
theorem dX7_linkLine_107 : decode cX7_linkLine 107 = .ok (.iload_n 1, 1) := by decide +kernel
theorem dX7_linkLine_108 : decode cX7_linkLine 108 = .ok (.ifCond .eq 8, 3) := by decide +kernel
theorem dX7_linkLine_111 : decode cX7_linkLine 111 = .ok (.bipush 23, 2) := by decide +kernel
theorem dX7_linkLine_113 : decode cX7_linkLine 113 = .ok (.goto 5, 3) := by decide +kernel
theorem dX7_linkLine_116 : decode cX7_linkLine 116 = .ok (.bipush 95, 2) := by decide +kernel
theorem dX7_linkLine_118 : decode cX7_linkLine 118 = .ok (.invokevirtual 222, 3) := by decide +kernel
theorem dX7_linkLine_121 : decode cX7_linkLine 121 = .ok (.ifCond .ne 5, 3) := by decide +kernel
theorem dX7_linkLine_124 : decode cX7_linkLine 124 = .ok (.iconst 0, 1) := by decide +kernel
theorem dX7_linkLine_125 : decode cX7_linkLine 125 = .ok (.ireturn, 1) := by decide +kernel
theorem dX7_linkLine_126 : decode cX7_linkLine 126 = .ok (.aload_n 0, 1) := by decide +kernel
theorem dX7_linkLine_127 : decode cX7_linkLine 127 = .ok (.getfield 30, 3) := by decide +kernel
theorem dX7_linkLine_130 : decode cX7_linkLine 130 = .ok (.iload_n 2, 1) := by decide +kernel
theorem dX7_linkLine_131 : decode cX7_linkLine 131 = .ok (.iconst 2, 1) := by decide +kernel
theorem dX7_linkLine_132 : decode cX7_linkLine 132 = .ok (.iadd, 1) := by decide +kernel
theorem dX7_linkLine_133 : decode cX7_linkLine 133 = .ok (.aload_n 0, 1) := by decide +kernel
theorem dX7_linkLine_134 : decode cX7_linkLine 134 = .ok (.getfield 194, 3) := by decide +kernel
theorem dX7_linkLine_137 : decode cX7_linkLine 137 = .ok (.iastore, 1) := by decide +kernel
theorem dX7_linkLine_138 : decode cX7_linkLine 138 = .ok (.aload_n 0, 1) := by decide +kernel
theorem dX7_linkLine_139 : decode cX7_linkLine 139 = .ok (.ldc 187, 2) := by decide +kernel
theorem dX7_linkLine_141 : decode cX7_linkLine 141 = .ok (.invokevirtual 219, 3) := by decide +kernel
theorem dX7_linkLine_144 : decode cX7_linkLine 144 = .ok (.ifCond .eq 13, 3) := by decide +kernel
theorem dX7_linkLine_147 : decode cX7_linkLine 147 = .ok (.aload_n 0, 1) := by decide +kernel
theorem dX7_linkLine_148 : decode cX7_linkLine 148 = .ok (.iconst 1, 1) := by decide +kernel
theorem dX7_linkLine_149 : decode cX7_linkLine 149 = .ok (.bipush 48, 2) := by decide +kernel
theorem dX7_linkLine_151 : decode cX7_linkLine 151 = .ok (.invokevirtual 222, 3) := by decide +kernel
theorem dX7_linkLine_154 : decode cX7_linkLine 154 = .ok (.ifCond .ne 5, 3) := by decide +kernel
theorem dX7_linkLine_157 : decode cX7_linkLine 157 = .ok (.iconst 0, 1) := by decide +kernel
theorem dX7_linkLine_158 : decode cX7_linkLine 158 = .ok (.ireturn, 1) := by decide +kernel
theorem dX7_linkLine_159 : decode cX7_linkLine 159 = .ok (.aload_n 0, 1) := by decide +kernel
theorem dX7_linkLine_160 : decode cX7_linkLine 160 = .ok (.getfield 30, 3) := by decide +kernel
theorem dX7_linkLine_163 : decode cX7_linkLine 163 = .ok (.iload_n 2, 1) := by decide +kernel
theorem dX7_linkLine_164 : decode cX7_linkLine 164 = .ok (.iconst 3, 1) := by decide +kernel
theorem dX7_linkLine_165 : decode cX7_linkLine 165 = .ok (.iadd, 1) := by decide +kernel
theorem dX7_linkLine_166 : decode cX7_linkLine 166 = .ok (.aload_n 0, 1) := by decide +kernel
theorem dX7_linkLine_167 : decode cX7_linkLine 167 = .ok (.getfield 194, 3) := by decide +kernel
theorem dX7_linkLine_170 : decode cX7_linkLine 170 = .ok (.iastore, 1) := by decide +kernel
theorem dX7_linkLine_171 : decode cX7_linkLine 171 = .ok (.aload_n 0, 1) := by decide +kernel
theorem dX7_linkLine_172 : decode cX7_linkLine 172 = .ok (.ldc 189, 2) := by decide +kernel
theorem dX7_linkLine_174 : decode cX7_linkLine 174 = .ok (.invokevirtual 219, 3) := by decide +kernel
theorem dX7_linkLine_177 : decode cX7_linkLine 177 = .ok (.ifCond .eq 13, 3) := by decide +kernel
theorem dX7_linkLine_180 : decode cX7_linkLine 180 = .ok (.aload_n 0, 1) := by decide +kernel
theorem dX7_linkLine_181 : decode cX7_linkLine 181 = .ok (.iconst 0, 1) := by decide +kernel
theorem dX7_linkLine_182 : decode cX7_linkLine 182 = .ok (.bipush 99, 2) := by decide +kernel
theorem dX7_linkLine_184 : decode cX7_linkLine 184 = .ok (.invokevirtual 222, 3) := by decide +kernel
theorem dX7_linkLine_187 : decode cX7_linkLine 187 = .ok (.ifCond .ne 5, 3) := by decide +kernel
theorem dX7_linkLine_190 : decode cX7_linkLine 190 = .ok (.iconst 0, 1) := by decide +kernel
theorem dX7_linkLine_191 : decode cX7_linkLine 191 = .ok (.ireturn, 1) := by decide +kernel
theorem dX7_linkLine_192 : decode cX7_linkLine 192 = .ok (.aload_n 0, 1) := by decide +kernel
theorem dX7_linkLine_193 : decode cX7_linkLine 193 = .ok (.getfield 30, 3) := by decide +kernel
theorem dX7_linkLine_196 : decode cX7_linkLine 196 = .ok (.iload_n 2, 1) := by decide +kernel
theorem dX7_linkLine_197 : decode cX7_linkLine 197 = .ok (.iconst 4, 1) := by decide +kernel
theorem dX7_linkLine_198 : decode cX7_linkLine 198 = .ok (.iadd, 1) := by decide +kernel
theorem dX7_linkLine_199 : decode cX7_linkLine 199 = .ok (.aload_n 0, 1) := by decide +kernel
theorem dX7_linkLine_200 : decode cX7_linkLine 200 = .ok (.getfield 194, 3) := by decide +kernel
theorem dX7_linkLine_203 : decode cX7_linkLine 203 = .ok (.iastore, 1) := by decide +kernel
theorem dX7_linkLine_204 : decode cX7_linkLine 204 = .ok (.aload_n 0, 1) := by decide +kernel
theorem dX7_linkLine_205 : decode cX7_linkLine 205 = .ok (.getfield 30, 3) := by decide +kernel
theorem dX7_linkLine_208 : decode cX7_linkLine 208 = .ok (.iload_n 2, 1) := by decide +kernel
theorem dX7_linkLine_209 : decode cX7_linkLine 209 = .ok (.iconst 5, 1) := by decide +kernel
theorem dX7_linkLine_210 : decode cX7_linkLine 210 = .ok (.iadd, 1) := by decide +kernel
theorem dX7_linkLine_211 : decode cX7_linkLine 211 = .ok (.iload_n 1, 1) := by decide +kernel
theorem dX7_linkLine_212 : decode cX7_linkLine 212 = .ok (.ifCond .eq 7, 3) := by decide +kernel
theorem dX7_linkLine_215 : decode cX7_linkLine 215 = .ok (.iconst 1, 1) := by decide +kernel
theorem dX7_linkLine_216 : decode cX7_linkLine 216 = .ok (.goto 4, 3) := by decide +kernel
theorem dX7_linkLine_219 : decode cX7_linkLine 219 = .ok (.iconst 0, 1) := by decide +kernel
theorem dX7_linkLine_220 : decode cX7_linkLine 220 = .ok (.iastore, 1) := by decide +kernel
theorem dX7_linkLine_221 : decode cX7_linkLine 221 = .ok (.aload_n 0, 1) := by decide +kernel
theorem dX7_linkLine_222 : decode cX7_linkLine 222 = .ok (.dup, 1) := by decide +kernel
theorem dX7_linkLine_223 : decode cX7_linkLine 223 = .ok (.getfield 225, 3) := by decide +kernel
theorem dX7_linkLine_226 : decode cX7_linkLine 226 = .ok (.iconst 1, 1) := by decide +kernel
theorem dX7_linkLine_227 : decode cX7_linkLine 227 = .ok (.iadd, 1) := by decide +kernel
theorem dX7_linkLine_228 : decode cX7_linkLine 228 = .ok (.putfield 225, 3) := by decide +kernel
theorem dX7_linkLine_231 : decode cX7_linkLine 231 = .ok (.aload_n 0, 1) := by decide +kernel
theorem dX7_linkLine_232 : decode cX7_linkLine 232 = .ok (.invokevirtual 216, 3) := by decide +kernel
theorem dX7_linkLine_235 : decode cX7_linkLine 235 = .ok (.ireturn, 1) := by decide +kernel
theorem dX7_line_0 : decode cX7_line 0 = .ok (.aload_n 0, 1) := by decide +kernel
theorem dX7_line_1 : decode cX7_line 1 = .ok (.ldc 161, 2) := by decide +kernel
theorem dX7_line_3 : decode cX7_line 3 = .ok (.invokevirtual 163, 3) := by decide +kernel
theorem dX7_line_6 : decode cX7_line 6 = .ok (.ifCond .eq 8, 3) := by decide +kernel
theorem dX7_line_9 : decode cX7_line 9 = .ok (.aload_n 0, 1) := by decide +kernel
theorem dX7_line_10 : decode cX7_line 10 = .ok (.invokevirtual 228, 3) := by decide +kernel
theorem dX7_line_13 : decode cX7_line 13 = .ok (.ireturn, 1) := by decide +kernel
theorem dX7_line_14 : decode cX7_line 14 = .ok (.aload_n 0, 1) := by decide +kernel
theorem dX7_line_15 : decode cX7_line 15 = .ok (.ldc 167, 2) := by decide +kernel
theorem dX7_line_17 : decode cX7_line 17 = .ok (.invokevirtual 163, 3) := by decide +kernel
theorem dX7_line_20 : decode cX7_line 20 = .ok (.ifCond .eq 8, 3) := by decide +kernel
theorem dX7_line_23 : decode cX7_line 23 = .ok (.aload_n 0, 1) := by decide +kernel
theorem dX7_line_24 : decode cX7_line 24 = .ok (.invokevirtual 231, 3) := by decide +kernel
theorem dX7_line_27 : decode cX7_line 27 = .ok (.ireturn, 1) := by decide +kernel
theorem dX7_line_28 : decode cX7_line 28 = .ok (.aload_n 0, 1) := by decide +kernel
theorem dX7_line_29 : decode cX7_line 29 = .ok (.ldc 182, 2) := by decide +kernel
theorem dX7_line_31 : decode cX7_line 31 = .ok (.invokevirtual 163, 3) := by decide +kernel
theorem dX7_line_34 : decode cX7_line 34 = .ok (.ifCond .ne 12, 3) := by decide +kernel
theorem dX7_line_37 : decode cX7_line 37 = .ok (.aload_n 0, 1) := by decide +kernel
theorem dX7_line_38 : decode cX7_line 38 = .ok (.ldc 184, 2) := by decide +kernel
theorem dX7_line_40 : decode cX7_line 40 = .ok (.invokevirtual 163, 3) := by decide +kernel
theorem dX7_line_43 : decode cX7_line 43 = .ok (.ifCond .eq 20, 3) := by decide +kernel
theorem dX7_line_46 : decode cX7_line 46 = .ok (.aload_n 0, 1) := by decide +kernel
theorem dX7_line_47 : decode cX7_line 47 = .ok (.aload_n 0, 1) := by decide +kernel
theorem dX7_line_48 : decode cX7_line 48 = .ok (.ldc 182, 2) := by decide +kernel
theorem dX7_line_50 : decode cX7_line 50 = .ok (.invokevirtual 163, 3) := by decide +kernel
theorem dX7_line_53 : decode cX7_line 53 = .ok (.invokevirtual 234, 3) := by decide +kernel
theorem dX7_line_56 : decode cX7_line 56 = .ok (.ifCond .eq 7, 3) := by decide +kernel
theorem dX7_line_59 : decode cX7_line 59 = .ok (.iconst 1, 1) := by decide +kernel
theorem dX7_line_60 : decode cX7_line 60 = .ok (.goto 4, 3) := by decide +kernel
theorem dX7_line_63 : decode cX7_line 63 = .ok (.iconst 0, 1) := by decide +kernel
theorem dX7_line_64 : decode cX7_line 64 = .ok (.ireturn, 1) := by decide +kernel
theorem dX7_fault_0 : decode cX7_fault 0 = .ok (.aload_n 0, 1) := by decide +kernel
theorem dX7_fault_1 : decode cX7_fault 1 = .ok (.iconst 0, 1) := by decide +kernel
theorem dX7_fault_2 : decode cX7_fault 2 = .ok (.putfield 197, 3) := by decide +kernel
theorem dX7_fault_5 : decode cX7_fault 5 = .ok (.aload_n 0, 1) := by decide +kernel
theorem dX7_fault_6 : decode cX7_fault 6 = .ok (.iconst 0, 1) := by decide +kernel
theorem dX7_fault_7 : decode cX7_fault 7 = .ok (.putfield 204, 3) := by decide +kernel
theorem dX7_fault_10 : decode cX7_fault 10 = .ok (.aload_n 0, 1) := by decide +kernel
theorem dX7_fault_11 : decode cX7_fault 11 = .ok (.iconst 0, 1) := by decide +kernel
theorem dX7_fault_12 : decode cX7_fault 12 = .ok (.putfield 225, 3) := by decide +kernel
theorem dX7_fault_15 : decode cX7_fault 15 = .ok (.aload_n 0, 1) := by decide +kernel
theorem dX7_fault_16 : decode cX7_fault 16 = .ok (.iconst 0, 1) := by decide +kernel
theorem dX7_fault_17 : decode cX7_fault 17 = .ok (.putfield 121, 3) := by decide +kernel
theorem dX7_fault_20 : decode cX7_fault 20 = .ok (.aload_n 0, 1) := by decide +kernel
theorem dX7_fault_21 : decode cX7_fault 21 = .ok (.invokevirtual 191, 3) := by decide +kernel
theorem dX7_fault_24 : decode cX7_fault 24 = .ok (.aload_n 0, 1) := by decide +kernel
theorem dX7_fault_25 : decode cX7_fault 25 = .ok (.getfield 131, 3) := by decide +kernel
theorem dX7_fault_28 : decode cX7_fault 28 = .ok (.ifCond .eq 15, 3) := by decide +kernel
theorem dX7_fault_31 : decode cX7_fault 31 = .ok (.aload_n 0, 1) := by decide +kernel
theorem dX7_fault_32 : decode cX7_fault 32 = .ok (.invokevirtual 238, 3) := by decide +kernel
theorem dX7_fault_35 : decode cX7_fault 35 = .ok (.ifCond .ne (-11), 3) := by decide +kernel
theorem dX7_fault_38 : decode cX7_fault 38 = .ok (.aload_n 0, 1) := by decide +kernel
theorem dX7_fault_39 : decode cX7_fault 39 = .ok (.getfield 124, 3) := by decide +kernel
theorem dX7_fault_42 : decode cX7_fault 42 = .ok (.ireturn, 1) := by decide +kernel
theorem dX7_fault_43 : decode cX7_fault 43 = .ok (.aload_n 0, 1) := by decide +kernel
theorem dX7_fault_44 : decode cX7_fault 44 = .ok (.getfield 204, 3) := by decide +kernel
theorem dX7_fault_47 : decode cX7_fault 47 = .ok (.ifCond .ne 10, 3) := by decide +kernel
theorem dX7_fault_50 : decode cX7_fault 50 = .ok (.aload_n 0, 1) := by decide +kernel
theorem dX7_fault_51 : decode cX7_fault 51 = .ok (.getfield 124, 3) := by decide +kernel
theorem dX7_fault_54 : decode cX7_fault 54 = .ok (.goto 4, 3) := by decide +kernel
theorem dX7_fault_57 : decode cX7_fault 57 = .ok (.iconst (-1), 1) := by decide +kernel
theorem dX7_fault_58 : decode cX7_fault 58 = .ok (.ireturn, 1) := by decide +kernel
theorem dX7_map_0 : decode cX7_map 0 = .ok (.aload_n 0, 1) := by decide +kernel
theorem dX7_map_1 : decode cX7_map 1 = .ok (.invokevirtual 241, 3) := by decide +kernel
theorem dX7_map_4 : decode cX7_map 4 = .ok (.iconst (-1), 1) := by decide +kernel
theorem dX7_map_5 : decode cX7_map 5 = .ok (.if_icmp .eq 5, 3) := by decide +kernel
theorem dX7_map_8 : decode cX7_map 8 = .ok (.iconst (-1), 1) := by decide +kernel
theorem dX7_map_9 : decode cX7_map 9 = .ok (.ireturn, 1) := by decide +kernel
theorem dX7_map_10 : decode cX7_map 10 = .ok (.aload_n 0, 1) := by decide +kernel
theorem dX7_map_11 : decode cX7_map 11 = .ok (.aload_n 0, 1) := by decide +kernel
theorem dX7_map_12 : decode cX7_map 12 = .ok (.getfield 197, 3) := by decide +kernel
theorem dX7_map_15 : decode cX7_map 15 = .ok (.putfield 244, 3) := by decide +kernel
theorem dX7_map_18 : decode cX7_map 18 = .ok (.aload_n 0, 1) := by decide +kernel
theorem dX7_map_19 : decode cX7_map 19 = .ok (.aload_n 0, 1) := by decide +kernel
theorem dX7_map_20 : decode cX7_map 20 = .ok (.getfield 204, 3) := by decide +kernel
theorem dX7_map_23 : decode cX7_map 23 = .ok (.putfield 247, 3) := by decide +kernel
theorem dX7_map_26 : decode cX7_map 26 = .ok (.aload_n 0, 1) := by decide +kernel
theorem dX7_map_27 : decode cX7_map 27 = .ok (.aload_n 0, 1) := by decide +kernel
theorem dX7_map_28 : decode cX7_map 28 = .ok (.getfield 225, 3) := by decide +kernel
theorem dX7_map_31 : decode cX7_map 31 = .ok (.putfield 250, 3) := by decide +kernel
theorem dX7_map_34 : decode cX7_map 34 = .ok (.iconst 0, 1) := by decide +kernel
theorem dX7_map_35 : decode cX7_map 35 = .ok (.istore_n 1, 1) := by decide +kernel
theorem dX7_map_36 : decode cX7_map 36 = .ok (.iload_n 1, 1) := by decide +kernel
theorem dX7_map_37 : decode cX7_map 37 = .ok (.iconst 4, 1) := by decide +kernel
theorem dX7_map_38 : decode cX7_map 38 = .ok (.if_icmp .ge 21, 3) := by decide +kernel
theorem dX7_map_41 : decode cX7_map 41 = .ok (.aload_n 0, 1) := by decide +kernel
theorem dX7_map_42 : decode cX7_map 42 = .ok (.getfield 33, 3) := by decide +kernel
theorem dX7_map_45 : decode cX7_map 45 = .ok (.iload_n 1, 1) := by decide +kernel
theorem dX7_map_46 : decode cX7_map 46 = .ok (.aload_n 0, 1) := by decide +kernel
theorem dX7_map_47 : decode cX7_map 47 = .ok (.getfield 17, 3) := by decide +kernel
theorem dX7_map_50 : decode cX7_map 50 = .ok (.iload_n 1, 1) := by decide +kernel
theorem dX7_map_51 : decode cX7_map 51 = .ok (.iaload, 1) := by decide +kernel
theorem dX7_map_52 : decode cX7_map 52 = .ok (.iastore, 1) := by decide +kernel
theorem dX7_map_53 : decode cX7_map 53 = .ok (.iinc 1 1, 3) := by decide +kernel
theorem dX7_map_56 : decode cX7_map 56 = .ok (.goto (-20), 3) := by decide +kernel
theorem dX7_map_59 : decode cX7_map 59 = .ok (.iconst 0, 1) := by decide +kernel
theorem dX7_map_60 : decode cX7_map 60 = .ok (.istore_n 1, 1) := by decide +kernel
theorem dX7_map_61 : decode cX7_map 61 = .ok (.iload_n 1, 1) := by decide +kernel
theorem dX7_map_62 : decode cX7_map 62 = .ok (.bipush 8, 2) := by decide +kernel
theorem dX7_map_64 : decode cX7_map 64 = .ok (.if_icmp .ge 33, 3) := by decide +kernel
theorem dX7_map_67 : decode cX7_map 67 = .ok (.aload_n 0, 1) := by decide +kernel
theorem dX7_map_68 : decode cX7_map 68 = .ok (.getfield 36, 3) := by decide +kernel
theorem dX7_map_71 : decode cX7_map 71 = .ok (.iload_n 1, 1) := by decide +kernel
theorem dX7_map_72 : decode cX7_map 72 = .ok (.aload_n 0, 1) := by decide +kernel
theorem dX7_map_73 : decode cX7_map 73 = .ok (.getfield 24, 3) := by decide +kernel
theorem dX7_map_76 : decode cX7_map 76 = .ok (.iload_n 1, 1) := by decide +kernel
theorem dX7_map_77 : decode cX7_map 77 = .ok (.iaload, 1) := by decide +kernel
theorem dX7_map_78 : decode cX7_map 78 = .ok (.iastore, 1) := by decide +kernel
theorem dX7_map_79 : decode cX7_map 79 = .ok (.aload_n 0, 1) := by decide +kernel
theorem dX7_map_80 : decode cX7_map 80 = .ok (.getfield 39, 3) := by decide +kernel
theorem dX7_map_83 : decode cX7_map 83 = .ok (.iload_n 1, 1) := by decide +kernel
theorem dX7_map_84 : decode cX7_map 84 = .ok (.aload_n 0, 1) := by decide +kernel
theorem dX7_map_85 : decode cX7_map 85 = .ok (.getfield 27, 3) := by decide +kernel
theorem dX7_map_88 : decode cX7_map 88 = .ok (.iload_n 1, 1) := by decide +kernel
theorem dX7_map_89 : decode cX7_map 89 = .ok (.iaload, 1) := by decide +kernel
theorem dX7_map_90 : decode cX7_map 90 = .ok (.iastore, 1) := by decide +kernel
theorem dX7_map_91 : decode cX7_map 91 = .ok (.iinc 1 1, 3) := by decide +kernel
theorem dX7_map_94 : decode cX7_map 94 = .ok (.goto (-33), 3) := by decide +kernel
theorem dX7_map_97 : decode cX7_map 97 = .ok (.iconst 0, 1) := by decide +kernel
theorem dX7_map_98 : decode cX7_map 98 = .ok (.istore_n 1, 1) := by decide +kernel
theorem dX7_map_99 : decode cX7_map 99 = .ok (.iload_n 1, 1) := by decide +kernel
theorem dX7_map_100 : decode cX7_map 100 = .ok (.bipush 96, 2) := by decide +kernel
theorem dX7_map_102 : decode cX7_map 102 = .ok (.if_icmp .ge 21, 3) := by decide +kernel
theorem dX7_map_105 : decode cX7_map 105 = .ok (.aload_n 0, 1) := by decide +kernel
theorem dX7_map_106 : decode cX7_map 106 = .ok (.getfield 42, 3) := by decide +kernel
theorem dX7_map_109 : decode cX7_map 109 = .ok (.iload_n 1, 1) := by decide +kernel
theorem dX7_map_110 : decode cX7_map 110 = .ok (.aload_n 0, 1) := by decide +kernel
theorem dX7_map_111 : decode cX7_map 111 = .ok (.getfield 30, 3) := by decide +kernel
theorem dX7_map_114 : decode cX7_map 114 = .ok (.iload_n 1, 1) := by decide +kernel
theorem dX7_map_115 : decode cX7_map 115 = .ok (.iaload, 1) := by decide +kernel
theorem dX7_map_116 : decode cX7_map 116 = .ok (.iastore, 1) := by decide +kernel
theorem dX7_map_117 : decode cX7_map 117 = .ok (.iinc 1 1, 3) := by decide +kernel
theorem dX7_map_120 : decode cX7_map 120 = .ok (.goto (-21), 3) := by decide +kernel
theorem dX7_map_123 : decode cX7_map 123 = .ok (.iconst 0, 1) := by decide +kernel
theorem dX7_map_124 : decode cX7_map 124 = .ok (.istore_n 1, 1) := by decide +kernel
theorem dX7_map_125 : decode cX7_map 125 = .ok (.iload_n 1, 1) := by decide +kernel
theorem dX7_map_126 : decode cX7_map 126 = .ok (.iconst 2, 1) := by decide +kernel
theorem dX7_map_127 : decode cX7_map 127 = .ok (.if_icmp .ge 38, 3) := by decide +kernel
theorem dX7_map_130 : decode cX7_map 130 = .ok (.aload_n 0, 1) := by decide +kernel
theorem dX7_map_131 : decode cX7_map 131 = .ok (.getfield 45, 3) := by decide +kernel
theorem dX7_map_134 : decode cX7_map 134 = .ok (.iload_n 1, 1) := by decide +kernel
theorem dX7_map_135 : decode cX7_map 135 = .ok (.iconst 0, 1) := by decide +kernel
theorem dX7_map_136 : decode cX7_map 136 = .ok (.iastore, 1) := by decide +kernel
theorem dX7_map_137 : decode cX7_map 137 = .ok (.aload_n 0, 1) := by decide +kernel
theorem dX7_map_138 : decode cX7_map 138 = .ok (.getfield 48, 3) := by decide +kernel
theorem dX7_map_141 : decode cX7_map 141 = .ok (.iload_n 1, 1) := by decide +kernel
theorem dX7_map_142 : decode cX7_map 142 = .ok (.iconst 0, 1) := by decide +kernel
theorem dX7_map_143 : decode cX7_map 143 = .ok (.iastore, 1) := by decide +kernel
theorem dX7_map_144 : decode cX7_map 144 = .ok (.aload_n 0, 1) := by decide +kernel
theorem dX7_map_145 : decode cX7_map 145 = .ok (.getfield 51, 3) := by decide +kernel
theorem dX7_map_148 : decode cX7_map 148 = .ok (.iload_n 1, 1) := by decide +kernel
theorem dX7_map_149 : decode cX7_map 149 = .ok (.bipush 96, 2) := by decide +kernel
theorem dX7_map_151 : decode cX7_map 151 = .ok (.iastore, 1) := by decide +kernel
theorem dX7_map_152 : decode cX7_map 152 = .ok (.aload_n 0, 1) := by decide +kernel
theorem dX7_map_153 : decode cX7_map 153 = .ok (.getfield 54, 3) := by decide +kernel
theorem dX7_map_156 : decode cX7_map 156 = .ok (.iload_n 1, 1) := by decide +kernel
theorem dX7_map_157 : decode cX7_map 157 = .ok (.iconst 0, 1) := by decide +kernel
theorem dX7_map_158 : decode cX7_map 158 = .ok (.iastore, 1) := by decide +kernel
theorem dX7_map_159 : decode cX7_map 159 = .ok (.iinc 1 1, 3) := by decide +kernel
theorem dX7_map_162 : decode cX7_map 162 = .ok (.goto (-37), 3) := by decide +kernel
theorem dX7_map_165 : decode cX7_map 165 = .ok (.aload_n 0, 1) := by decide +kernel
theorem dX7_map_166 : decode cX7_map 166 = .ok (.iconst 0, 1) := by decide +kernel
theorem dX7_map_167 : decode cX7_map 167 = .ok (.putfield 253, 3) := by decide +kernel
theorem dX7_map_170 : decode cX7_map 170 = .ok (.aload_n 0, 1) := by decide +kernel
theorem dX7_map_171 : decode cX7_map 171 = .ok (.iconst 0, 1) := by decide +kernel
theorem dX7_map_172 : decode cX7_map 172 = .ok (.putfield 113, 3) := by decide +kernel
theorem dX7_map_175 : decode cX7_map 175 = .ok (.aload_n 0, 1) := by decide +kernel
theorem dX7_map_176 : decode cX7_map 176 = .ok (.getfield 247, 3) := by decide +kernel
theorem dX7_map_179 : decode cX7_map 179 = .ok (.ireturn, 1) := by decide +kernel
theorem dX7_isMan_0 : decode cX7_isMan 0 = .ok (.aload_n 0, 1) := by decide +kernel
theorem dX7_isMan_1 : decode cX7_isMan 1 = .ok (.getfield 247, 3) := by decide +kernel
theorem dX7_isMan_4 : decode cX7_isMan 4 = .ok (.ifCond .le 16, 3) := by decide +kernel
theorem dX7_isMan_7 : decode cX7_isMan 7 = .ok (.iload_n 1, 1) := by decide +kernel
theorem dX7_isMan_8 : decode cX7_isMan 8 = .ok (.iconst 0, 1) := by decide +kernel
theorem dX7_isMan_9 : decode cX7_isMan 9 = .ok (.iconst 1, 1) := by decide +kernel
theorem dX7_isMan_10 : decode cX7_isMan 10 = .ok (.invokestatic 117, 3) := by decide +kernel
theorem dX7_isMan_13 : decode cX7_isMan 13 = .ok (.ifCond .eq 7, 3) := by decide +kernel
theorem dX7_isMan_16 : decode cX7_isMan 16 = .ok (.iconst 1, 1) := by decide +kernel
theorem dX7_isMan_17 : decode cX7_isMan 17 = .ok (.goto 4, 3) := by decide +kernel
theorem dX7_isMan_20 : decode cX7_isMan 20 = .ok (.iconst 0, 1) := by decide +kernel
theorem dX7_isMan_21 : decode cX7_isMan 21 = .ok (.ireturn, 1) := by decide +kernel
theorem dX7_isTown_0 : decode cX7_isTown 0 = .ok (.iload_n 1, 1) := by decide +kernel
theorem dX7_isTown_1 : decode cX7_isTown 1 = .ok (.iconst 0, 1) := by decide +kernel
theorem dX7_isTown_2 : decode cX7_isTown 2 = .ok (.aload_n 0, 1) := by decide +kernel
theorem dX7_isTown_3 : decode cX7_isTown 3 = .ok (.getfield 247, 3) := by decide +kernel
theorem dX7_isTown_6 : decode cX7_isTown 6 = .ok (.iconst 1, 1) := by decide +kernel
theorem dX7_isTown_7 : decode cX7_isTown 7 = .ok (.isub, 1) := by decide +kernel
theorem dX7_isTown_8 : decode cX7_isTown 8 = .ok (.invokestatic 117, 3) := by decide +kernel
theorem dX7_isTown_11 : decode cX7_isTown 11 = .ok (.ireturn, 1) := by decide +kernel
theorem dX7_isLink_0 : decode cX7_isLink 0 = .ok (.iload_n 1, 1) := by decide +kernel
theorem dX7_isLink_1 : decode cX7_isLink 1 = .ok (.iconst 0, 1) := by decide +kernel
theorem dX7_isLink_2 : decode cX7_isLink 2 = .ok (.aload_n 0, 1) := by decide +kernel
theorem dX7_isLink_3 : decode cX7_isLink 3 = .ok (.getfield 250, 3) := by decide +kernel
theorem dX7_isLink_6 : decode cX7_isLink 6 = .ok (.iconst 1, 1) := by decide +kernel
theorem dX7_isLink_7 : decode cX7_isLink 7 = .ok (.isub, 1) := by decide +kernel
theorem dX7_isLink_8 : decode cX7_isLink 8 = .ok (.invokestatic 117, 3) := by decide +kernel
theorem dX7_isLink_11 : decode cX7_isLink 11 = .ok (.ireturn, 1) := by decide +kernel
theorem dX7_isTrace_0 : decode cX7_isTrace 0 = .ok (.aload_n 0, 1) := by decide +kernel
theorem dX7_isTrace_1 : decode cX7_isTrace 1 = .ok (.iload_n 1, 1) := by decide +kernel
theorem dX7_isTrace_2 : decode cX7_isTrace 2 = .ok (.invokevirtual 256, 3) := by decide +kernel
theorem dX7_isTrace_5 : decode cX7_isTrace 5 = .ok (.ifCond .eq 23, 3) := by decide +kernel
theorem dX7_isTrace_8 : decode cX7_isTrace 8 = .ok (.iload_n 2, 1) := by decide +kernel
theorem dX7_isTrace_9 : decode cX7_isTrace 9 = .ok (.iconst 0, 1) := by decide +kernel
theorem dX7_isTrace_10 : decode cX7_isTrace 10 = .ok (.aload_n 0, 1) := by decide +kernel
theorem dX7_isTrace_11 : decode cX7_isTrace 11 = .ok (.getfield 54, 3) := by decide +kernel
theorem dX7_isTrace_14 : decode cX7_isTrace 14 = .ok (.iload_n 1, 1) := by decide +kernel
theorem dX7_isTrace_15 : decode cX7_isTrace 15 = .ok (.iaload, 1) := by decide +kernel
theorem dX7_isTrace_16 : decode cX7_isTrace 16 = .ok (.iconst 1, 1) := by decide +kernel
theorem dX7_isTrace_17 : decode cX7_isTrace 17 = .ok (.isub, 1) := by decide +kernel
theorem dX7_isTrace_18 : decode cX7_isTrace 18 = .ok (.invokestatic 117, 3) := by decide +kernel
theorem dX7_isTrace_21 : decode cX7_isTrace 21 = .ok (.ifCond .eq 7, 3) := by decide +kernel
theorem dX7_isTrace_24 : decode cX7_isTrace 24 = .ok (.iconst 1, 1) := by decide +kernel
theorem dX7_isTrace_25 : decode cX7_isTrace 25 = .ok (.goto 4, 3) := by decide +kernel
theorem dX7_isTrace_28 : decode cX7_isTrace 28 = .ok (.iconst 0, 1) := by decide +kernel
theorem dX7_isTrace_29 : decode cX7_isTrace 29 = .ok (.ireturn, 1) := by decide +kernel
theorem dX7_ofLink_0 : decode cX7_ofLink 0 = .ok (.aload_n 0, 1) := by decide +kernel
theorem dX7_ofLink_1 : decode cX7_ofLink 1 = .ok (.getfield 42, 3) := by decide +kernel
theorem dX7_ofLink_4 : decode cX7_ofLink 4 = .ok (.bipush 6, 2) := by decide +kernel
theorem dX7_ofLink_6 : decode cX7_ofLink 6 = .ok (.iload_n 1, 1) := by decide +kernel
theorem dX7_ofLink_7 : decode cX7_ofLink 7 = .ok (.imul, 1) := by decide +kernel
theorem dX7_ofLink_8 : decode cX7_ofLink 8 = .ok (.iload_n 2, 1) := by decide +kernel
theorem dX7_ofLink_9 : decode cX7_ofLink 9 = .ok (.iadd, 1) := by decide +kernel
theorem dX7_ofLink_10 : decode cX7_ofLink 10 = .ok (.iaload, 1) := by decide +kernel
theorem dX7_ofLink_11 : decode cX7_ofLink 11 = .ok (.ireturn, 1) := by decide +kernel
theorem dX7_man_0 : decode cX7_man 0 = .ok (.aload_n 0, 1) := by decide +kernel
theorem dX7_man_1 : decode cX7_man 1 = .ok (.iload_n 1, 1) := by decide +kernel
theorem dX7_man_2 : decode cX7_man 2 = .ok (.invokevirtual 256, 3) := by decide +kernel
theorem dX7_man_5 : decode cX7_man 5 = .ok (.ifCond .eq 31, 3) := by decide +kernel
theorem dX7_man_8 : decode cX7_man 8 = .ok (.aload_n 0, 1) := by decide +kernel
theorem dX7_man_9 : decode cX7_man 9 = .ok (.iload_n 2, 1) := by decide +kernel
theorem dX7_man_10 : decode cX7_man 10 = .ok (.invokevirtual 259, 3) := by decide +kernel
theorem dX7_man_13 : decode cX7_man 13 = .ok (.ifCond .eq 23, 3) := by decide +kernel
theorem dX7_man_16 : decode cX7_man 16 = .ok (.iload_n 3, 1) := by decide +kernel
theorem dX7_man_17 : decode cX7_man 17 = .ok (.iconst 0, 1) := by decide +kernel
theorem dX7_man_18 : decode cX7_man 18 = .ok (.iconst 4, 1) := by decide +kernel
theorem dX7_man_19 : decode cX7_man 19 = .ok (.invokestatic 117, 3) := by decide +kernel
theorem dX7_man_22 : decode cX7_man 22 = .ok (.ifCond .eq 14, 3) := by decide +kernel
theorem dX7_man_25 : decode cX7_man 25 = .ok (.iload 4, 2) := by decide +kernel
theorem dX7_man_27 : decode cX7_man 27 = .ok (.iconst 1, 1) := by decide +kernel
theorem dX7_man_28 : decode cX7_man 28 = .ok (.bipush 96, 2) := by decide +kernel
theorem dX7_man_30 : decode cX7_man 30 = .ok (.invokestatic 117, 3) := by decide +kernel
theorem dX7_man_33 : decode cX7_man 33 = .ok (.ifCond .ne 5, 3) := by decide +kernel
theorem dX7_man_36 : decode cX7_man 36 = .ok (.iconst 0, 1) := by decide +kernel
theorem dX7_man_37 : decode cX7_man 37 = .ok (.ireturn, 1) := by decide +kernel
theorem dX7_man_38 : decode cX7_man 38 = .ok (.aload_n 0, 1) := by decide +kernel
theorem dX7_man_39 : decode cX7_man 39 = .ok (.getfield 45, 3) := by decide +kernel
theorem dX7_man_42 : decode cX7_man 42 = .ok (.iload_n 1, 1) := by decide +kernel
theorem dX7_man_43 : decode cX7_man 43 = .ok (.iload_n 2, 1) := by decide +kernel
theorem dX7_man_44 : decode cX7_man 44 = .ok (.iastore, 1) := by decide +kernel
theorem dX7_man_45 : decode cX7_man 45 = .ok (.aload_n 0, 1) := by decide +kernel
theorem dX7_man_46 : decode cX7_man 46 = .ok (.getfield 48, 3) := by decide +kernel
theorem dX7_man_49 : decode cX7_man 49 = .ok (.iload_n 1, 1) := by decide +kernel
theorem dX7_man_50 : decode cX7_man 50 = .ok (.iload_n 3, 1) := by decide +kernel
theorem dX7_man_51 : decode cX7_man 51 = .ok (.iastore, 1) := by decide +kernel
theorem dX7_man_52 : decode cX7_man 52 = .ok (.aload_n 0, 1) := by decide +kernel
theorem dX7_man_53 : decode cX7_man 53 = .ok (.getfield 51, 3) := by decide +kernel
theorem dX7_man_56 : decode cX7_man 56 = .ok (.iload_n 1, 1) := by decide +kernel
theorem dX7_man_57 : decode cX7_man 57 = .ok (.iload 4, 2) := by decide +kernel
theorem dX7_man_59 : decode cX7_man 59 = .ok (.iastore, 1) := by decide +kernel
theorem dX7_man_60 : decode cX7_man 60 = .ok (.iconst 1, 1) := by decide +kernel
theorem dX7_man_61 : decode cX7_man 61 = .ok (.ireturn, 1) := by decide +kernel
theorem dX7_many_0 : decode cX7_many 0 = .ok (.iconst 0, 1) := by decide +kernel
theorem dX7_many_1 : decode cX7_many 1 = .ok (.istore_n 3, 1) := by decide +kernel
theorem dX7_many_2 : decode cX7_many 2 = .ok (.iconst 0, 1) := by decide +kernel
theorem dX7_many_3 : decode cX7_many 3 = .ok (.istore 4, 2) := by decide +kernel
theorem dX7_many_5 : decode cX7_many 5 = .ok (.iload 4, 2) := by decide +kernel
theorem dX7_many_7 : decode cX7_many 7 = .ok (.aload_n 0, 1) := by decide +kernel
theorem dX7_many_8 : decode cX7_many 8 = .ok (.getfield 54, 3) := by decide +kernel
theorem dX7_many_11 : decode cX7_many 11 = .ok (.iload_n 1, 1) := by decide +kernel
theorem dX7_many_12 : decode cX7_many 12 = .ok (.iaload, 1) := by decide +kernel
theorem dX7_many_13 : decode cX7_many 13 = .ok (.if_icmp .ge 33, 3) := by decide +kernel
theorem dX7_many_16 : decode cX7_many 16 = .ok (.iload_n 3, 1) := by decide +kernel
theorem dX7_many_17 : decode cX7_many 17 = .ok (.aload_n 0, 1) := by decide +kernel
theorem dX7_many_18 : decode cX7_many 18 = .ok (.getfield 57, 3) := by decide +kernel
theorem dX7_many_21 : decode cX7_many 21 = .ok (.bipush 8, 2) := by decide +kernel
theorem dX7_many_23 : decode cX7_many 23 = .ok (.iload_n 1, 1) := by decide +kernel
theorem dX7_many_24 : decode cX7_many 24 = .ok (.imul, 1) := by decide +kernel
theorem dX7_many_25 : decode cX7_many 25 = .ok (.iload 4, 2) := by decide +kernel
theorem dX7_many_27 : decode cX7_many 27 = .ok (.iadd, 1) := by decide +kernel
theorem dX7_many_28 : decode cX7_many 28 = .ok (.iaload, 1) := by decide +kernel
theorem dX7_many_29 : decode cX7_many 29 = .ok (.iload_n 2, 1) := by decide +kernel
theorem dX7_many_30 : decode cX7_many 30 = .ok (.if_icmp .ne 7, 3) := by decide +kernel
theorem dX7_many_33 : decode cX7_many 33 = .ok (.iconst 1, 1) := by decide +kernel
theorem dX7_many_34 : decode cX7_many 34 = .ok (.goto 4, 3) := by decide +kernel
theorem dX7_many_37 : decode cX7_many 37 = .ok (.iconst 0, 1) := by decide +kernel
theorem dX7_many_38 : decode cX7_many 38 = .ok (.iadd, 1) := by decide +kernel
theorem dX7_many_39 : decode cX7_many 39 = .ok (.istore_n 3, 1) := by decide +kernel
theorem dX7_many_40 : decode cX7_many 40 = .ok (.iinc 4 1, 3) := by decide +kernel
theorem dX7_many_43 : decode cX7_many 43 = .ok (.goto (-38), 3) := by decide +kernel
theorem dX7_many_46 : decode cX7_many 46 = .ok (.iload_n 3, 1) := by decide +kernel
theorem dX7_many_47 : decode cX7_many 47 = .ok (.ireturn, 1) := by decide +kernel
theorem dX7_left_0 : decode cX7_left 0 = .ok (.aload_n 0, 1) := by decide +kernel
theorem dX7_left_1 : decode cX7_left 1 = .ok (.getfield 54, 3) := by decide +kernel
theorem dX7_left_4 : decode cX7_left 4 = .ok (.iload_n 1, 1) := by decide +kernel
theorem dX7_left_5 : decode cX7_left 5 = .ok (.iaload, 1) := by decide +kernel
theorem dX7_left_6 : decode cX7_left 6 = .ok (.bipush 8, 2) := by decide +kernel
theorem dX7_left_8 : decode cX7_left 8 = .ok (.if_icmp .ne 5, 3) := by decide +kernel
theorem dX7_left_11 : decode cX7_left 11 = .ok (.iconst (-1), 1) := by decide +kernel
theorem dX7_left_12 : decode cX7_left 12 = .ok (.ireturn, 1) := by decide +kernel
theorem dX7_left_13 : decode cX7_left 13 = .ok (.bipush 8, 2) := by decide +kernel
theorem dX7_left_15 : decode cX7_left 15 = .ok (.iload_n 1, 1) := by decide +kernel
theorem dX7_left_16 : decode cX7_left 16 = .ok (.imul, 1) := by decide +kernel
theorem dX7_left_17 : decode cX7_left 17 = .ok (.aload_n 0, 1) := by decide +kernel
theorem dX7_left_18 : decode cX7_left 18 = .ok (.getfield 54, 3) := by decide +kernel
theorem dX7_left_21 : decode cX7_left 21 = .ok (.iload_n 1, 1) := by decide +kernel
theorem dX7_left_22 : decode cX7_left 22 = .ok (.iaload, 1) := by decide +kernel
theorem dX7_left_23 : decode cX7_left 23 = .ok (.iadd, 1) := by decide +kernel
theorem dX7_left_24 : decode cX7_left 24 = .ok (.istore 7, 2) := by decide +kernel
theorem dX7_left_26 : decode cX7_left 26 = .ok (.aload_n 0, 1) := by decide +kernel
theorem dX7_left_27 : decode cX7_left 27 = .ok (.getfield 57, 3) := by decide +kernel
theorem dX7_left_30 : decode cX7_left 30 = .ok (.iload 7, 2) := by decide +kernel
theorem dX7_left_32 : decode cX7_left 32 = .ok (.iload_n 2, 1) := by decide +kernel
theorem dX7_left_33 : decode cX7_left 33 = .ok (.iastore, 1) := by decide +kernel
theorem dX7_left_34 : decode cX7_left 34 = .ok (.aload_n 0, 1) := by decide +kernel
theorem dX7_left_35 : decode cX7_left 35 = .ok (.getfield 60, 3) := by decide +kernel
theorem dX7_left_38 : decode cX7_left 38 = .ok (.iload 7, 2) := by decide +kernel
theorem dX7_left_40 : decode cX7_left 40 = .ok (.iload_n 3, 1) := by decide +kernel
theorem dX7_left_41 : decode cX7_left 41 = .ok (.iastore, 1) := by decide +kernel
theorem dX7_left_42 : decode cX7_left 42 = .ok (.aload_n 0, 1) := by decide +kernel
theorem dX7_left_43 : decode cX7_left 43 = .ok (.getfield 63, 3) := by decide +kernel
theorem dX7_left_46 : decode cX7_left 46 = .ok (.iload 7, 2) := by decide +kernel
theorem dX7_left_48 : decode cX7_left 48 = .ok (.iload 4, 2) := by decide +kernel
theorem dX7_left_50 : decode cX7_left 50 = .ok (.iastore, 1) := by decide +kernel
theorem dX7_left_51 : decode cX7_left 51 = .ok (.aload_n 0, 1) := by decide +kernel
theorem dX7_left_52 : decode cX7_left 52 = .ok (.getfield 66, 3) := by decide +kernel
theorem dX7_left_55 : decode cX7_left 55 = .ok (.iload 7, 2) := by decide +kernel
theorem dX7_left_57 : decode cX7_left 57 = .ok (.iload 5, 2) := by decide +kernel
theorem dX7_left_59 : decode cX7_left 59 = .ok (.iastore, 1) := by decide +kernel
theorem dX7_left_60 : decode cX7_left 60 = .ok (.aload_n 0, 1) := by decide +kernel
theorem dX7_left_61 : decode cX7_left 61 = .ok (.getfield 69, 3) := by decide +kernel
theorem dX7_left_64 : decode cX7_left 64 = .ok (.iload 7, 2) := by decide +kernel
theorem dX7_left_66 : decode cX7_left 66 = .ok (.iload 6, 2) := by decide +kernel
theorem dX7_left_68 : decode cX7_left 68 = .ok (.iastore, 1) := by decide +kernel
theorem dX7_left_69 : decode cX7_left 69 = .ok (.aload_n 0, 1) := by decide +kernel
theorem dX7_left_70 : decode cX7_left 70 = .ok (.getfield 72, 3) := by decide +kernel
theorem dX7_left_73 : decode cX7_left 73 = .ok (.iload 7, 2) := by decide +kernel
theorem dX7_left_75 : decode cX7_left 75 = .ok (.iconst 0, 1) := by decide +kernel
theorem dX7_left_76 : decode cX7_left 76 = .ok (.bastore, 1) := by decide +kernel
theorem dX7_left_77 : decode cX7_left 77 = .ok (.aload_n 0, 1) := by decide +kernel
theorem dX7_left_78 : decode cX7_left 78 = .ok (.getfield 54, 3) := by decide +kernel
theorem dX7_left_81 : decode cX7_left 81 = .ok (.iload_n 1, 1) := by decide +kernel
theorem dX7_left_82 : decode cX7_left 82 = .ok (.dup2, 1) := by decide +kernel
theorem dX7_left_83 : decode cX7_left 83 = .ok (.iaload, 1) := by decide +kernel
theorem dX7_left_84 : decode cX7_left 84 = .ok (.iconst 1, 1) := by decide +kernel
theorem dX7_left_85 : decode cX7_left 85 = .ok (.iadd, 1) := by decide +kernel
theorem dX7_left_86 : decode cX7_left 86 = .ok (.iastore, 1) := by decide +kernel
theorem dX7_left_87 : decode cX7_left 87 = .ok (.aload_n 0, 1) := by decide +kernel
theorem dX7_left_88 : decode cX7_left 88 = .ok (.getfield 54, 3) := by decide +kernel
theorem dX7_left_91 : decode cX7_left 91 = .ok (.iload_n 1, 1) := by decide +kernel
theorem dX7_left_92 : decode cX7_left 92 = .ok (.iaload, 1) := by decide +kernel
theorem dX7_left_93 : decode cX7_left 93 = .ok (.iconst 1, 1) := by decide +kernel
theorem dX7_left_94 : decode cX7_left 94 = .ok (.isub, 1) := by decide +kernel
theorem dX7_left_95 : decode cX7_left 95 = .ok (.ireturn, 1) := by decide +kernel
theorem dX7_stamp_0 : decode cX7_stamp 0 = .ok (.aload_n 0, 1) := by decide +kernel
theorem dX7_stamp_1 : decode cX7_stamp 1 = .ok (.iload_n 1, 1) := by decide +kernel
theorem dX7_stamp_2 : decode cX7_stamp 2 = .ok (.invokevirtual 256, 3) := by decide +kernel
theorem dX7_stamp_5 : decode cX7_stamp 5 = .ok (.ifCond .eq 49, 3) := by decide +kernel
theorem dX7_stamp_8 : decode cX7_stamp 8 = .ok (.iload_n 2, 1) := by decide +kernel
theorem dX7_stamp_9 : decode cX7_stamp 9 = .ok (.iconst 0, 1) := by decide +kernel
theorem dX7_stamp_10 : decode cX7_stamp 10 = .ok (.aload_n 0, 1) := by decide +kernel
theorem dX7_stamp_11 : decode cX7_stamp 11 = .ok (.getfield 244, 3) := by decide +kernel
theorem dX7_stamp_14 : decode cX7_stamp 14 = .ok (.iconst 1, 1) := by decide +kernel
theorem dX7_stamp_15 : decode cX7_stamp 15 = .ok (.isub, 1) := by decide +kernel
theorem dX7_stamp_16 : decode cX7_stamp 16 = .ok (.invokestatic 117, 3) := by decide +kernel
theorem dX7_stamp_19 : decode cX7_stamp 19 = .ok (.ifCond .eq 35, 3) := by decide +kernel
theorem dX7_stamp_22 : decode cX7_stamp 22 = .ok (.iload 4, 2) := by decide +kernel
theorem dX7_stamp_24 : decode cX7_stamp 24 = .ok (.iconst (-1), 1) := by decide +kernel
theorem dX7_stamp_25 : decode cX7_stamp 25 = .ok (.iconst 5, 1) := by decide +kernel
theorem dX7_stamp_26 : decode cX7_stamp 26 = .ok (.invokestatic 117, 3) := by decide +kernel
theorem dX7_stamp_29 : decode cX7_stamp 29 = .ok (.ifCond .eq 25, 3) := by decide +kernel
theorem dX7_stamp_32 : decode cX7_stamp 32 = .ok (.iload 5, 2) := by decide +kernel
theorem dX7_stamp_34 : decode cX7_stamp 34 = .ok (.iload 4, 2) := by decide +kernel
theorem dX7_stamp_36 : decode cX7_stamp 36 = .ok (.iconst 5, 1) := by decide +kernel
theorem dX7_stamp_37 : decode cX7_stamp 37 = .ok (.invokestatic 117, 3) := by decide +kernel
theorem dX7_stamp_40 : decode cX7_stamp 40 = .ok (.ifCond .eq 14, 3) := by decide +kernel
theorem dX7_stamp_43 : decode cX7_stamp 43 = .ok (.aload_n 0, 1) := by decide +kernel
theorem dX7_stamp_44 : decode cX7_stamp 44 = .ok (.iload_n 1, 1) := by decide +kernel
theorem dX7_stamp_45 : decode cX7_stamp 45 = .ok (.iconst 0, 1) := by decide +kernel
theorem dX7_stamp_46 : decode cX7_stamp 46 = .ok (.invokevirtual 262, 3) := by decide +kernel
theorem dX7_stamp_49 : decode cX7_stamp 49 = .ok (.bipush 6, 2) := by decide +kernel
theorem dX7_stamp_51 : decode cX7_stamp 51 = .ok (.if_icmp .ne 5, 3) := by decide +kernel
theorem dX7_stamp_54 : decode cX7_stamp 54 = .ok (.iconst (-1), 1) := by decide +kernel
theorem dX7_stamp_55 : decode cX7_stamp 55 = .ok (.ireturn, 1) := by decide +kernel
theorem dX7_stamp_56 : decode cX7_stamp 56 = .ok (.aload_n 0, 1) := by decide +kernel
theorem dX7_stamp_57 : decode cX7_stamp 57 = .ok (.iload_n 1, 1) := by decide +kernel
theorem dX7_stamp_58 : decode cX7_stamp 58 = .ok (.iconst 0, 1) := by decide +kernel
theorem dX7_stamp_59 : decode cX7_stamp 59 = .ok (.iload_n 2, 1) := by decide +kernel
theorem dX7_stamp_60 : decode cX7_stamp 60 = .ok (.iload 4, 2) := by decide +kernel
theorem dX7_stamp_62 : decode cX7_stamp 62 = .ok (.iload 5, 2) := by decide +kernel
theorem dX7_stamp_64 : decode cX7_stamp 64 = .ok (.iload_n 3, 1) := by decide +kernel
theorem dX7_stamp_65 : decode cX7_stamp 65 = .ok (.ifCond .eq 7, 3) := by decide +kernel
theorem dX7_stamp_68 : decode cX7_stamp 68 = .ok (.iconst 1, 1) := by decide +kernel
theorem dX7_stamp_69 : decode cX7_stamp 69 = .ok (.goto 4, 3) := by decide +kernel
theorem dX7_stamp_72 : decode cX7_stamp 72 = .ok (.iconst 0, 1) := by decide +kernel
theorem dX7_stamp_73 : decode cX7_stamp 73 = .ok (.invokevirtual 266, 3) := by decide +kernel
theorem dX7_stamp_76 : decode cX7_stamp 76 = .ok (.ireturn, 1) := by decide +kernel
theorem dX7_paper_0 : decode cX7_paper 0 = .ok (.aload_n 0, 1) := by decide +kernel
theorem dX7_paper_1 : decode cX7_paper 1 = .ok (.iload_n 1, 1) := by decide +kernel
theorem dX7_paper_2 : decode cX7_paper 2 = .ok (.invokevirtual 256, 3) := by decide +kernel
theorem dX7_paper_5 : decode cX7_paper 5 = .ok (.ifCond .eq 34, 3) := by decide +kernel
theorem dX7_paper_8 : decode cX7_paper 8 = .ok (.aload_n 0, 1) := by decide +kernel
theorem dX7_paper_9 : decode cX7_paper 9 = .ok (.iload_n 2, 1) := by decide +kernel
theorem dX7_paper_10 : decode cX7_paper 10 = .ok (.invokevirtual 259, 3) := by decide +kernel
theorem dX7_paper_13 : decode cX7_paper 13 = .ok (.ifCond .eq 26, 3) := by decide +kernel
theorem dX7_paper_16 : decode cX7_paper 16 = .ok (.iload_n 3, 1) := by decide +kernel
theorem dX7_paper_17 : decode cX7_paper 17 = .ok (.iconst 0, 1) := by decide +kernel
theorem dX7_paper_18 : decode cX7_paper 18 = .ok (.bipush 96, 2) := by decide +kernel
theorem dX7_paper_20 : decode cX7_paper 20 = .ok (.invokestatic 117, 3) := by decide +kernel
theorem dX7_paper_23 : decode cX7_paper 23 = .ok (.ifCond .eq 16, 3) := by decide +kernel
theorem dX7_paper_26 : decode cX7_paper 26 = .ok (.aload_n 0, 1) := by decide +kernel
theorem dX7_paper_27 : decode cX7_paper 27 = .ok (.iload_n 1, 1) := by decide +kernel
theorem dX7_paper_28 : decode cX7_paper 28 = .ok (.iconst 1, 1) := by decide +kernel
theorem dX7_paper_29 : decode cX7_paper 29 = .ok (.iload_n 2, 1) := by decide +kernel
theorem dX7_paper_30 : decode cX7_paper 30 = .ok (.iload_n 3, 1) := by decide +kernel
theorem dX7_paper_31 : decode cX7_paper 31 = .ok (.iload_n 3, 1) := by decide +kernel
theorem dX7_paper_32 : decode cX7_paper 32 = .ok (.iconst 0, 1) := by decide +kernel
theorem dX7_paper_33 : decode cX7_paper 33 = .ok (.invokevirtual 266, 3) := by decide +kernel
theorem dX7_paper_36 : decode cX7_paper 36 = .ok (.goto 4, 3) := by decide +kernel
theorem dX7_paper_39 : decode cX7_paper 39 = .ok (.iconst (-1), 1) := by decide +kernel
theorem dX7_paper_40 : decode cX7_paper 40 = .ok (.ireturn, 1) := by decide +kernel
theorem dX7_look_0 : decode cX7_look 0 = .ok (.aload_n 0, 1) := by decide +kernel
theorem dX7_look_1 : decode cX7_look 1 = .ok (.iload_n 1, 1) := by decide +kernel
theorem dX7_look_2 : decode cX7_look 2 = .ok (.invokevirtual 256, 3) := by decide +kernel
theorem dX7_look_5 : decode cX7_look 5 = .ok (.ifCond .eq 56, 3) := by decide +kernel
theorem dX7_look_8 : decode cX7_look 8 = .ok (.aload_n 0, 1) := by decide +kernel
theorem dX7_look_9 : decode cX7_look 9 = .ok (.iload_n 2, 1) := by decide +kernel
theorem dX7_look_10 : decode cX7_look 10 = .ok (.invokevirtual 259, 3) := by decide +kernel
theorem dX7_look_13 : decode cX7_look 13 = .ok (.ifCond .eq 48, 3) := by decide +kernel
theorem dX7_look_16 : decode cX7_look 16 = .ok (.iload_n 3, 1) := by decide +kernel
theorem dX7_look_17 : decode cX7_look 17 = .ok (.iconst 0, 1) := by decide +kernel
theorem dX7_look_18 : decode cX7_look 18 = .ok (.bipush 96, 2) := by decide +kernel
theorem dX7_look_20 : decode cX7_look 20 = .ok (.invokestatic 117, 3) := by decide +kernel
theorem dX7_look_23 : decode cX7_look 23 = .ok (.ifCond .eq 38, 3) := by decide +kernel
theorem dX7_look_26 : decode cX7_look 26 = .ok (.iload 4, 2) := by decide +kernel
theorem dX7_look_28 : decode cX7_look 28 = .ok (.iload_n 3, 1) := by decide +kernel
theorem dX7_look_29 : decode cX7_look 29 = .ok (.bipush 96, 2) := by decide +kernel
theorem dX7_look_31 : decode cX7_look 31 = .ok (.invokestatic 117, 3) := by decide +kernel
theorem dX7_look_34 : decode cX7_look 34 = .ok (.ifCond .eq 27, 3) := by decide +kernel
theorem dX7_look_37 : decode cX7_look 37 = .ok (.aload_n 0, 1) := by decide +kernel
theorem dX7_look_38 : decode cX7_look 38 = .ok (.iload_n 1, 1) := by decide +kernel
theorem dX7_look_39 : decode cX7_look 39 = .ok (.iconst 2, 1) := by decide +kernel
theorem dX7_look_40 : decode cX7_look 40 = .ok (.invokevirtual 262, 3) := by decide +kernel
theorem dX7_look_43 : decode cX7_look 43 = .ok (.iconst 2, 1) := by decide +kernel
theorem dX7_look_44 : decode cX7_look 44 = .ok (.if_icmp .ge 17, 3) := by decide +kernel
theorem dX7_look_47 : decode cX7_look 47 = .ok (.aload_n 0, 1) := by decide +kernel
theorem dX7_look_48 : decode cX7_look 48 = .ok (.iload_n 1, 1) := by decide +kernel
theorem dX7_look_49 : decode cX7_look 49 = .ok (.iconst 2, 1) := by decide +kernel
theorem dX7_look_50 : decode cX7_look 50 = .ok (.iload_n 2, 1) := by decide +kernel
theorem dX7_look_51 : decode cX7_look 51 = .ok (.iload_n 3, 1) := by decide +kernel
theorem dX7_look_52 : decode cX7_look 52 = .ok (.iload 4, 2) := by decide +kernel
theorem dX7_look_54 : decode cX7_look 54 = .ok (.iconst 0, 1) := by decide +kernel
theorem dX7_look_55 : decode cX7_look 55 = .ok (.invokevirtual 266, 3) := by decide +kernel
theorem dX7_look_58 : decode cX7_look 58 = .ok (.goto 4, 3) := by decide +kernel
theorem dX7_look_61 : decode cX7_look 61 = .ok (.iconst (-1), 1) := by decide +kernel
theorem dX7_look_62 : decode cX7_look 62 = .ok (.ireturn, 1) := by decide +kernel
theorem dX7_doubt_0 : decode cX7_doubt 0 = .ok (.aload_n 0, 1) := by decide +kernel
theorem dX7_doubt_1 : decode cX7_doubt 1 = .ok (.iload_n 1, 1) := by decide +kernel
theorem dX7_doubt_2 : decode cX7_doubt 2 = .ok (.iload_n 2, 1) := by decide +kernel
theorem dX7_doubt_3 : decode cX7_doubt 3 = .ok (.invokevirtual 270, 3) := by decide +kernel
theorem dX7_doubt_6 : decode cX7_doubt 6 = .ok (.ifCond .eq 18, 3) := by decide +kernel
theorem dX7_doubt_9 : decode cX7_doubt 9 = .ok (.aload_n 0, 1) := by decide +kernel
theorem dX7_doubt_10 : decode cX7_doubt 10 = .ok (.getfield 72, 3) := by decide +kernel
theorem dX7_doubt_13 : decode cX7_doubt 13 = .ok (.bipush 8, 2) := by decide +kernel
theorem dX7_doubt_15 : decode cX7_doubt 15 = .ok (.iload_n 1, 1) := by decide +kernel
theorem dX7_doubt_16 : decode cX7_doubt 16 = .ok (.imul, 1) := by decide +kernel
theorem dX7_doubt_17 : decode cX7_doubt 17 = .ok (.iload_n 2, 1) := by decide +kernel
theorem dX7_doubt_18 : decode cX7_doubt 18 = .ok (.iadd, 1) := by decide +kernel
theorem dX7_doubt_19 : decode cX7_doubt 19 = .ok (.baload, 1) := by decide +kernel
theorem dX7_doubt_20 : decode cX7_doubt 20 = .ok (.iload_n 3, 1) := by decide +kernel
theorem dX7_doubt_21 : decode cX7_doubt 21 = .ok (.if_icmp .ne 5, 3) := by decide +kernel
theorem dX7_doubt_24 : decode cX7_doubt 24 = .ok (.iconst 0, 1) := by decide +kernel
theorem dX7_doubt_25 : decode cX7_doubt 25 = .ok (.ireturn, 1) := by decide +kernel
theorem dX7_doubt_26 : decode cX7_doubt 26 = .ok (.aload_n 0, 1) := by decide +kernel
theorem dX7_doubt_27 : decode cX7_doubt 27 = .ok (.getfield 72, 3) := by decide +kernel
theorem dX7_doubt_30 : decode cX7_doubt 30 = .ok (.bipush 8, 2) := by decide +kernel
theorem dX7_doubt_32 : decode cX7_doubt 32 = .ok (.iload_n 1, 1) := by decide +kernel
theorem dX7_doubt_33 : decode cX7_doubt 33 = .ok (.imul, 1) := by decide +kernel
theorem dX7_doubt_34 : decode cX7_doubt 34 = .ok (.iload_n 2, 1) := by decide +kernel
theorem dX7_doubt_35 : decode cX7_doubt 35 = .ok (.iadd, 1) := by decide +kernel
theorem dX7_doubt_36 : decode cX7_doubt 36 = .ok (.iload_n 3, 1) := by decide +kernel
theorem dX7_doubt_37 : decode cX7_doubt 37 = .ok (.bastore, 1) := by decide +kernel
theorem dX7_doubt_38 : decode cX7_doubt 38 = .ok (.iconst 1, 1) := by decide +kernel
theorem dX7_doubt_39 : decode cX7_doubt 39 = .ok (.ireturn, 1) := by decide +kernel
theorem dX7_undo_0 : decode cX7_undo 0 = .ok (.aload_n 0, 1) := by decide +kernel
theorem dX7_undo_1 : decode cX7_undo 1 = .ok (.iload_n 1, 1) := by decide +kernel
theorem dX7_undo_2 : decode cX7_undo 2 = .ok (.invokevirtual 256, 3) := by decide +kernel
theorem dX7_undo_5 : decode cX7_undo 5 = .ok (.ifCond .eq 12, 3) := by decide +kernel
theorem dX7_undo_8 : decode cX7_undo 8 = .ok (.aload_n 0, 1) := by decide +kernel
theorem dX7_undo_9 : decode cX7_undo 9 = .ok (.getfield 54, 3) := by decide +kernel
theorem dX7_undo_12 : decode cX7_undo 12 = .ok (.iload_n 1, 1) := by decide +kernel
theorem dX7_undo_13 : decode cX7_undo 13 = .ok (.iaload, 1) := by decide +kernel
theorem dX7_undo_14 : decode cX7_undo 14 = .ok (.ifCond .ne 5, 3) := by decide +kernel
theorem dX7_undo_17 : decode cX7_undo 17 = .ok (.iconst (-1), 1) := by decide +kernel
theorem dX7_undo_18 : decode cX7_undo 18 = .ok (.ireturn, 1) := by decide +kernel
theorem dX7_undo_19 : decode cX7_undo 19 = .ok (.aload_n 0, 1) := by decide +kernel
theorem dX7_undo_20 : decode cX7_undo 20 = .ok (.getfield 54, 3) := by decide +kernel
theorem dX7_undo_23 : decode cX7_undo 23 = .ok (.iload_n 1, 1) := by decide +kernel
theorem dX7_undo_24 : decode cX7_undo 24 = .ok (.dup2, 1) := by decide +kernel
theorem dX7_undo_25 : decode cX7_undo 25 = .ok (.iaload, 1) := by decide +kernel
theorem dX7_undo_26 : decode cX7_undo 26 = .ok (.iconst 1, 1) := by decide +kernel
theorem dX7_undo_27 : decode cX7_undo 27 = .ok (.isub, 1) := by decide +kernel
theorem dX7_undo_28 : decode cX7_undo 28 = .ok (.iastore, 1) := by decide +kernel
theorem dX7_undo_29 : decode cX7_undo 29 = .ok (.aload_n 0, 1) := by decide +kernel
theorem dX7_undo_30 : decode cX7_undo 30 = .ok (.getfield 54, 3) := by decide +kernel
theorem dX7_undo_33 : decode cX7_undo 33 = .ok (.iload_n 1, 1) := by decide +kernel
theorem dX7_undo_34 : decode cX7_undo 34 = .ok (.iaload, 1) := by decide +kernel
theorem dX7_undo_35 : decode cX7_undo 35 = .ok (.ireturn, 1) := by decide +kernel
theorem dX7_link_0 : decode cX7_link 0 = .ok (.aload_n 0, 1) := by decide +kernel
theorem dX7_link_1 : decode cX7_link 1 = .ok (.iload_n 1, 1) := by decide +kernel
theorem dX7_link_2 : decode cX7_link 2 = .ok (.invokevirtual 273, 3) := by decide +kernel
theorem dX7_link_5 : decode cX7_link 5 = .ok (.ifCond .eq 21, 3) := by decide +kernel
theorem dX7_link_8 : decode cX7_link 8 = .ok (.iload_n 2, 1) := by decide +kernel
theorem dX7_link_9 : decode cX7_link 9 = .ok (.iconst 0, 1) := by decide +kernel
theorem dX7_link_10 : decode cX7_link 10 = .ok (.iconst 5, 1) := by decide +kernel
theorem dX7_link_11 : decode cX7_link 11 = .ok (.invokestatic 117, 3) := by decide +kernel
theorem dX7_link_14 : decode cX7_link 14 = .ok (.ifCond .eq 12, 3) := by decide +kernel
theorem dX7_link_17 : decode cX7_link 17 = .ok (.aload_n 0, 1) := by decide +kernel
theorem dX7_link_18 : decode cX7_link 18 = .ok (.iload_n 1, 1) := by decide +kernel
theorem dX7_link_19 : decode cX7_link 19 = .ok (.iload_n 2, 1) := by decide +kernel
theorem dX7_link_20 : decode cX7_link 20 = .ok (.invokevirtual 276, 3) := by decide +kernel
theorem dX7_link_23 : decode cX7_link 23 = .ok (.goto 4, 3) := by decide +kernel
theorem dX7_link_26 : decode cX7_link 26 = .ok (.iconst (-1), 1) := by decide +kernel
theorem dX7_link_27 : decode cX7_link 27 = .ok (.ireturn, 1) := by decide +kernel
theorem dX7_town_0 : decode cX7_town 0 = .ok (.aload_n 0, 1) := by decide +kernel
theorem dX7_town_1 : decode cX7_town 1 = .ok (.iload_n 1, 1) := by decide +kernel
theorem dX7_town_2 : decode cX7_town 2 = .ok (.invokevirtual 259, 3) := by decide +kernel
theorem dX7_town_5 : decode cX7_town 5 = .ok (.ifCond .eq 12, 3) := by decide +kernel
theorem dX7_town_8 : decode cX7_town 8 = .ok (.iload_n 2, 1) := by decide +kernel
theorem dX7_town_9 : decode cX7_town 9 = .ok (.iconst 0, 1) := by decide +kernel
theorem dX7_town_10 : decode cX7_town 10 = .ok (.iconst 1, 1) := by decide +kernel
theorem dX7_town_11 : decode cX7_town 11 = .ok (.invokestatic 117, 3) := by decide +kernel
theorem dX7_town_14 : decode cX7_town 14 = .ok (.ifCond .ne 8, 3) := by decide +kernel
theorem dX7_town_17 : decode cX7_town 17 = .ok (.bipush (-99), 2) := by decide +kernel
theorem dX7_town_19 : decode cX7_town 19 = .ok (.goto 22, 3) := by decide +kernel
theorem dX7_town_22 : decode cX7_town 22 = .ok (.iload_n 2, 1) := by decide +kernel
theorem dX7_town_23 : decode cX7_town 23 = .ok (.ifCond .ne 12, 3) := by decide +kernel
theorem dX7_town_26 : decode cX7_town 26 = .ok (.aload_n 0, 1) := by decide +kernel
theorem dX7_town_27 : decode cX7_town 27 = .ok (.getfield 36, 3) := by decide +kernel
theorem dX7_town_30 : decode cX7_town 30 = .ok (.iload_n 1, 1) := by decide +kernel
theorem dX7_town_31 : decode cX7_town 31 = .ok (.iaload, 1) := by decide +kernel
theorem dX7_town_32 : decode cX7_town 32 = .ok (.goto 9, 3) := by decide +kernel
theorem dX7_town_35 : decode cX7_town 35 = .ok (.aload_n 0, 1) := by decide +kernel
theorem dX7_town_36 : decode cX7_town 36 = .ok (.getfield 39, 3) := by decide +kernel
theorem dX7_town_39 : decode cX7_town 39 = .ok (.iload_n 1, 1) := by decide +kernel
theorem dX7_town_40 : decode cX7_town 40 = .ok (.iaload, 1) := by decide +kernel
theorem dX7_town_41 : decode cX7_town 41 = .ok (.ireturn, 1) := by decide +kernel
theorem dX7_trace_0 : decode cX7_trace 0 = .ok (.aload_n 0, 1) := by decide +kernel
theorem dX7_trace_1 : decode cX7_trace 1 = .ok (.iload_n 1, 1) := by decide +kernel
theorem dX7_trace_2 : decode cX7_trace 2 = .ok (.iload_n 2, 1) := by decide +kernel
theorem dX7_trace_3 : decode cX7_trace 3 = .ok (.invokevirtual 270, 3) := by decide +kernel
theorem dX7_trace_6 : decode cX7_trace 6 = .ok (.ifCond .ne 6, 3) := by decide +kernel
theorem dX7_trace_9 : decode cX7_trace 9 = .ok (.bipush (-99), 2) := by decide +kernel
theorem dX7_trace_11 : decode cX7_trace 11 = .ok (.ireturn, 1) := by decide +kernel
theorem dX7_trace_12 : decode cX7_trace 12 = .ok (.bipush 8, 2) := by decide +kernel
theorem dX7_trace_14 : decode cX7_trace 14 = .ok (.iload_n 1, 1) := by decide +kernel
theorem dX7_trace_15 : decode cX7_trace 15 = .ok (.imul, 1) := by decide +kernel
theorem dX7_trace_16 : decode cX7_trace 16 = .ok (.iload_n 2, 1) := by decide +kernel
theorem dX7_trace_17 : decode cX7_trace 17 = .ok (.iadd, 1) := by decide +kernel
theorem dX7_trace_18 : decode cX7_trace 18 = .ok (.istore 4, 2) := by decide +kernel
theorem dX7_trace_20 : decode cX7_trace 20 = .ok (.iload_n 3, 1) := by decide +kernel
theorem dX7_trace_21 : decode cX7_trace 21 = .ok (.tableswitch 95 0 5 #[39, 47, 55, 63, 71, 79], 39) := by decide +kernel
theorem dX7_trace_60 : decode cX7_trace 60 = .ok (.aload_n 0, 1) := by decide +kernel
theorem dX7_trace_61 : decode cX7_trace 61 = .ok (.getfield 57, 3) := by decide +kernel
theorem dX7_trace_64 : decode cX7_trace 64 = .ok (.iload 4, 2) := by decide +kernel
theorem dX7_trace_66 : decode cX7_trace 66 = .ok (.iaload, 1) := by decide +kernel
theorem dX7_trace_67 : decode cX7_trace 67 = .ok (.ireturn, 1) := by decide +kernel
theorem dX7_trace_68 : decode cX7_trace 68 = .ok (.aload_n 0, 1) := by decide +kernel
theorem dX7_trace_69 : decode cX7_trace 69 = .ok (.getfield 60, 3) := by decide +kernel
theorem dX7_trace_72 : decode cX7_trace 72 = .ok (.iload 4, 2) := by decide +kernel
theorem dX7_trace_74 : decode cX7_trace 74 = .ok (.iaload, 1) := by decide +kernel
theorem dX7_trace_75 : decode cX7_trace 75 = .ok (.ireturn, 1) := by decide +kernel
theorem dX7_trace_76 : decode cX7_trace 76 = .ok (.aload_n 0, 1) := by decide +kernel
theorem dX7_trace_77 : decode cX7_trace 77 = .ok (.getfield 63, 3) := by decide +kernel
theorem dX7_trace_80 : decode cX7_trace 80 = .ok (.iload 4, 2) := by decide +kernel
theorem dX7_trace_82 : decode cX7_trace 82 = .ok (.iaload, 1) := by decide +kernel
theorem dX7_trace_83 : decode cX7_trace 83 = .ok (.ireturn, 1) := by decide +kernel
theorem dX7_trace_84 : decode cX7_trace 84 = .ok (.aload_n 0, 1) := by decide +kernel
theorem dX7_trace_85 : decode cX7_trace 85 = .ok (.getfield 66, 3) := by decide +kernel
theorem dX7_trace_88 : decode cX7_trace 88 = .ok (.iload 4, 2) := by decide +kernel
theorem dX7_trace_90 : decode cX7_trace 90 = .ok (.iaload, 1) := by decide +kernel
theorem dX7_trace_91 : decode cX7_trace 91 = .ok (.ireturn, 1) := by decide +kernel
theorem dX7_trace_92 : decode cX7_trace 92 = .ok (.aload_n 0, 1) := by decide +kernel
theorem dX7_trace_93 : decode cX7_trace 93 = .ok (.getfield 69, 3) := by decide +kernel
theorem dX7_trace_96 : decode cX7_trace 96 = .ok (.iload 4, 2) := by decide +kernel
theorem dX7_trace_98 : decode cX7_trace 98 = .ok (.iaload, 1) := by decide +kernel
theorem dX7_trace_99 : decode cX7_trace 99 = .ok (.ireturn, 1) := by decide +kernel
theorem dX7_trace_100 : decode cX7_trace 100 = .ok (.aload_n 0, 1) := by decide +kernel
theorem dX7_trace_101 : decode cX7_trace 101 = .ok (.getfield 72, 3) := by decide +kernel
theorem dX7_trace_104 : decode cX7_trace 104 = .ok (.iload 4, 2) := by decide +kernel
theorem dX7_trace_106 : decode cX7_trace 106 = .ok (.baload, 1) := by decide +kernel
theorem dX7_trace_107 : decode cX7_trace 107 = .ok (.ifCond .eq 7, 3) := by decide +kernel
theorem dX7_trace_110 : decode cX7_trace 110 = .ok (.iconst 1, 1) := by decide +kernel
theorem dX7_trace_111 : decode cX7_trace 111 = .ok (.goto 4, 3) := by decide +kernel
theorem dX7_trace_114 : decode cX7_trace 114 = .ok (.iconst 0, 1) := by decide +kernel
theorem dX7_trace_115 : decode cX7_trace 115 = .ok (.ireturn, 1) := by decide +kernel
theorem dX7_trace_116 : decode cX7_trace 116 = .ok (.bipush (-99), 2) := by decide +kernel
theorem dX7_trace_118 : decode cX7_trace 118 = .ok (.ireturn, 1) := by decide +kernel
theorem dX7_sets_0 : decode cX7_sets 0 = .ok (.aload_n 0, 1) := by decide +kernel
theorem dX7_sets_1 : decode cX7_sets 1 = .ok (.iload_n 1, 1) := by decide +kernel
theorem dX7_sets_2 : decode cX7_sets 2 = .ok (.putfield 279, 3) := by decide +kernel
theorem dX7_sets_5 : decode cX7_sets 5 = .ok (.aload_n 0, 1) := by decide +kernel
theorem dX7_sets_6 : decode cX7_sets 6 = .ok (.iconst 0, 1) := by decide +kernel
theorem dX7_sets_7 : decode cX7_sets 7 = .ok (.putfield 282, 3) := by decide +kernel
theorem dX7_sets_10 : decode cX7_sets 10 = .ok (.aload_n 0, 1) := by decide +kernel
theorem dX7_sets_11 : decode cX7_sets 11 = .ok (.iconst 0, 1) := by decide +kernel
theorem dX7_sets_12 : decode cX7_sets 12 = .ok (.putfield 285, 3) := by decide +kernel
theorem dX7_sets_15 : decode cX7_sets 15 = .ok (.iconst 0, 1) := by decide +kernel
theorem dX7_sets_16 : decode cX7_sets 16 = .ok (.istore_n 3, 1) := by decide +kernel
theorem dX7_sets_17 : decode cX7_sets 17 = .ok (.iload_n 3, 1) := by decide +kernel
theorem dX7_sets_18 : decode cX7_sets 18 = .ok (.bipush 96, 2) := by decide +kernel
theorem dX7_sets_20 : decode cX7_sets 20 = .ok (.if_icmp .gt 16, 3) := by decide +kernel
theorem dX7_sets_23 : decode cX7_sets 23 = .ok (.aload_n 0, 1) := by decide +kernel
theorem dX7_sets_24 : decode cX7_sets 24 = .ok (.getfield 85, 3) := by decide +kernel
theorem dX7_sets_27 : decode cX7_sets 27 = .ok (.iload_n 3, 1) := by decide +kernel
theorem dX7_sets_28 : decode cX7_sets 28 = .ok (.iconst (-1), 1) := by decide +kernel
theorem dX7_sets_29 : decode cX7_sets 29 = .ok (.iastore, 1) := by decide +kernel
theorem dX7_sets_30 : decode cX7_sets 30 = .ok (.iinc 3 1, 3) := by decide +kernel
theorem dX7_sets_33 : decode cX7_sets 33 = .ok (.goto (-16), 3) := by decide +kernel
theorem dX7_sets_36 : decode cX7_sets 36 = .ok (.iconst 0, 1) := by decide +kernel
theorem dX7_sets_37 : decode cX7_sets 37 = .ok (.istore_n 3, 1) := by decide +kernel
theorem dX7_sets_38 : decode cX7_sets 38 = .ok (.iload_n 3, 1) := by decide +kernel
theorem dX7_sets_39 : decode cX7_sets 39 = .ok (.aload_n 0, 1) := by decide +kernel
theorem dX7_sets_40 : decode cX7_sets 40 = .ok (.getfield 54, 3) := by decide +kernel
theorem dX7_sets_43 : decode cX7_sets 43 = .ok (.iload_n 1, 1) := by decide +kernel
theorem dX7_sets_44 : decode cX7_sets 44 = .ok (.iaload, 1) := by decide +kernel
theorem dX7_sets_45 : decode cX7_sets 45 = .ok (.if_icmp .ge 223, 3) := by decide +kernel
theorem dX7_sets_48 : decode cX7_sets 48 = .ok (.bipush 8, 2) := by decide +kernel
theorem dX7_sets_50 : decode cX7_sets 50 = .ok (.iload_n 1, 1) := by decide +kernel
theorem dX7_sets_51 : decode cX7_sets 51 = .ok (.imul, 1) := by decide +kernel
theorem dX7_sets_52 : decode cX7_sets 52 = .ok (.iload_n 3, 1) := by decide +kernel
theorem dX7_sets_53 : decode cX7_sets 53 = .ok (.iadd, 1) := by decide +kernel
theorem dX7_sets_54 : decode cX7_sets 54 = .ok (.istore 4, 2) := by decide +kernel
theorem dX7_sets_56 : decode cX7_sets 56 = .ok (.aload_n 0, 1) := by decide +kernel
theorem dX7_sets_57 : decode cX7_sets 57 = .ok (.getfield 72, 3) := by decide +kernel
theorem dX7_sets_60 : decode cX7_sets 60 = .ok (.iload 4, 2) := by decide +kernel
theorem dX7_sets_62 : decode cX7_sets 62 = .ok (.baload, 1) := by decide +kernel
theorem dX7_sets_63 : decode cX7_sets 63 = .ok (.ifCond .ne 199, 3) := by decide +kernel
theorem dX7_sets_66 : decode cX7_sets 66 = .ok (.iload_n 2, 1) := by decide +kernel
theorem dX7_sets_67 : decode cX7_sets 67 = .ok (.iload_n 3, 1) := by decide +kernel
theorem dX7_sets_68 : decode cX7_sets 68 = .ok (.ishr, 1) := by decide +kernel
theorem dX7_sets_69 : decode cX7_sets 69 = .ok (.iconst 1, 1) := by decide +kernel
theorem dX7_sets_70 : decode cX7_sets 70 = .ok (.iand, 1) := by decide +kernel
theorem dX7_sets_71 : decode cX7_sets 71 = .ok (.iconst 1, 1) := by decide +kernel
theorem dX7_sets_72 : decode cX7_sets 72 = .ok (.if_icmp .ne 6, 3) := by decide +kernel
theorem dX7_sets_75 : decode cX7_sets 75 = .ok (.goto 187, 3) := by decide +kernel
theorem dX7_sets_78 : decode cX7_sets 78 = .ok (.aload_n 0, 1) := by decide +kernel
theorem dX7_sets_79 : decode cX7_sets 79 = .ok (.getfield 57, 3) := by decide +kernel
theorem dX7_sets_82 : decode cX7_sets 82 = .ok (.iload 4, 2) := by decide +kernel
theorem dX7_sets_84 : decode cX7_sets 84 = .ok (.iaload, 1) := by decide +kernel
theorem dX7_sets_85 : decode cX7_sets 85 = .ok (.ifCond .ne 27, 3) := by decide +kernel
theorem dX7_sets_88 : decode cX7_sets 88 = .ok (.aload_n 0, 1) := by decide +kernel
theorem dX7_sets_89 : decode cX7_sets 89 = .ok (.getfield 82, 3) := by decide +kernel
theorem dX7_sets_92 : decode cX7_sets 92 = .ok (.aload_n 0, 1) := by decide +kernel
theorem dX7_sets_93 : decode cX7_sets 93 = .ok (.getfield 282, 3) := by decide +kernel
theorem dX7_sets_96 : decode cX7_sets 96 = .ok (.iload 4, 2) := by decide +kernel
theorem dX7_sets_98 : decode cX7_sets 98 = .ok (.iastore, 1) := by decide +kernel
theorem dX7_sets_99 : decode cX7_sets 99 = .ok (.aload_n 0, 1) := by decide +kernel
theorem dX7_sets_100 : decode cX7_sets 100 = .ok (.dup, 1) := by decide +kernel
theorem dX7_sets_101 : decode cX7_sets 101 = .ok (.getfield 282, 3) := by decide +kernel
theorem dX7_sets_104 : decode cX7_sets 104 = .ok (.iconst 1, 1) := by decide +kernel
theorem dX7_sets_105 : decode cX7_sets 105 = .ok (.iadd, 1) := by decide +kernel
theorem dX7_sets_106 : decode cX7_sets 106 = .ok (.putfield 282, 3) := by decide +kernel
theorem dX7_sets_109 : decode cX7_sets 109 = .ok (.goto 153, 3) := by decide +kernel
theorem dX7_sets_112 : decode cX7_sets 112 = .ok (.aload_n 0, 1) := by decide +kernel
theorem dX7_sets_113 : decode cX7_sets 113 = .ok (.getfield 57, 3) := by decide +kernel
theorem dX7_sets_116 : decode cX7_sets 116 = .ok (.iload 4, 2) := by decide +kernel
theorem dX7_sets_118 : decode cX7_sets 118 = .ok (.iaload, 1) := by decide +kernel
theorem dX7_sets_119 : decode cX7_sets 119 = .ok (.iconst 2, 1) := by decide +kernel
theorem dX7_sets_120 : decode cX7_sets 120 = .ok (.if_icmp .ne 64, 3) := by decide +kernel
theorem dX7_sets_123 : decode cX7_sets 123 = .ok (.aload_n 0, 1) := by decide +kernel
theorem dX7_sets_124 : decode cX7_sets 124 = .ok (.getfield 88, 3) := by decide +kernel
theorem dX7_sets_127 : decode cX7_sets 127 = .ok (.aload_n 0, 1) := by decide +kernel
theorem dX7_sets_128 : decode cX7_sets 128 = .ok (.getfield 285, 3) := by decide +kernel
theorem dX7_sets_131 : decode cX7_sets 131 = .ok (.aload_n 0, 1) := by decide +kernel
theorem dX7_sets_132 : decode cX7_sets 132 = .ok (.getfield 60, 3) := by decide +kernel
theorem dX7_sets_135 : decode cX7_sets 135 = .ok (.iload 4, 2) := by decide +kernel
theorem dX7_sets_137 : decode cX7_sets 137 = .ok (.iaload, 1) := by decide +kernel
theorem dX7_sets_138 : decode cX7_sets 138 = .ok (.iastore, 1) := by decide +kernel
theorem dX7_sets_139 : decode cX7_sets 139 = .ok (.aload_n 0, 1) := by decide +kernel
theorem dX7_sets_140 : decode cX7_sets 140 = .ok (.getfield 91, 3) := by decide +kernel
theorem dX7_sets_143 : decode cX7_sets 143 = .ok (.aload_n 0, 1) := by decide +kernel
theorem dX7_sets_144 : decode cX7_sets 144 = .ok (.getfield 285, 3) := by decide +kernel
theorem dX7_sets_147 : decode cX7_sets 147 = .ok (.aload_n 0, 1) := by decide +kernel
theorem dX7_sets_148 : decode cX7_sets 148 = .ok (.getfield 63, 3) := by decide +kernel
theorem dX7_sets_151 : decode cX7_sets 151 = .ok (.iload 4, 2) := by decide +kernel
theorem dX7_sets_153 : decode cX7_sets 153 = .ok (.iaload, 1) := by decide +kernel
theorem dX7_sets_154 : decode cX7_sets 154 = .ok (.iastore, 1) := by decide +kernel
theorem dX7_sets_155 : decode cX7_sets 155 = .ok (.aload_n 0, 1) := by decide +kernel
theorem dX7_sets_156 : decode cX7_sets 156 = .ok (.getfield 94, 3) := by decide +kernel
theorem dX7_sets_159 : decode cX7_sets 159 = .ok (.aload_n 0, 1) := by decide +kernel
theorem dX7_sets_160 : decode cX7_sets 160 = .ok (.getfield 285, 3) := by decide +kernel
theorem dX7_sets_163 : decode cX7_sets 163 = .ok (.aload_n 0, 1) := by decide +kernel
theorem dX7_sets_164 : decode cX7_sets 164 = .ok (.getfield 66, 3) := by decide +kernel
theorem dX7_sets_167 : decode cX7_sets 167 = .ok (.iload 4, 2) := by decide +kernel
theorem dX7_sets_169 : decode cX7_sets 169 = .ok (.iaload, 1) := by decide +kernel
theorem dX7_sets_170 : decode cX7_sets 170 = .ok (.iastore, 1) := by decide +kernel
theorem dX7_sets_171 : decode cX7_sets 171 = .ok (.aload_n 0, 1) := by decide +kernel
theorem dX7_sets_172 : decode cX7_sets 172 = .ok (.dup, 1) := by decide +kernel
theorem dX7_sets_173 : decode cX7_sets 173 = .ok (.getfield 285, 3) := by decide +kernel
theorem dX7_sets_176 : decode cX7_sets 176 = .ok (.iconst 1, 1) := by decide +kernel
theorem dX7_sets_177 : decode cX7_sets 177 = .ok (.iadd, 1) := by decide +kernel
theorem dX7_sets_178 : decode cX7_sets 178 = .ok (.putfield 285, 3) := by decide +kernel
theorem dX7_sets_181 : decode cX7_sets 181 = .ok (.goto 81, 3) := by decide +kernel
theorem dX7_sets_184 : decode cX7_sets 184 = .ok (.aload_n 0, 1) := by decide +kernel
theorem dX7_sets_185 : decode cX7_sets 185 = .ok (.getfield 63, 3) := by decide +kernel
theorem dX7_sets_188 : decode cX7_sets 188 = .ok (.iload 4, 2) := by decide +kernel
theorem dX7_sets_190 : decode cX7_sets 190 = .ok (.iaload, 1) := by decide +kernel
theorem dX7_sets_191 : decode cX7_sets 191 = .ok (.aload_n 0, 1) := by decide +kernel
theorem dX7_sets_192 : decode cX7_sets 192 = .ok (.getfield 51, 3) := by decide +kernel
theorem dX7_sets_195 : decode cX7_sets 195 = .ok (.iload_n 1, 1) := by decide +kernel
theorem dX7_sets_196 : decode cX7_sets 196 = .ok (.iaload, 1) := by decide +kernel
theorem dX7_sets_197 : decode cX7_sets 197 = .ok (.if_icmp .gt 65, 3) := by decide +kernel
theorem dX7_sets_200 : decode cX7_sets 200 = .ok (.aload_n 0, 1) := by decide +kernel
theorem dX7_sets_201 : decode cX7_sets 201 = .ok (.getfield 85, 3) := by decide +kernel
theorem dX7_sets_204 : decode cX7_sets 204 = .ok (.aload_n 0, 1) := by decide +kernel
theorem dX7_sets_205 : decode cX7_sets 205 = .ok (.getfield 63, 3) := by decide +kernel
theorem dX7_sets_208 : decode cX7_sets 208 = .ok (.iload 4, 2) := by decide +kernel
theorem dX7_sets_210 : decode cX7_sets 210 = .ok (.iaload, 1) := by decide +kernel
theorem dX7_sets_211 : decode cX7_sets 211 = .ok (.aload_n 0, 1) := by decide +kernel
theorem dX7_sets_212 : decode cX7_sets 212 = .ok (.getfield 85, 3) := by decide +kernel
theorem dX7_sets_215 : decode cX7_sets 215 = .ok (.aload_n 0, 1) := by decide +kernel
theorem dX7_sets_216 : decode cX7_sets 216 = .ok (.getfield 63, 3) := by decide +kernel
theorem dX7_sets_219 : decode cX7_sets 219 = .ok (.iload 4, 2) := by decide +kernel
theorem dX7_sets_221 : decode cX7_sets 221 = .ok (.iaload, 1) := by decide +kernel
theorem dX7_sets_222 : decode cX7_sets 222 = .ok (.iaload, 1) := by decide +kernel
theorem dX7_sets_223 : decode cX7_sets 223 = .ok (.iconst (-1), 1) := by decide +kernel
theorem dX7_sets_224 : decode cX7_sets 224 = .ok (.if_icmp .eq 25, 3) := by decide +kernel
theorem dX7_sets_227 : decode cX7_sets 227 = .ok (.aload_n 0, 1) := by decide +kernel
theorem dX7_sets_228 : decode cX7_sets 228 = .ok (.getfield 85, 3) := by decide +kernel
theorem dX7_sets_231 : decode cX7_sets 231 = .ok (.aload_n 0, 1) := by decide +kernel
theorem dX7_sets_232 : decode cX7_sets 232 = .ok (.getfield 63, 3) := by decide +kernel
theorem dX7_sets_235 : decode cX7_sets 235 = .ok (.iload 4, 2) := by decide +kernel
theorem dX7_sets_237 : decode cX7_sets 237 = .ok (.iaload, 1) := by decide +kernel
theorem dX7_sets_238 : decode cX7_sets 238 = .ok (.iaload, 1) := by decide +kernel
theorem dX7_sets_239 : decode cX7_sets 239 = .ok (.aload_n 0, 1) := by decide +kernel
theorem dX7_sets_240 : decode cX7_sets 240 = .ok (.getfield 60, 3) := by decide +kernel
theorem dX7_sets_243 : decode cX7_sets 243 = .ok (.iload 4, 2) := by decide +kernel
theorem dX7_sets_245 : decode cX7_sets 245 = .ok (.iaload, 1) := by decide +kernel
theorem dX7_sets_246 : decode cX7_sets 246 = .ok (.if_icmp .ne 13, 3) := by decide +kernel
theorem dX7_sets_249 : decode cX7_sets 249 = .ok (.aload_n 0, 1) := by decide +kernel
theorem dX7_sets_250 : decode cX7_sets 250 = .ok (.getfield 60, 3) := by decide +kernel
theorem dX7_sets_253 : decode cX7_sets 253 = .ok (.iload 4, 2) := by decide +kernel
theorem dX7_sets_255 : decode cX7_sets 255 = .ok (.iaload, 1) := by decide +kernel
theorem dX7_sets_256 : decode cX7_sets 256 = .ok (.goto 5, 3) := by decide +kernel
theorem dX7_sets_259 : decode cX7_sets 259 = .ok (.bipush 8, 2) := by decide +kernel
theorem dX7_sets_261 : decode cX7_sets 261 = .ok (.iastore, 1) := by decide +kernel
theorem dX7_sets_262 : decode cX7_sets 262 = .ok (.iinc 3 1, 3) := by decide +kernel
theorem dX7_sets_265 : decode cX7_sets 265 = .ok (.goto (-227), 3) := by decide +kernel
theorem dX7_sets_268 : decode cX7_sets 268 = .ok (.return_, 1) := by decide +kernel
theorem dX7_stateOf_0 : decode cX7_stateOf 0 = .ok (.iload_n 0, 1) := by decide +kernel
theorem dX7_stateOf_1 : decode cX7_stateOf 1 = .ok (.bipush 7, 2) := by decide +kernel
theorem dX7_stateOf_3 : decode cX7_stateOf 3 = .ok (.imul, 1) := by decide +kernel
theorem dX7_stateOf_4 : decode cX7_stateOf 4 = .ok (.iload_n 1, 1) := by decide +kernel
theorem dX7_stateOf_5 : decode cX7_stateOf 5 = .ok (.iadd, 1) := by decide +kernel
theorem dX7_stateOf_6 : decode cX7_stateOf 6 = .ok (.iconst 4, 1) := by decide +kernel
theorem dX7_stateOf_7 : decode cX7_stateOf 7 = .ok (.imul, 1) := by decide +kernel
theorem dX7_stateOf_8 : decode cX7_stateOf 8 = .ok (.iload_n 2, 1) := by decide +kernel
theorem dX7_stateOf_9 : decode cX7_stateOf 9 = .ok (.iadd, 1) := by decide +kernel
theorem dX7_stateOf_10 : decode cX7_stateOf 10 = .ok (.iconst 5, 1) := by decide +kernel
theorem dX7_stateOf_11 : decode cX7_stateOf 11 = .ok (.imul, 1) := by decide +kernel
theorem dX7_stateOf_12 : decode cX7_stateOf 12 = .ok (.iload_n 3, 1) := by decide +kernel
theorem dX7_stateOf_13 : decode cX7_stateOf 13 = .ok (.iadd, 1) := by decide +kernel
theorem dX7_stateOf_14 : decode cX7_stateOf 14 = .ok (.ireturn, 1) := by decide +kernel
theorem dX7_comesTo_0 : decode cX7_comesTo 0 = .ok (.aload_n 0, 1) := by decide +kernel
theorem dX7_comesTo_1 : decode cX7_comesTo 1 = .ok (.getfield 85, 3) := by decide +kernel
theorem dX7_comesTo_4 : decode cX7_comesTo 4 = .ok (.iload_n 1, 1) := by decide +kernel
theorem dX7_comesTo_5 : decode cX7_comesTo 5 = .ok (.iaload, 1) := by decide +kernel
theorem dX7_comesTo_6 : decode cX7_comesTo 6 = .ok (.iconst (-1), 1) := by decide +kernel
theorem dX7_comesTo_7 : decode cX7_comesTo 7 = .ok (.if_icmp .eq 15, 3) := by decide +kernel
theorem dX7_comesTo_10 : decode cX7_comesTo 10 = .ok (.aload_n 0, 1) := by decide +kernel
theorem dX7_comesTo_11 : decode cX7_comesTo 11 = .ok (.getfield 85, 3) := by decide +kernel
theorem dX7_comesTo_14 : decode cX7_comesTo 14 = .ok (.iload_n 1, 1) := by decide +kernel
theorem dX7_comesTo_15 : decode cX7_comesTo 15 = .ok (.iaload, 1) := by decide +kernel
theorem dX7_comesTo_16 : decode cX7_comesTo 16 = .ok (.iload_n 2, 1) := by decide +kernel
theorem dX7_comesTo_17 : decode cX7_comesTo 17 = .ok (.if_icmp .eq 5, 3) := by decide +kernel
theorem dX7_comesTo_20 : decode cX7_comesTo 20 = .ok (.iconst (-1), 1) := by decide +kernel
theorem dX7_comesTo_21 : decode cX7_comesTo 21 = .ok (.ireturn, 1) := by decide +kernel
theorem dX7_comesTo_22 : decode cX7_comesTo 22 = .ok (.iload 4, 2) := by decide +kernel
theorem dX7_comesTo_24 : decode cX7_comesTo 24 = .ok (.istore 6, 2) := by decide +kernel
theorem dX7_comesTo_26 : decode cX7_comesTo 26 = .ok (.iconst 0, 1) := by decide +kernel
theorem dX7_comesTo_27 : decode cX7_comesTo 27 = .ok (.istore 7, 2) := by decide +kernel
theorem dX7_comesTo_29 : decode cX7_comesTo 29 = .ok (.iload 7, 2) := by decide +kernel
theorem dX7_comesTo_31 : decode cX7_comesTo 31 = .ok (.aload_n 0, 1) := by decide +kernel
theorem dX7_comesTo_32 : decode cX7_comesTo 32 = .ok (.getfield 285, 3) := by decide +kernel
theorem dX7_comesTo_35 : decode cX7_comesTo 35 = .ok (.if_icmp .ge 50, 3) := by decide +kernel
theorem dX7_comesTo_38 : decode cX7_comesTo 38 = .ok (.aload_n 0, 1) := by decide +kernel
theorem dX7_comesTo_39 : decode cX7_comesTo 39 = .ok (.getfield 88, 3) := by decide +kernel
theorem dX7_comesTo_42 : decode cX7_comesTo 42 = .ok (.iload 7, 2) := by decide +kernel
theorem dX7_comesTo_44 : decode cX7_comesTo 44 = .ok (.iaload, 1) := by decide +kernel
theorem dX7_comesTo_45 : decode cX7_comesTo 45 = .ok (.iload_n 2, 1) := by decide +kernel
theorem dX7_comesTo_46 : decode cX7_comesTo 46 = .ok (.if_icmp .ne 33, 3) := by decide +kernel
theorem dX7_comesTo_49 : decode cX7_comesTo 49 = .ok (.iload_n 1, 1) := by decide +kernel
theorem dX7_comesTo_50 : decode cX7_comesTo 50 = .ok (.aload_n 0, 1) := by decide +kernel
theorem dX7_comesTo_51 : decode cX7_comesTo 51 = .ok (.getfield 91, 3) := by decide +kernel
theorem dX7_comesTo_54 : decode cX7_comesTo 54 = .ok (.iload 7, 2) := by decide +kernel
theorem dX7_comesTo_56 : decode cX7_comesTo 56 = .ok (.iaload, 1) := by decide +kernel
theorem dX7_comesTo_57 : decode cX7_comesTo 57 = .ok (.aload_n 0, 1) := by decide +kernel
theorem dX7_comesTo_58 : decode cX7_comesTo 58 = .ok (.getfield 94, 3) := by decide +kernel
theorem dX7_comesTo_61 : decode cX7_comesTo 61 = .ok (.iload 7, 2) := by decide +kernel
theorem dX7_comesTo_63 : decode cX7_comesTo 63 = .ok (.iaload, 1) := by decide +kernel
theorem dX7_comesTo_64 : decode cX7_comesTo 64 = .ok (.invokestatic 117, 3) := by decide +kernel
theorem dX7_comesTo_67 : decode cX7_comesTo 67 = .ok (.ifCond .eq 12, 3) := by decide +kernel
theorem dX7_comesTo_70 : decode cX7_comesTo 70 = .ok (.iload 6, 2) := by decide +kernel
theorem dX7_comesTo_72 : decode cX7_comesTo 72 = .ok (.iconst 1, 1) := by decide +kernel
theorem dX7_comesTo_73 : decode cX7_comesTo 73 = .ok (.iload 7, 2) := by decide +kernel
theorem dX7_comesTo_75 : decode cX7_comesTo 75 = .ok (.ishl, 1) := by decide +kernel
theorem dX7_comesTo_76 : decode cX7_comesTo 76 = .ok (.ior, 1) := by decide +kernel
theorem dX7_comesTo_77 : decode cX7_comesTo 77 = .ok (.istore 6, 2) := by decide +kernel
theorem dX7_comesTo_79 : decode cX7_comesTo 79 = .ok (.iinc 7 1, 3) := by decide +kernel
theorem dX7_comesTo_82 : decode cX7_comesTo 82 = .ok (.goto (-53), 3) := by decide +kernel
theorem dX7_comesTo_85 : decode cX7_comesTo 85 = .ok (.iload_n 2, 1) := by decide +kernel
theorem dX7_comesTo_86 : decode cX7_comesTo 86 = .ok (.iload_n 3, 1) := by decide +kernel
theorem dX7_comesTo_87 : decode cX7_comesTo 87 = .ok (.iload 6, 2) := by decide +kernel
theorem dX7_comesTo_89 : decode cX7_comesTo 89 = .ok (.iload 5, 2) := by decide +kernel
theorem dX7_comesTo_91 : decode cX7_comesTo 91 = .ok (.invokestatic 288, 3) := by decide +kernel
theorem dX7_comesTo_94 : decode cX7_comesTo 94 = .ok (.ireturn, 1) := by decide +kernel
theorem dX7_stamped_0 : decode cX7_stamped 0 = .ok (.aload_n 0, 1) := by decide +kernel
theorem dX7_stamped_1 : decode cX7_stamped 1 = .ok (.getfield 33, 3) := by decide +kernel
theorem dX7_stamped_4 : decode cX7_stamped 4 = .ok (.iload_n 2, 1) := by decide +kernel
theorem dX7_stamped_5 : decode cX7_stamped 5 = .ok (.iaload, 1) := by decide +kernel
theorem dX7_stamped_6 : decode cX7_stamped 6 = .ok (.iload_n 3, 1) := by decide +kernel
theorem dX7_stamped_7 : decode cX7_stamped 7 = .ok (.ishr, 1) := by decide +kernel
theorem dX7_stamped_8 : decode cX7_stamped 8 = .ok (.iconst 1, 1) := by decide +kernel
theorem dX7_stamped_9 : decode cX7_stamped 9 = .ok (.iand, 1) := by decide +kernel
theorem dX7_stamped_10 : decode cX7_stamped 10 = .ok (.ifCond .ne 5, 3) := by decide +kernel
theorem dX7_stamped_13 : decode cX7_stamped 13 = .ok (.iload_n 1, 1) := by decide +kernel
theorem dX7_stamped_14 : decode cX7_stamped 14 = .ok (.ireturn, 1) := by decide +kernel
theorem dX7_stamped_15 : decode cX7_stamped 15 = .ok (.iload 4, 2) := by decide +kernel
theorem dX7_stamped_17 : decode cX7_stamped 17 = .ok (.aload_n 0, 1) := by decide +kernel
theorem dX7_stamped_18 : decode cX7_stamped 18 = .ok (.getfield 39, 3) := by decide +kernel
theorem dX7_stamped_21 : decode cX7_stamped 21 = .ok (.iload 5, 2) := by decide +kernel
theorem dX7_stamped_23 : decode cX7_stamped 23 = .ok (.iaload, 1) := by decide +kernel
theorem dX7_stamped_24 : decode cX7_stamped 24 = .ok (.iadd, 1) := by decide +kernel
theorem dX7_stamped_25 : decode cX7_stamped 25 = .ok (.bipush 24, 2) := by decide +kernel
theorem dX7_stamped_27 : decode cX7_stamped 27 = .ok (.invokestatic 292, 3) := by decide +kernel
theorem dX7_stamped_30 : decode cX7_stamped 30 = .ok (.istore 6, 2) := by decide +kernel
theorem dX7_stamped_32 : decode cX7_stamped 32 = .ok (.iload_n 1, 1) := by decide +kernel
theorem dX7_stamped_33 : decode cX7_stamped 33 = .ok (.aload_n 0, 1) := by decide +kernel
theorem dX7_stamped_34 : decode cX7_stamped 34 = .ok (.getfield 282, 3) := by decide +kernel
theorem dX7_stamped_37 : decode cX7_stamped 37 = .ok (.if_icmp .ne 5, 3) := by decide +kernel
theorem dX7_stamped_40 : decode cX7_stamped 40 = .ok (.iconst (-1), 1) := by decide +kernel
theorem dX7_stamped_41 : decode cX7_stamped 41 = .ok (.ireturn, 1) := by decide +kernel
theorem dX7_stamped_42 : decode cX7_stamped 42 = .ok (.aload_n 0, 1) := by decide +kernel
theorem dX7_stamped_43 : decode cX7_stamped 43 = .ok (.getfield 82, 3) := by decide +kernel
theorem dX7_stamped_46 : decode cX7_stamped 46 = .ok (.iload_n 1, 1) := by decide +kernel
theorem dX7_stamped_47 : decode cX7_stamped 47 = .ok (.iaload, 1) := by decide +kernel
theorem dX7_stamped_48 : decode cX7_stamped 48 = .ok (.istore 7, 2) := by decide +kernel
theorem dX7_stamped_50 : decode cX7_stamped 50 = .ok (.aload_n 0, 1) := by decide +kernel
theorem dX7_stamped_51 : decode cX7_stamped 51 = .ok (.getfield 60, 3) := by decide +kernel
theorem dX7_stamped_54 : decode cX7_stamped 54 = .ok (.iload 7, 2) := by decide +kernel
theorem dX7_stamped_56 : decode cX7_stamped 56 = .ok (.iaload, 1) := by decide +kernel
theorem dX7_stamped_57 : decode cX7_stamped 57 = .ok (.iload_n 2, 1) := by decide +kernel
theorem dX7_stamped_58 : decode cX7_stamped 58 = .ok (.if_icmp .ne 42, 3) := by decide +kernel
theorem dX7_stamped_61 : decode cX7_stamped 61 = .ok (.aload_n 0, 1) := by decide +kernel
theorem dX7_stamped_62 : decode cX7_stamped 62 = .ok (.getfield 69, 3) := by decide +kernel
theorem dX7_stamped_65 : decode cX7_stamped 65 = .ok (.iload 7, 2) := by decide +kernel
theorem dX7_stamped_67 : decode cX7_stamped 67 = .ok (.iaload, 1) := by decide +kernel
theorem dX7_stamped_68 : decode cX7_stamped 68 = .ok (.iload_n 3, 1) := by decide +kernel
theorem dX7_stamped_69 : decode cX7_stamped 69 = .ok (.if_icmp .ne 31, 3) := by decide +kernel
theorem dX7_stamped_72 : decode cX7_stamped 72 = .ok (.iload 6, 2) := by decide +kernel
theorem dX7_stamped_74 : decode cX7_stamped 74 = .ok (.aload_n 0, 1) := by decide +kernel
theorem dX7_stamped_75 : decode cX7_stamped 75 = .ok (.getfield 63, 3) := by decide +kernel
theorem dX7_stamped_78 : decode cX7_stamped 78 = .ok (.iload 7, 2) := by decide +kernel
theorem dX7_stamped_80 : decode cX7_stamped 80 = .ok (.iaload, 1) := by decide +kernel
theorem dX7_stamped_81 : decode cX7_stamped 81 = .ok (.aload_n 0, 1) := by decide +kernel
theorem dX7_stamped_82 : decode cX7_stamped 82 = .ok (.getfield 66, 3) := by decide +kernel
theorem dX7_stamped_85 : decode cX7_stamped 85 = .ok (.iload 7, 2) := by decide +kernel
theorem dX7_stamped_87 : decode cX7_stamped 87 = .ok (.iaload, 1) := by decide +kernel
theorem dX7_stamped_88 : decode cX7_stamped 88 = .ok (.invokestatic 117, 3) := by decide +kernel
theorem dX7_stamped_91 : decode cX7_stamped 91 = .ok (.ifCond .eq 9, 3) := by decide +kernel
theorem dX7_stamped_94 : decode cX7_stamped 94 = .ok (.iload_n 1, 1) := by decide +kernel
theorem dX7_stamped_95 : decode cX7_stamped 95 = .ok (.iconst 1, 1) := by decide +kernel
theorem dX7_stamped_96 : decode cX7_stamped 96 = .ok (.iadd, 1) := by decide +kernel
theorem dX7_stamped_97 : decode cX7_stamped 97 = .ok (.goto 4, 3) := by decide +kernel
theorem dX7_stamped_100 : decode cX7_stamped 100 = .ok (.iconst (-1), 1) := by decide +kernel
theorem dX7_stamped_101 : decode cX7_stamped 101 = .ok (.ireturn, 1) := by decide +kernel
theorem dX7_goes_0 : decode cX7_goes 0 = .ok (.iload_n 2, 1) := by decide +kernel
theorem dX7_goes_1 : decode cX7_goes 1 = .ok (.iconst 5, 1) := by decide +kernel
theorem dX7_goes_2 : decode cX7_goes 2 = .ok (.irem, 1) := by decide +kernel
theorem dX7_goes_3 : decode cX7_goes 3 = .ok (.istore 4, 2) := by decide +kernel
theorem dX7_goes_5 : decode cX7_goes 5 = .ok (.iload_n 2, 1) := by decide +kernel
theorem dX7_goes_6 : decode cX7_goes 6 = .ok (.iconst 5, 1) := by decide +kernel
theorem dX7_goes_7 : decode cX7_goes 7 = .ok (.idiv, 1) := by decide +kernel
theorem dX7_goes_8 : decode cX7_goes 8 = .ok (.iconst 4, 1) := by decide +kernel
theorem dX7_goes_9 : decode cX7_goes 9 = .ok (.irem, 1) := by decide +kernel
end
section
theorem dX7_goes_10 : decode cX7_goes 10 = .ok (.istore 5, 2) := by decide +kernel
theorem dX7_goes_12 : decode cX7_goes 12 = .ok (.iload_n 2, 1) := by decide +kernel
theorem dX7_goes_13 : decode cX7_goes 13 = .ok (.bipush 20, 2) := by decide +kernel
theorem dX7_goes_15 : decode cX7_goes 15 = .ok (.idiv, 1) := by decide +kernel
theorem dX7_goes_16 : decode cX7_goes 16 = .ok (.bipush 7, 2) := by decide +kernel
theorem dX7_goes_18 : decode cX7_goes 18 = .ok (.irem, 1) := by decide +kernel
theorem dX7_goes_19 : decode cX7_goes 19 = .ok (.istore 6, 2) := by decide +kernel
theorem dX7_goes_21 : decode cX7_goes 21 = .ok (.iload_n 2, 1) := by decide +kernel
theorem dX7_goes_22 : decode cX7_goes 22 = .ok (.sipush 140, 3) := by decide +kernel
theorem dX7_goes_25 : decode cX7_goes 25 = .ok (.idiv, 1) := by decide +kernel
theorem dX7_goes_26 : decode cX7_goes 26 = .ok (.istore 7, 2) := by decide +kernel
theorem dX7_goes_28 : decode cX7_goes 28 = .ok (.iload_n 3, 1) := by decide +kernel
theorem dX7_goes_29 : decode cX7_goes 29 = .ok (.iconst (-1), 1) := by decide +kernel
theorem dX7_goes_30 : decode cX7_goes 30 = .ok (.if_icmp .ne 7, 3) := by decide +kernel
theorem dX7_goes_33 : decode cX7_goes 33 = .ok (.iconst 1, 1) := by decide +kernel
theorem dX7_goes_34 : decode cX7_goes 34 = .ok (.goto 4, 3) := by decide +kernel
theorem dX7_goes_37 : decode cX7_goes 37 = .ok (.iconst 0, 1) := by decide +kernel
theorem dX7_goes_38 : decode cX7_goes 38 = .ok (.istore 8, 2) := by decide +kernel
theorem dX7_goes_40 : decode cX7_goes 40 = .ok (.iload 8, 2) := by decide +kernel
theorem dX7_goes_42 : decode cX7_goes 42 = .ok (.ifCond .ne 43, 3) := by decide +kernel
theorem dX7_goes_45 : decode cX7_goes 45 = .ok (.aload_n 0, 1) := by decide +kernel
theorem dX7_goes_46 : decode cX7_goes 46 = .ok (.iload_n 3, 1) := by decide +kernel
theorem dX7_goes_47 : decode cX7_goes 47 = .ok (.iconst 0, 1) := by decide +kernel
theorem dX7_goes_48 : decode cX7_goes 48 = .ok (.invokevirtual 276, 3) := by decide +kernel
theorem dX7_goes_51 : decode cX7_goes 51 = .ok (.iload 7, 2) := by decide +kernel
theorem dX7_goes_53 : decode cX7_goes 53 = .ok (.if_icmp .ne 30, 3) := by decide +kernel
theorem dX7_goes_56 : decode cX7_goes 56 = .ok (.aload_n 0, 1) := by decide +kernel
theorem dX7_goes_57 : decode cX7_goes 57 = .ok (.iload_n 3, 1) := by decide +kernel
theorem dX7_goes_58 : decode cX7_goes 58 = .ok (.iconst 2, 1) := by decide +kernel
theorem dX7_goes_59 : decode cX7_goes 59 = .ok (.invokevirtual 276, 3) := by decide +kernel
theorem dX7_goes_62 : decode cX7_goes 62 = .ok (.aload_n 0, 1) := by decide +kernel
theorem dX7_goes_63 : decode cX7_goes 63 = .ok (.iload_n 3, 1) := by decide +kernel
theorem dX7_goes_64 : decode cX7_goes 64 = .ok (.iconst 5, 1) := by decide +kernel
theorem dX7_goes_65 : decode cX7_goes 65 = .ok (.invokevirtual 276, 3) := by decide +kernel
theorem dX7_goes_68 : decode cX7_goes 68 = .ok (.iconst 1, 1) := by decide +kernel
theorem dX7_goes_69 : decode cX7_goes 69 = .ok (.if_icmp .ne 10, 3) := by decide +kernel
theorem dX7_goes_72 : decode cX7_goes 72 = .ok (.iload_n 1, 1) := by decide +kernel
theorem dX7_goes_73 : decode cX7_goes 73 = .ok (.bipush 24, 2) := by decide +kernel
theorem dX7_goes_75 : decode cX7_goes 75 = .ok (.irem, 1) := by decide +kernel
theorem dX7_goes_76 : decode cX7_goes 76 = .ok (.goto 4, 3) := by decide +kernel
theorem dX7_goes_79 : decode cX7_goes 79 = .ok (.iload_n 1, 1) := by decide +kernel
theorem dX7_goes_80 : decode cX7_goes 80 = .ok (.if_icmp .eq 5, 3) := by decide +kernel
theorem dX7_goes_83 : decode cX7_goes 83 = .ok (.iconst (-1), 1) := by decide +kernel
theorem dX7_goes_84 : decode cX7_goes 84 = .ok (.ireturn, 1) := by decide +kernel
theorem dX7_goes_85 : decode cX7_goes 85 = .ok (.aload_n 0, 1) := by decide +kernel
theorem dX7_goes_86 : decode cX7_goes 86 = .ok (.iload 8, 2) := by decide +kernel
theorem dX7_goes_88 : decode cX7_goes 88 = .ok (.ifCond .eq 9, 3) := by decide +kernel
theorem dX7_goes_91 : decode cX7_goes 91 = .ok (.iload_n 1, 1) := by decide +kernel
theorem dX7_goes_92 : decode cX7_goes 92 = .ok (.iconst 1, 1) := by decide +kernel
theorem dX7_goes_93 : decode cX7_goes 93 = .ok (.iadd, 1) := by decide +kernel
theorem dX7_goes_94 : decode cX7_goes 94 = .ok (.goto 11, 3) := by decide +kernel
theorem dX7_goes_97 : decode cX7_goes 97 = .ok (.iload_n 1, 1) := by decide +kernel
theorem dX7_goes_98 : decode cX7_goes 98 = .ok (.aload_n 0, 1) := by decide +kernel
theorem dX7_goes_99 : decode cX7_goes 99 = .ok (.iload_n 3, 1) := by decide +kernel
theorem dX7_goes_100 : decode cX7_goes 100 = .ok (.iconst 3, 1) := by decide +kernel
theorem dX7_goes_101 : decode cX7_goes 101 = .ok (.invokevirtual 276, 3) := by decide +kernel
theorem dX7_goes_104 : decode cX7_goes 104 = .ok (.iadd, 1) := by decide +kernel
theorem dX7_goes_105 : decode cX7_goes 105 = .ok (.putfield 297, 3) := by decide +kernel
theorem dX7_goes_108 : decode cX7_goes 108 = .ok (.aload_n 0, 1) := by decide +kernel
theorem dX7_goes_109 : decode cX7_goes 109 = .ok (.getfield 297, 3) := by decide +kernel
theorem dX7_goes_112 : decode cX7_goes 112 = .ok (.aload_n 0, 1) := by decide +kernel
theorem dX7_goes_113 : decode cX7_goes 113 = .ok (.getfield 51, 3) := by decide +kernel
theorem dX7_goes_116 : decode cX7_goes 116 = .ok (.aload_n 0, 1) := by decide +kernel
theorem dX7_goes_117 : decode cX7_goes 117 = .ok (.getfield 279, 3) := by decide +kernel
theorem dX7_goes_120 : decode cX7_goes 120 = .ok (.iaload, 1) := by decide +kernel
theorem dX7_goes_121 : decode cX7_goes 121 = .ok (.if_icmp .le 5, 3) := by decide +kernel
theorem dX7_goes_124 : decode cX7_goes 124 = .ok (.iconst (-1), 1) := by decide +kernel
theorem dX7_goes_125 : decode cX7_goes 125 = .ok (.ireturn, 1) := by decide +kernel
theorem dX7_goes_126 : decode cX7_goes 126 = .ok (.iload 8, 2) := by decide +kernel
theorem dX7_goes_128 : decode cX7_goes 128 = .ok (.ifCond .eq 8, 3) := by decide +kernel
theorem dX7_goes_131 : decode cX7_goes 131 = .ok (.iload 7, 2) := by decide +kernel
theorem dX7_goes_133 : decode cX7_goes 133 = .ok (.goto 9, 3) := by decide +kernel
theorem dX7_goes_136 : decode cX7_goes 136 = .ok (.aload_n 0, 1) := by decide +kernel
theorem dX7_goes_137 : decode cX7_goes 137 = .ok (.iload_n 3, 1) := by decide +kernel
theorem dX7_goes_138 : decode cX7_goes 138 = .ok (.iconst 1, 1) := by decide +kernel
theorem dX7_goes_139 : decode cX7_goes 139 = .ok (.invokevirtual 276, 3) := by decide +kernel
theorem dX7_goes_142 : decode cX7_goes 142 = .ok (.istore 9, 2) := by decide +kernel
theorem dX7_goes_144 : decode cX7_goes 144 = .ok (.iload_n 1, 1) := by decide +kernel
theorem dX7_goes_145 : decode cX7_goes 145 = .ok (.iconst 1, 1) := by decide +kernel
theorem dX7_goes_146 : decode cX7_goes 146 = .ok (.iadd, 1) := by decide +kernel
theorem dX7_goes_147 : decode cX7_goes 147 = .ok (.istore 10, 2) := by decide +kernel
theorem dX7_goes_149 : decode cX7_goes 149 = .ok (.iload 10, 2) := by decide +kernel
theorem dX7_goes_151 : decode cX7_goes 151 = .ok (.aload_n 0, 1) := by decide +kernel
theorem dX7_goes_152 : decode cX7_goes 152 = .ok (.getfield 297, 3) := by decide +kernel
theorem dX7_goes_155 : decode cX7_goes 155 = .ok (.if_icmp .ge 22, 3) := by decide +kernel
theorem dX7_goes_158 : decode cX7_goes 158 = .ok (.aload_n 0, 1) := by decide +kernel
theorem dX7_goes_159 : decode cX7_goes 159 = .ok (.getfield 85, 3) := by decide +kernel
theorem dX7_goes_162 : decode cX7_goes 162 = .ok (.iload 10, 2) := by decide +kernel
theorem dX7_goes_164 : decode cX7_goes 164 = .ok (.iaload, 1) := by decide +kernel
theorem dX7_goes_165 : decode cX7_goes 165 = .ok (.iconst (-1), 1) := by decide +kernel
theorem dX7_goes_166 : decode cX7_goes 166 = .ok (.if_icmp .eq 5, 3) := by decide +kernel
theorem dX7_goes_169 : decode cX7_goes 169 = .ok (.iconst (-1), 1) := by decide +kernel
theorem dX7_goes_170 : decode cX7_goes 170 = .ok (.ireturn, 1) := by decide +kernel
theorem dX7_goes_171 : decode cX7_goes 171 = .ok (.iinc 10 1, 3) := by decide +kernel
theorem dX7_goes_174 : decode cX7_goes 174 = .ok (.goto (-25), 3) := by decide +kernel
theorem dX7_goes_177 : decode cX7_goes 177 = .ok (.iload 8, 2) := by decide +kernel
theorem dX7_goes_179 : decode cX7_goes 179 = .ok (.ifCond .eq 21, 3) := by decide +kernel
theorem dX7_goes_182 : decode cX7_goes 182 = .ok (.iload_n 1, 1) := by decide +kernel
theorem dX7_goes_183 : decode cX7_goes 183 = .ok (.bipush 24, 2) := by decide +kernel
theorem dX7_goes_185 : decode cX7_goes 185 = .ok (.irem, 1) := by decide +kernel
theorem dX7_goes_186 : decode cX7_goes 186 = .ok (.bipush 8, 2) := by decide +kernel
theorem dX7_goes_188 : decode cX7_goes 188 = .ok (.if_icmp .ge 12, 3) := by decide +kernel
theorem dX7_goes_191 : decode cX7_goes 191 = .ok (.iload 4, 2) := by decide +kernel
theorem dX7_goes_193 : decode cX7_goes 193 = .ok (.iconst 4, 1) := by decide +kernel
theorem dX7_goes_194 : decode cX7_goes 194 = .ok (.if_icmp .ge 6, 3) := by decide +kernel
theorem dX7_goes_197 : decode cX7_goes 197 = .ok (.iinc 4 1, 3) := by decide +kernel
theorem dX7_goes_200 : decode cX7_goes 200 = .ok (.iload_n 1, 1) := by decide +kernel
theorem dX7_goes_201 : decode cX7_goes 201 = .ok (.bipush 24, 2) := by decide +kernel
theorem dX7_goes_203 : decode cX7_goes 203 = .ok (.idiv, 1) := by decide +kernel
theorem dX7_goes_204 : decode cX7_goes 204 = .ok (.istore 10, 2) := by decide +kernel
theorem dX7_goes_206 : decode cX7_goes 206 = .ok (.bipush 24, 2) := by decide +kernel
theorem dX7_goes_208 : decode cX7_goes 208 = .ok (.iload 10, 2) := by decide +kernel
theorem dX7_goes_210 : decode cX7_goes 210 = .ok (.imul, 1) := by decide +kernel
theorem dX7_goes_211 : decode cX7_goes 211 = .ok (.bipush 8, 2) := by decide +kernel
theorem dX7_goes_213 : decode cX7_goes 213 = .ok (.iadd, 1) := by decide +kernel
theorem dX7_goes_214 : decode cX7_goes 214 = .ok (.aload_n 0, 1) := by decide +kernel
theorem dX7_goes_215 : decode cX7_goes 215 = .ok (.getfield 297, 3) := by decide +kernel
theorem dX7_goes_218 : decode cX7_goes 218 = .ok (.if_icmp .gt 53, 3) := by decide +kernel
theorem dX7_goes_221 : decode cX7_goes 221 = .ok (.bipush 24, 2) := by decide +kernel
theorem dX7_goes_223 : decode cX7_goes 223 = .ok (.iload 10, 2) := by decide +kernel
theorem dX7_goes_225 : decode cX7_goes 225 = .ok (.imul, 1) := by decide +kernel
theorem dX7_goes_226 : decode cX7_goes 226 = .ok (.bipush 8, 2) := by decide +kernel
theorem dX7_goes_228 : decode cX7_goes 228 = .ok (.iadd, 1) := by decide +kernel
theorem dX7_goes_229 : decode cX7_goes 229 = .ok (.iload_n 1, 1) := by decide +kernel
theorem dX7_goes_230 : decode cX7_goes 230 = .ok (.if_icmp .gt 6, 3) := by decide +kernel
theorem dX7_goes_233 : decode cX7_goes 233 = .ok (.goto 32, 3) := by decide +kernel
theorem dX7_goes_236 : decode cX7_goes 236 = .ok (.iload 10, 2) := by decide +kernel
theorem dX7_goes_238 : decode cX7_goes 238 = .ok (.iload_n 1, 1) := by decide +kernel
theorem dX7_goes_239 : decode cX7_goes 239 = .ok (.bipush 24, 2) := by decide +kernel
theorem dX7_goes_241 : decode cX7_goes 241 = .ok (.idiv, 1) := by decide +kernel
theorem dX7_goes_242 : decode cX7_goes 242 = .ok (.if_icmp .ne 8, 3) := by decide +kernel
theorem dX7_goes_245 : decode cX7_goes 245 = .ok (.iload 4, 2) := by decide +kernel
theorem dX7_goes_247 : decode cX7_goes 247 = .ok (.goto 4, 3) := by decide +kernel
theorem dX7_goes_250 : decode cX7_goes 250 = .ok (.iconst 0, 1) := by decide +kernel
theorem dX7_goes_251 : decode cX7_goes 251 = .ok (.aload_n 0, 1) := by decide +kernel
theorem dX7_goes_252 : decode cX7_goes 252 = .ok (.getfield 48, 3) := by decide +kernel
theorem dX7_goes_255 : decode cX7_goes 255 = .ok (.aload_n 0, 1) := by decide +kernel
theorem dX7_goes_256 : decode cX7_goes 256 = .ok (.getfield 279, 3) := by decide +kernel
theorem dX7_goes_259 : decode cX7_goes 259 = .ok (.iaload, 1) := by decide +kernel
theorem dX7_goes_260 : decode cX7_goes 260 = .ok (.if_icmp .ge 5, 3) := by decide +kernel
theorem dX7_goes_263 : decode cX7_goes 263 = .ok (.iconst (-1), 1) := by decide +kernel
theorem dX7_goes_264 : decode cX7_goes 264 = .ok (.ireturn, 1) := by decide +kernel
theorem dX7_goes_265 : decode cX7_goes 265 = .ok (.iinc 10 1, 3) := by decide +kernel
theorem dX7_goes_268 : decode cX7_goes 268 = .ok (.goto (-62), 3) := by decide +kernel
theorem dX7_goes_271 : decode cX7_goes 271 = .ok (.aload_n 0, 1) := by decide +kernel
theorem dX7_goes_272 : decode cX7_goes 272 = .ok (.getfield 297, 3) := by decide +kernel
theorem dX7_goes_275 : decode cX7_goes 275 = .ok (.bipush 24, 2) := by decide +kernel
theorem dX7_goes_277 : decode cX7_goes 277 = .ok (.idiv, 1) := by decide +kernel
theorem dX7_goes_278 : decode cX7_goes 278 = .ok (.iload_n 1, 1) := by decide +kernel
theorem dX7_goes_279 : decode cX7_goes 279 = .ok (.bipush 24, 2) := by decide +kernel
theorem dX7_goes_281 : decode cX7_goes 281 = .ok (.idiv, 1) := by decide +kernel
theorem dX7_goes_282 : decode cX7_goes 282 = .ok (.if_icmp .ne 19, 3) := by decide +kernel
theorem dX7_goes_285 : decode cX7_goes 285 = .ok (.aload_n 0, 1) := by decide +kernel
theorem dX7_goes_286 : decode cX7_goes 286 = .ok (.getfield 297, 3) := by decide +kernel
theorem dX7_goes_289 : decode cX7_goes 289 = .ok (.bipush 24, 2) := by decide +kernel
theorem dX7_goes_291 : decode cX7_goes 291 = .ok (.irem, 1) := by decide +kernel
theorem dX7_goes_292 : decode cX7_goes 292 = .ok (.bipush 8, 2) := by decide +kernel
theorem dX7_goes_294 : decode cX7_goes 294 = .ok (.if_icmp .ge 7, 3) := by decide +kernel
theorem dX7_goes_297 : decode cX7_goes 297 = .ok (.iconst 1, 1) := by decide +kernel
theorem dX7_goes_298 : decode cX7_goes 298 = .ok (.goto 4, 3) := by decide +kernel
theorem dX7_goes_301 : decode cX7_goes 301 = .ok (.iconst 0, 1) := by decide +kernel
theorem dX7_goes_302 : decode cX7_goes 302 = .ok (.istore 10, 2) := by decide +kernel
theorem dX7_goes_304 : decode cX7_goes 304 = .ok (.aload_n 0, 1) := by decide +kernel
theorem dX7_goes_305 : decode cX7_goes 305 = .ok (.getfield 36, 3) := by decide +kernel
theorem dX7_goes_308 : decode cX7_goes 308 = .ok (.iload 9, 2) := by decide +kernel
theorem dX7_goes_310 : decode cX7_goes 310 = .ok (.iaload, 1) := by decide +kernel
theorem dX7_goes_311 : decode cX7_goes 311 = .ok (.aload_n 0, 1) := by decide +kernel
theorem dX7_goes_312 : decode cX7_goes 312 = .ok (.getfield 36, 3) := by decide +kernel
theorem dX7_goes_315 : decode cX7_goes 315 = .ok (.iload 7, 2) := by decide +kernel
theorem dX7_goes_317 : decode cX7_goes 317 = .ok (.iaload, 1) := by decide +kernel
theorem dX7_goes_318 : decode cX7_goes 318 = .ok (.if_icmp .eq 58, 3) := by decide +kernel
theorem dX7_goes_321 : decode cX7_goes 321 = .ok (.aload_n 0, 1) := by decide +kernel
theorem dX7_goes_322 : decode cX7_goes 322 = .ok (.iload 6, 2) := by decide +kernel
theorem dX7_goes_324 : decode cX7_goes 324 = .ok (.aload_n 0, 1) := by decide +kernel
theorem dX7_goes_325 : decode cX7_goes 325 = .ok (.getfield 36, 3) := by decide +kernel
theorem dX7_goes_328 : decode cX7_goes 328 = .ok (.iload 7, 2) := by decide +kernel
theorem dX7_goes_330 : decode cX7_goes 330 = .ok (.iaload, 1) := by decide +kernel
theorem dX7_goes_331 : decode cX7_goes 331 = .ok (.iconst 1, 1) := by decide +kernel
theorem dX7_goes_332 : decode cX7_goes 332 = .ok (.iload_n 1, 1) := by decide +kernel
theorem dX7_goes_333 : decode cX7_goes 333 = .ok (.iload 7, 2) := by decide +kernel
theorem dX7_goes_335 : decode cX7_goes 335 = .ok (.invokevirtual 300, 3) := by decide +kernel
theorem dX7_goes_338 : decode cX7_goes 338 = .ok (.istore 6, 2) := by decide +kernel
theorem dX7_goes_340 : decode cX7_goes 340 = .ok (.iload 6, 2) := by decide +kernel
theorem dX7_goes_342 : decode cX7_goes 342 = .ok (.iconst (-1), 1) := by decide +kernel
theorem dX7_goes_343 : decode cX7_goes 343 = .ok (.if_icmp .eq 25, 3) := by decide +kernel
theorem dX7_goes_346 : decode cX7_goes 346 = .ok (.aload_n 0, 1) := by decide +kernel
theorem dX7_goes_347 : decode cX7_goes 347 = .ok (.iload 6, 2) := by decide +kernel
theorem dX7_goes_349 : decode cX7_goes 349 = .ok (.aload_n 0, 1) := by decide +kernel
theorem dX7_goes_350 : decode cX7_goes 350 = .ok (.getfield 36, 3) := by decide +kernel
theorem dX7_goes_353 : decode cX7_goes 353 = .ok (.iload 9, 2) := by decide +kernel
theorem dX7_goes_355 : decode cX7_goes 355 = .ok (.iaload, 1) := by decide +kernel
theorem dX7_goes_356 : decode cX7_goes 356 = .ok (.iconst 0, 1) := by decide +kernel
theorem dX7_goes_357 : decode cX7_goes 357 = .ok (.aload_n 0, 1) := by decide +kernel
theorem dX7_goes_358 : decode cX7_goes 358 = .ok (.getfield 297, 3) := by decide +kernel
theorem dX7_goes_361 : decode cX7_goes 361 = .ok (.iload 9, 2) := by decide +kernel
theorem dX7_goes_363 : decode cX7_goes 363 = .ok (.invokevirtual 300, 3) := by decide +kernel
theorem dX7_goes_366 : decode cX7_goes 366 = .ok (.istore 6, 2) := by decide +kernel
theorem dX7_goes_368 : decode cX7_goes 368 = .ok (.iload 6, 2) := by decide +kernel
theorem dX7_goes_370 : decode cX7_goes 370 = .ok (.iconst (-1), 1) := by decide +kernel
theorem dX7_goes_371 : decode cX7_goes 371 = .ok (.if_icmp .ne 5, 3) := by decide +kernel
theorem dX7_goes_374 : decode cX7_goes 374 = .ok (.iconst (-1), 1) := by decide +kernel
theorem dX7_goes_375 : decode cX7_goes 375 = .ok (.ireturn, 1) := by decide +kernel
theorem dX7_goes_376 : decode cX7_goes 376 = .ok (.aload_n 0, 1) := by decide +kernel
theorem dX7_goes_377 : decode cX7_goes 377 = .ok (.aload_n 0, 1) := by decide +kernel
theorem dX7_goes_378 : decode cX7_goes 378 = .ok (.getfield 297, 3) := by decide +kernel
theorem dX7_goes_381 : decode cX7_goes 381 = .ok (.iload 9, 2) := by decide +kernel
theorem dX7_goes_383 : decode cX7_goes 383 = .ok (.iload 6, 2) := by decide +kernel
theorem dX7_goes_385 : decode cX7_goes 385 = .ok (.iload 5, 2) := by decide +kernel
theorem dX7_goes_387 : decode cX7_goes 387 = .ok (.iload 10, 2) := by decide +kernel
theorem dX7_goes_389 : decode cX7_goes 389 = .ok (.ifCond .eq 8, 3) := by decide +kernel
theorem dX7_goes_392 : decode cX7_goes 392 = .ok (.iload 4, 2) := by decide +kernel
theorem dX7_goes_394 : decode cX7_goes 394 = .ok (.goto 4, 3) := by decide +kernel
theorem dX7_goes_397 : decode cX7_goes 397 = .ok (.iconst 0, 1) := by decide +kernel
theorem dX7_goes_398 : decode cX7_goes 398 = .ok (.invokevirtual 304, 3) := by decide +kernel
theorem dX7_goes_401 : decode cX7_goes 401 = .ok (.ireturn, 1) := by decide +kernel
theorem dX7_start_0 : decode cX7_start 0 = .ok (.aload_n 0, 1) := by decide +kernel
theorem dX7_start_1 : decode cX7_start 1 = .ok (.iconst 0, 1) := by decide +kernel
theorem dX7_start_2 : decode cX7_start 2 = .ok (.aload_n 0, 1) := by decide +kernel
theorem dX7_start_3 : decode cX7_start 3 = .ok (.getfield 45, 3) := by decide +kernel
theorem dX7_start_6 : decode cX7_start 6 = .ok (.aload_n 0, 1) := by decide +kernel
theorem dX7_start_7 : decode cX7_start 7 = .ok (.getfield 279, 3) := by decide +kernel
theorem dX7_start_10 : decode cX7_start 10 = .ok (.iaload, 1) := by decide +kernel
theorem dX7_start_11 : decode cX7_start 11 = .ok (.iconst 0, 1) := by decide +kernel
theorem dX7_start_12 : decode cX7_start 12 = .ok (.iconst 0, 1) := by decide +kernel
theorem dX7_start_13 : decode cX7_start 13 = .ok (.iconst 0, 1) := by decide +kernel
theorem dX7_start_14 : decode cX7_start 14 = .ok (.invokevirtual 304, 3) := by decide +kernel
theorem dX7_start_17 : decode cX7_start 17 = .ok (.ireturn, 1) := by decide +kernel
theorem dX7_ends_0 : decode cX7_ends 0 = .ok (.iload_n 1, 1) := by decide +kernel
theorem dX7_ends_1 : decode cX7_ends 1 = .ok (.iconst 5, 1) := by decide +kernel
theorem dX7_ends_2 : decode cX7_ends 2 = .ok (.idiv, 1) := by decide +kernel
theorem dX7_ends_3 : decode cX7_ends 3 = .ok (.iconst 4, 1) := by decide +kernel
theorem dX7_ends_4 : decode cX7_ends 4 = .ok (.irem, 1) := by decide +kernel
theorem dX7_ends_5 : decode cX7_ends 5 = .ok (.iconst 1, 1) := by decide +kernel
theorem dX7_ends_6 : decode cX7_ends 6 = .ok (.aload_n 0, 1) := by decide +kernel
theorem dX7_ends_7 : decode cX7_ends 7 = .ok (.getfield 285, 3) := by decide +kernel
theorem dX7_ends_10 : decode cX7_ends 10 = .ok (.ishl, 1) := by decide +kernel
theorem dX7_ends_11 : decode cX7_ends 11 = .ok (.iconst 1, 1) := by decide +kernel
theorem dX7_ends_12 : decode cX7_ends 12 = .ok (.isub, 1) := by decide +kernel
theorem dX7_ends_13 : decode cX7_ends 13 = .ok (.if_icmp .ne 21, 3) := by decide +kernel
theorem dX7_ends_16 : decode cX7_ends 16 = .ok (.iload_n 1, 1) := by decide +kernel
theorem dX7_ends_17 : decode cX7_ends 17 = .ok (.bipush 20, 2) := by decide +kernel
theorem dX7_ends_19 : decode cX7_ends 19 = .ok (.idiv, 1) := by decide +kernel
theorem dX7_ends_20 : decode cX7_ends 20 = .ok (.bipush 7, 2) := by decide +kernel
theorem dX7_ends_22 : decode cX7_ends 22 = .ok (.irem, 1) := by decide +kernel
theorem dX7_ends_23 : decode cX7_ends 23 = .ok (.aload_n 0, 1) := by decide +kernel
theorem dX7_ends_24 : decode cX7_ends 24 = .ok (.getfield 282, 3) := by decide +kernel
theorem dX7_ends_27 : decode cX7_ends 27 = .ok (.if_icmp .ne 7, 3) := by decide +kernel
theorem dX7_ends_30 : decode cX7_ends 30 = .ok (.iconst 1, 1) := by decide +kernel
theorem dX7_ends_31 : decode cX7_ends 31 = .ok (.goto 4, 3) := by decide +kernel
theorem dX7_ends_34 : decode cX7_ends 34 = .ok (.iconst 0, 1) := by decide +kernel
theorem dX7_ends_35 : decode cX7_ends 35 = .ok (.ireturn, 1) := by decide +kernel
theorem dX7_finds_0 : decode cX7_finds 0 = .ok (.iconst 0, 1) := by decide +kernel
theorem dX7_finds_1 : decode cX7_finds 1 = .ok (.istore_n 1, 1) := by decide +kernel
theorem dX7_finds_2 : decode cX7_finds 2 = .ok (.iload_n 1, 1) := by decide +kernel
theorem dX7_finds_3 : decode cX7_finds 3 = .ok (.aload_n 0, 1) := by decide +kernel
theorem dX7_finds_4 : decode cX7_finds 4 = .ok (.getfield 51, 3) := by decide +kernel
theorem dX7_finds_7 : decode cX7_finds 7 = .ok (.aload_n 0, 1) := by decide +kernel
theorem dX7_finds_8 : decode cX7_finds 8 = .ok (.getfield 279, 3) := by decide +kernel
theorem dX7_finds_11 : decode cX7_finds 11 = .ok (.iaload, 1) := by decide +kernel
theorem dX7_finds_12 : decode cX7_finds 12 = .ok (.sipush 1120, 3) := by decide +kernel
theorem dX7_finds_15 : decode cX7_finds 15 = .ok (.imul, 1) := by decide +kernel
theorem dX7_finds_16 : decode cX7_finds 16 = .ok (.sipush 1120, 3) := by decide +kernel
theorem dX7_finds_19 : decode cX7_finds 19 = .ok (.iadd, 1) := by decide +kernel
theorem dX7_finds_20 : decode cX7_finds 20 = .ok (.iconst 1, 1) := by decide +kernel
theorem dX7_finds_21 : decode cX7_finds 21 = .ok (.isub, 1) := by decide +kernel
theorem dX7_finds_22 : decode cX7_finds 22 = .ok (.if_icmp .gt 16, 3) := by decide +kernel
theorem dX7_finds_25 : decode cX7_finds 25 = .ok (.aload_n 0, 1) := by decide +kernel
theorem dX7_finds_26 : decode cX7_finds 26 = .ok (.getfield 104, 3) := by decide +kernel
theorem dX7_finds_29 : decode cX7_finds 29 = .ok (.iload_n 1, 1) := by decide +kernel
theorem dX7_finds_30 : decode cX7_finds 30 = .ok (.iconst 0, 1) := by decide +kernel
theorem dX7_finds_31 : decode cX7_finds 31 = .ok (.bastore, 1) := by decide +kernel
theorem dX7_finds_32 : decode cX7_finds 32 = .ok (.iinc 1 1, 3) := by decide +kernel
theorem dX7_finds_35 : decode cX7_finds 35 = .ok (.goto (-33), 3) := by decide +kernel
theorem dX7_finds_38 : decode cX7_finds 38 = .ok (.aload_n 0, 1) := by decide +kernel
theorem dX7_finds_39 : decode cX7_finds 39 = .ok (.invokevirtual 307, 3) := by decide +kernel
theorem dX7_finds_42 : decode cX7_finds 42 = .ok (.istore_n 1, 1) := by decide +kernel
theorem dX7_finds_43 : decode cX7_finds 43 = .ok (.iload_n 1, 1) := by decide +kernel
theorem dX7_finds_44 : decode cX7_finds 44 = .ok (.iconst (-1), 1) := by decide +kernel
theorem dX7_finds_45 : decode cX7_finds 45 = .ok (.if_icmp .ne 5, 3) := by decide +kernel
theorem dX7_finds_48 : decode cX7_finds 48 = .ok (.iconst 0, 1) := by decide +kernel
theorem dX7_finds_49 : decode cX7_finds 49 = .ok (.ireturn, 1) := by decide +kernel
theorem dX7_finds_50 : decode cX7_finds 50 = .ok (.aload_n 0, 1) := by decide +kernel
theorem dX7_finds_51 : decode cX7_finds 51 = .ok (.getfield 104, 3) := by decide +kernel
theorem dX7_finds_54 : decode cX7_finds 54 = .ok (.iload_n 1, 1) := by decide +kernel
theorem dX7_finds_55 : decode cX7_finds 55 = .ok (.iconst 1, 1) := by decide +kernel
theorem dX7_finds_56 : decode cX7_finds 56 = .ok (.bastore, 1) := by decide +kernel
theorem dX7_finds_57 : decode cX7_finds 57 = .ok (.iconst 0, 1) := by decide +kernel
theorem dX7_finds_58 : decode cX7_finds 58 = .ok (.istore_n 2, 1) := by decide +kernel
theorem dX7_finds_59 : decode cX7_finds 59 = .ok (.iload_n 2, 1) := by decide +kernel
theorem dX7_finds_60 : decode cX7_finds 60 = .ok (.aload_n 0, 1) := by decide +kernel
theorem dX7_finds_61 : decode cX7_finds 61 = .ok (.getfield 51, 3) := by decide +kernel
theorem dX7_finds_64 : decode cX7_finds 64 = .ok (.aload_n 0, 1) := by decide +kernel
theorem dX7_finds_65 : decode cX7_finds 65 = .ok (.getfield 279, 3) := by decide +kernel
theorem dX7_finds_68 : decode cX7_finds 68 = .ok (.iaload, 1) := by decide +kernel
theorem dX7_finds_69 : decode cX7_finds 69 = .ok (.if_icmp .ge 93, 3) := by decide +kernel
theorem dX7_finds_72 : decode cX7_finds 72 = .ok (.iconst 0, 1) := by decide +kernel
theorem dX7_finds_73 : decode cX7_finds 73 = .ok (.istore_n 3, 1) := by decide +kernel
theorem dX7_finds_74 : decode cX7_finds 74 = .ok (.iload_n 3, 1) := by decide +kernel
theorem dX7_finds_75 : decode cX7_finds 75 = .ok (.sipush 1120, 3) := by decide +kernel
theorem dX7_finds_78 : decode cX7_finds 78 = .ok (.if_icmp .ge 78, 3) := by decide +kernel
theorem dX7_finds_81 : decode cX7_finds 81 = .ok (.aload_n 0, 1) := by decide +kernel
theorem dX7_finds_82 : decode cX7_finds 82 = .ok (.getfield 104, 3) := by decide +kernel
theorem dX7_finds_85 : decode cX7_finds 85 = .ok (.iload_n 2, 1) := by decide +kernel
theorem dX7_finds_86 : decode cX7_finds 86 = .ok (.sipush 1120, 3) := by decide +kernel
theorem dX7_finds_89 : decode cX7_finds 89 = .ok (.imul, 1) := by decide +kernel
theorem dX7_finds_90 : decode cX7_finds 90 = .ok (.iload_n 3, 1) := by decide +kernel
theorem dX7_finds_91 : decode cX7_finds 91 = .ok (.iadd, 1) := by decide +kernel
theorem dX7_finds_92 : decode cX7_finds 92 = .ok (.baload, 1) := by decide +kernel
theorem dX7_finds_93 : decode cX7_finds 93 = .ok (.ifCond .ne 6, 3) := by decide +kernel
theorem dX7_finds_96 : decode cX7_finds 96 = .ok (.goto 54, 3) := by decide +kernel
theorem dX7_finds_99 : decode cX7_finds 99 = .ok (.iconst (-1), 1) := by decide +kernel
theorem dX7_finds_100 : decode cX7_finds 100 = .ok (.istore 4, 2) := by decide +kernel
theorem dX7_finds_102 : decode cX7_finds 102 = .ok (.iload 4, 2) := by decide +kernel
theorem dX7_finds_104 : decode cX7_finds 104 = .ok (.aload_n 0, 1) := by decide +kernel
theorem dX7_finds_105 : decode cX7_finds 105 = .ok (.getfield 250, 3) := by decide +kernel
theorem dX7_finds_108 : decode cX7_finds 108 = .ok (.if_icmp .ge 42, 3) := by decide +kernel
theorem dX7_finds_111 : decode cX7_finds 111 = .ok (.aload_n 0, 1) := by decide +kernel
theorem dX7_finds_112 : decode cX7_finds 112 = .ok (.iload_n 2, 1) := by decide +kernel
theorem dX7_finds_113 : decode cX7_finds 113 = .ok (.iload_n 3, 1) := by decide +kernel
theorem dX7_finds_114 : decode cX7_finds 114 = .ok (.iload 4, 2) := by decide +kernel
theorem dX7_finds_116 : decode cX7_finds 116 = .ok (.invokevirtual 310, 3) := by decide +kernel
theorem dX7_finds_119 : decode cX7_finds 119 = .ok (.istore 5, 2) := by decide +kernel
theorem dX7_finds_121 : decode cX7_finds 121 = .ok (.iload 5, 2) := by decide +kernel
theorem dX7_finds_123 : decode cX7_finds 123 = .ok (.iconst (-1), 1) := by decide +kernel
theorem dX7_finds_124 : decode cX7_finds 124 = .ok (.if_icmp .eq 20, 3) := by decide +kernel
theorem dX7_finds_127 : decode cX7_finds 127 = .ok (.aload_n 0, 1) := by decide +kernel
theorem dX7_finds_128 : decode cX7_finds 128 = .ok (.getfield 104, 3) := by decide +kernel
theorem dX7_finds_131 : decode cX7_finds 131 = .ok (.aload_n 0, 1) := by decide +kernel
theorem dX7_finds_132 : decode cX7_finds 132 = .ok (.getfield 297, 3) := by decide +kernel
theorem dX7_finds_135 : decode cX7_finds 135 = .ok (.sipush 1120, 3) := by decide +kernel
theorem dX7_finds_138 : decode cX7_finds 138 = .ok (.imul, 1) := by decide +kernel
theorem dX7_finds_139 : decode cX7_finds 139 = .ok (.iload 5, 2) := by decide +kernel
theorem dX7_finds_141 : decode cX7_finds 141 = .ok (.iadd, 1) := by decide +kernel
theorem dX7_finds_142 : decode cX7_finds 142 = .ok (.iconst 1, 1) := by decide +kernel
theorem dX7_finds_143 : decode cX7_finds 143 = .ok (.bastore, 1) := by decide +kernel
theorem dX7_finds_144 : decode cX7_finds 144 = .ok (.iinc 4 1, 3) := by decide +kernel
theorem dX7_finds_147 : decode cX7_finds 147 = .ok (.goto (-45), 3) := by decide +kernel
theorem dX7_finds_150 : decode cX7_finds 150 = .ok (.iinc 3 1, 3) := by decide +kernel
theorem dX7_finds_153 : decode cX7_finds 153 = .ok (.goto (-79), 3) := by decide +kernel
theorem dX7_finds_156 : decode cX7_finds 156 = .ok (.iinc 2 1, 3) := by decide +kernel
theorem dX7_finds_159 : decode cX7_finds 159 = .ok (.goto (-100), 3) := by decide +kernel
theorem dX7_finds_162 : decode cX7_finds 162 = .ok (.iconst 0, 1) := by decide +kernel
theorem dX7_finds_163 : decode cX7_finds 163 = .ok (.istore_n 2, 1) := by decide +kernel
theorem dX7_finds_164 : decode cX7_finds 164 = .ok (.iload_n 2, 1) := by decide +kernel
theorem dX7_finds_165 : decode cX7_finds 165 = .ok (.sipush 1120, 3) := by decide +kernel
theorem dX7_finds_168 : decode cX7_finds 168 = .ok (.if_icmp .ge 42, 3) := by decide +kernel
theorem dX7_finds_171 : decode cX7_finds 171 = .ok (.aload_n 0, 1) := by decide +kernel
theorem dX7_finds_172 : decode cX7_finds 172 = .ok (.getfield 104, 3) := by decide +kernel
theorem dX7_finds_175 : decode cX7_finds 175 = .ok (.aload_n 0, 1) := by decide +kernel
theorem dX7_finds_176 : decode cX7_finds 176 = .ok (.getfield 51, 3) := by decide +kernel
theorem dX7_finds_179 : decode cX7_finds 179 = .ok (.aload_n 0, 1) := by decide +kernel
theorem dX7_finds_180 : decode cX7_finds 180 = .ok (.getfield 279, 3) := by decide +kernel
theorem dX7_finds_183 : decode cX7_finds 183 = .ok (.iaload, 1) := by decide +kernel
theorem dX7_finds_184 : decode cX7_finds 184 = .ok (.sipush 1120, 3) := by decide +kernel
theorem dX7_finds_187 : decode cX7_finds 187 = .ok (.imul, 1) := by decide +kernel
theorem dX7_finds_188 : decode cX7_finds 188 = .ok (.iload_n 2, 1) := by decide +kernel
theorem dX7_finds_189 : decode cX7_finds 189 = .ok (.iadd, 1) := by decide +kernel
theorem dX7_finds_190 : decode cX7_finds 190 = .ok (.baload, 1) := by decide +kernel
theorem dX7_finds_191 : decode cX7_finds 191 = .ok (.ifCond .eq 13, 3) := by decide +kernel
theorem dX7_finds_194 : decode cX7_finds 194 = .ok (.aload_n 0, 1) := by decide +kernel
theorem dX7_finds_195 : decode cX7_finds 195 = .ok (.iload_n 2, 1) := by decide +kernel
theorem dX7_finds_196 : decode cX7_finds 196 = .ok (.invokevirtual 314, 3) := by decide +kernel
theorem dX7_finds_199 : decode cX7_finds 199 = .ok (.ifCond .eq 5, 3) := by decide +kernel
theorem dX7_finds_202 : decode cX7_finds 202 = .ok (.iconst 1, 1) := by decide +kernel
theorem dX7_finds_203 : decode cX7_finds 203 = .ok (.ireturn, 1) := by decide +kernel
theorem dX7_finds_204 : decode cX7_finds 204 = .ok (.iinc 2 1, 3) := by decide +kernel
theorem dX7_finds_207 : decode cX7_finds 207 = .ok (.goto (-43), 3) := by decide +kernel
theorem dX7_finds_210 : decode cX7_finds 210 = .ok (.iconst 0, 1) := by decide +kernel
theorem dX7_finds_211 : decode cX7_finds 211 = .ok (.ireturn, 1) := by decide +kernel
theorem dX7_counts_0 : decode cX7_counts 0 = .ok (.aload_n 0, 1) := by decide +kernel
theorem dX7_counts_1 : decode cX7_counts 1 = .ok (.invokevirtual 317, 3) := by decide +kernel
theorem dX7_counts_4 : decode cX7_counts 4 = .ok (.ifCond .ne 5, 3) := by decide +kernel
theorem dX7_counts_7 : decode cX7_counts 7 = .ok (.iconst 0, 1) := by decide +kernel
theorem dX7_counts_8 : decode cX7_counts 8 = .ok (.ireturn, 1) := by decide +kernel
theorem dX7_counts_9 : decode cX7_counts 9 = .ok (.aload_n 0, 1) := by decide +kernel
theorem dX7_counts_10 : decode cX7_counts 10 = .ok (.getfield 51, 3) := by decide +kernel
theorem dX7_counts_13 : decode cX7_counts 13 = .ok (.aload_n 0, 1) := by decide +kernel
theorem dX7_counts_14 : decode cX7_counts 14 = .ok (.getfield 279, 3) := by decide +kernel
theorem dX7_counts_17 : decode cX7_counts 17 = .ok (.iaload, 1) := by decide +kernel
theorem dX7_counts_18 : decode cX7_counts 18 = .ok (.istore_n 1, 1) := by decide +kernel
theorem dX7_counts_19 : decode cX7_counts 19 = .ok (.iload_n 1, 1) := by decide +kernel
theorem dX7_counts_20 : decode cX7_counts 20 = .ok (.ifCond .lt 177, 3) := by decide +kernel
theorem dX7_counts_23 : decode cX7_counts 23 = .ok (.iconst 0, 1) := by decide +kernel
theorem dX7_counts_24 : decode cX7_counts 24 = .ok (.istore_n 2, 1) := by decide +kernel
theorem dX7_counts_25 : decode cX7_counts 25 = .ok (.iload_n 2, 1) := by decide +kernel
theorem dX7_counts_26 : decode cX7_counts 26 = .ok (.sipush 1120, 3) := by decide +kernel
theorem dX7_counts_29 : decode cX7_counts 29 = .ok (.if_icmp .ge 162, 3) := by decide +kernel
theorem dX7_counts_32 : decode cX7_counts 32 = .ok (.iload_n 1, 1) := by decide +kernel
theorem dX7_counts_33 : decode cX7_counts 33 = .ok (.sipush 1120, 3) := by decide +kernel
theorem dX7_counts_36 : decode cX7_counts 36 = .ok (.imul, 1) := by decide +kernel
theorem dX7_counts_37 : decode cX7_counts 37 = .ok (.iload_n 2, 1) := by decide +kernel
theorem dX7_counts_38 : decode cX7_counts 38 = .ok (.iadd, 1) := by decide +kernel
theorem dX7_counts_39 : decode cX7_counts 39 = .ok (.istore_n 3, 1) := by decide +kernel
theorem dX7_counts_40 : decode cX7_counts 40 = .ok (.aload_n 0, 1) := by decide +kernel
theorem dX7_counts_41 : decode cX7_counts 41 = .ok (.getfield 98, 3) := by decide +kernel
theorem dX7_counts_44 : decode cX7_counts 44 = .ok (.iload_n 3, 1) := by decide +kernel
theorem dX7_counts_45 : decode cX7_counts 45 = .ok (.iconst 0, 1) := by decide +kernel
theorem dX7_counts_46 : decode cX7_counts 46 = .ok (.iastore, 1) := by decide +kernel
theorem dX7_counts_47 : decode cX7_counts 47 = .ok (.aload_n 0, 1) := by decide +kernel
theorem dX7_counts_48 : decode cX7_counts 48 = .ok (.getfield 104, 3) := by decide +kernel
theorem dX7_counts_51 : decode cX7_counts 51 = .ok (.iload_n 3, 1) := by decide +kernel
theorem dX7_counts_52 : decode cX7_counts 52 = .ok (.baload, 1) := by decide +kernel
theorem dX7_counts_53 : decode cX7_counts 53 = .ok (.ifCond .ne 6, 3) := by decide +kernel
theorem dX7_counts_56 : decode cX7_counts 56 = .ok (.goto 129, 3) := by decide +kernel
theorem dX7_counts_59 : decode cX7_counts 59 = .ok (.iload_n 1, 1) := by decide +kernel
theorem dX7_counts_60 : decode cX7_counts 60 = .ok (.aload_n 0, 1) := by decide +kernel
theorem dX7_counts_61 : decode cX7_counts 61 = .ok (.getfield 51, 3) := by decide +kernel
theorem dX7_counts_64 : decode cX7_counts 64 = .ok (.aload_n 0, 1) := by decide +kernel
theorem dX7_counts_65 : decode cX7_counts 65 = .ok (.getfield 279, 3) := by decide +kernel
theorem dX7_counts_68 : decode cX7_counts 68 = .ok (.iaload, 1) := by decide +kernel
theorem dX7_counts_69 : decode cX7_counts 69 = .ok (.if_icmp .ne 25, 3) := by decide +kernel
theorem dX7_counts_72 : decode cX7_counts 72 = .ok (.aload_n 0, 1) := by decide +kernel
theorem dX7_counts_73 : decode cX7_counts 73 = .ok (.getfield 98, 3) := by decide +kernel
theorem dX7_counts_76 : decode cX7_counts 76 = .ok (.iload_n 3, 1) := by decide +kernel
theorem dX7_counts_77 : decode cX7_counts 77 = .ok (.aload_n 0, 1) := by decide +kernel
theorem dX7_counts_78 : decode cX7_counts 78 = .ok (.iload_n 2, 1) := by decide +kernel
theorem dX7_counts_79 : decode cX7_counts 79 = .ok (.invokevirtual 314, 3) := by decide +kernel
theorem dX7_counts_82 : decode cX7_counts 82 = .ok (.ifCond .eq 7, 3) := by decide +kernel
theorem dX7_counts_85 : decode cX7_counts 85 = .ok (.iconst 1, 1) := by decide +kernel
theorem dX7_counts_86 : decode cX7_counts 86 = .ok (.goto 4, 3) := by decide +kernel
theorem dX7_counts_89 : decode cX7_counts 89 = .ok (.iconst 0, 1) := by decide +kernel
theorem dX7_counts_90 : decode cX7_counts 90 = .ok (.iastore, 1) := by decide +kernel
theorem dX7_counts_91 : decode cX7_counts 91 = .ok (.goto 94, 3) := by decide +kernel
theorem dX7_counts_94 : decode cX7_counts 94 = .ok (.iconst (-1), 1) := by decide +kernel
theorem dX7_counts_95 : decode cX7_counts 95 = .ok (.istore 4, 2) := by decide +kernel
theorem dX7_counts_97 : decode cX7_counts 97 = .ok (.iload 4, 2) := by decide +kernel
theorem dX7_counts_99 : decode cX7_counts 99 = .ok (.aload_n 0, 1) := by decide +kernel
theorem dX7_counts_100 : decode cX7_counts 100 = .ok (.getfield 250, 3) := by decide +kernel
theorem dX7_counts_103 : decode cX7_counts 103 = .ok (.if_icmp .ge 82, 3) := by decide +kernel
theorem dX7_counts_106 : decode cX7_counts 106 = .ok (.aload_n 0, 1) := by decide +kernel
theorem dX7_counts_107 : decode cX7_counts 107 = .ok (.iload_n 1, 1) := by decide +kernel
theorem dX7_counts_108 : decode cX7_counts 108 = .ok (.iload_n 2, 1) := by decide +kernel
theorem dX7_counts_109 : decode cX7_counts 109 = .ok (.iload 4, 2) := by decide +kernel
theorem dX7_counts_111 : decode cX7_counts 111 = .ok (.invokevirtual 310, 3) := by decide +kernel
theorem dX7_counts_114 : decode cX7_counts 114 = .ok (.istore 5, 2) := by decide +kernel
theorem dX7_counts_116 : decode cX7_counts 116 = .ok (.iload 5, 2) := by decide +kernel
theorem dX7_counts_118 : decode cX7_counts 118 = .ok (.iconst (-1), 1) := by decide +kernel
theorem dX7_counts_119 : decode cX7_counts 119 = .ok (.if_icmp .ne 6, 3) := by decide +kernel
theorem dX7_counts_122 : decode cX7_counts 122 = .ok (.goto 57, 3) := by decide +kernel
theorem dX7_counts_125 : decode cX7_counts 125 = .ok (.aload_n 0, 1) := by decide +kernel
theorem dX7_counts_126 : decode cX7_counts 126 = .ok (.getfield 98, 3) := by decide +kernel
theorem dX7_counts_129 : decode cX7_counts 129 = .ok (.aload_n 0, 1) := by decide +kernel
theorem dX7_counts_130 : decode cX7_counts 130 = .ok (.getfield 297, 3) := by decide +kernel
theorem dX7_counts_133 : decode cX7_counts 133 = .ok (.sipush 1120, 3) := by decide +kernel
theorem dX7_counts_136 : decode cX7_counts 136 = .ok (.imul, 1) := by decide +kernel
theorem dX7_counts_137 : decode cX7_counts 137 = .ok (.iload 5, 2) := by decide +kernel
theorem dX7_counts_139 : decode cX7_counts 139 = .ok (.iadd, 1) := by decide +kernel
theorem dX7_counts_140 : decode cX7_counts 140 = .ok (.iaload, 1) := by decide +kernel
theorem dX7_counts_141 : decode cX7_counts 141 = .ok (.istore 6, 2) := by decide +kernel
theorem dX7_counts_143 : decode cX7_counts 143 = .ok (.aload_n 0, 1) := by decide +kernel
theorem dX7_counts_144 : decode cX7_counts 144 = .ok (.getfield 98, 3) := by decide +kernel
theorem dX7_counts_147 : decode cX7_counts 147 = .ok (.iload_n 3, 1) := by decide +kernel
theorem dX7_counts_148 : decode cX7_counts 148 = .ok (.aload_n 0, 1) := by decide +kernel
theorem dX7_counts_149 : decode cX7_counts 149 = .ok (.getfield 98, 3) := by decide +kernel
theorem dX7_counts_152 : decode cX7_counts 152 = .ok (.iload_n 3, 1) := by decide +kernel
theorem dX7_counts_153 : decode cX7_counts 153 = .ok (.iaload, 1) := by decide +kernel
theorem dX7_counts_154 : decode cX7_counts 154 = .ok (.ldc_w 320, 3) := by decide +kernel
theorem dX7_counts_157 : decode cX7_counts 157 = .ok (.iload 6, 2) := by decide +kernel
theorem dX7_counts_159 : decode cX7_counts 159 = .ok (.isub, 1) := by decide +kernel
theorem dX7_counts_160 : decode cX7_counts 160 = .ok (.if_icmp .le 9, 3) := by decide +kernel
theorem dX7_counts_163 : decode cX7_counts 163 = .ok (.ldc_w 320, 3) := by decide +kernel
theorem dX7_counts_166 : decode cX7_counts 166 = .ok (.goto 12, 3) := by decide +kernel
theorem dX7_counts_169 : decode cX7_counts 169 = .ok (.aload_n 0, 1) := by decide +kernel
theorem dX7_counts_170 : decode cX7_counts 170 = .ok (.getfield 98, 3) := by decide +kernel
theorem dX7_counts_173 : decode cX7_counts 173 = .ok (.iload_n 3, 1) := by decide +kernel
theorem dX7_counts_174 : decode cX7_counts 174 = .ok (.iaload, 1) := by decide +kernel
theorem dX7_counts_175 : decode cX7_counts 175 = .ok (.iload 6, 2) := by decide +kernel
theorem dX7_counts_177 : decode cX7_counts 177 = .ok (.iadd, 1) := by decide +kernel
theorem dX7_counts_178 : decode cX7_counts 178 = .ok (.iastore, 1) := by decide +kernel
theorem dX7_counts_179 : decode cX7_counts 179 = .ok (.iinc 4 1, 3) := by decide +kernel
theorem dX7_counts_182 : decode cX7_counts 182 = .ok (.goto (-85), 3) := by decide +kernel
theorem dX7_counts_185 : decode cX7_counts 185 = .ok (.iinc 2 1, 3) := by decide +kernel
theorem dX7_counts_188 : decode cX7_counts 188 = .ok (.goto (-163), 3) := by decide +kernel
theorem dX7_counts_191 : decode cX7_counts 191 = .ok (.iinc 1 (-1), 3) := by decide +kernel
theorem dX7_counts_194 : decode cX7_counts 194 = .ok (.goto (-175), 3) := by decide +kernel
theorem dX7_counts_197 : decode cX7_counts 197 = .ok (.aload_n 0, 1) := by decide +kernel
theorem dX7_counts_198 : decode cX7_counts 198 = .ok (.getfield 98, 3) := by decide +kernel
theorem dX7_counts_201 : decode cX7_counts 201 = .ok (.aload_n 0, 1) := by decide +kernel
theorem dX7_counts_202 : decode cX7_counts 202 = .ok (.invokevirtual 307, 3) := by decide +kernel
theorem dX7_counts_205 : decode cX7_counts 205 = .ok (.iaload, 1) := by decide +kernel
theorem dX7_counts_206 : decode cX7_counts 206 = .ok (.ireturn, 1) := by decide +kernel
theorem dX7_ways_0 : decode cX7_ways 0 = .ok (.aload_n 0, 1) := by decide +kernel
theorem dX7_ways_1 : decode cX7_ways 1 = .ok (.iload_n 1, 1) := by decide +kernel
theorem dX7_ways_2 : decode cX7_ways 2 = .ok (.invokevirtual 256, 3) := by decide +kernel
theorem dX7_ways_5 : decode cX7_ways 5 = .ok (.ifCond .ne 5, 3) := by decide +kernel
theorem dX7_ways_8 : decode cX7_ways 8 = .ok (.iconst (-1), 1) := by decide +kernel
theorem dX7_ways_9 : decode cX7_ways 9 = .ok (.ireturn, 1) := by decide +kernel
theorem dX7_ways_10 : decode cX7_ways 10 = .ok (.aload_n 0, 1) := by decide +kernel
theorem dX7_ways_11 : decode cX7_ways 11 = .ok (.iload_n 1, 1) := by decide +kernel
theorem dX7_ways_12 : decode cX7_ways 12 = .ok (.iconst 0, 1) := by decide +kernel
theorem dX7_ways_13 : decode cX7_ways 13 = .ok (.invokevirtual 321, 3) := by decide +kernel
theorem dX7_ways_16 : decode cX7_ways 16 = .ok (.aload_n 0, 1) := by decide +kernel
theorem dX7_ways_17 : decode cX7_ways 17 = .ok (.invokevirtual 325, 3) := by decide +kernel
theorem dX7_ways_20 : decode cX7_ways 20 = .ok (.ireturn, 1) := by decide +kernel
theorem dX7_mayBits_0 : decode cX7_mayBits 0 = .ok (.aload_n 0, 1) := by decide +kernel
theorem dX7_mayBits_1 : decode cX7_mayBits 1 = .ok (.iload_n 1, 1) := by decide +kernel
theorem dX7_mayBits_2 : decode cX7_mayBits 2 = .ok (.iconst 0, 1) := by decide +kernel
theorem dX7_mayBits_3 : decode cX7_mayBits 3 = .ok (.invokevirtual 321, 3) := by decide +kernel
theorem dX7_mayBits_6 : decode cX7_mayBits 6 = .ok (.aload_n 0, 1) := by decide +kernel
theorem dX7_mayBits_7 : decode cX7_mayBits 7 = .ok (.invokevirtual 325, 3) := by decide +kernel
theorem dX7_mayBits_10 : decode cX7_mayBits 10 = .ok (.ifCond .ne 5, 3) := by decide +kernel
theorem dX7_mayBits_13 : decode cX7_mayBits 13 = .ok (.iconst 0, 1) := by decide +kernel
theorem dX7_mayBits_14 : decode cX7_mayBits 14 = .ok (.ireturn, 1) := by decide +kernel
theorem dX7_mayBits_15 : decode cX7_mayBits 15 = .ok (.iconst 0, 1) := by decide +kernel
theorem dX7_mayBits_16 : decode cX7_mayBits 16 = .ok (.istore_n 3, 1) := by decide +kernel
theorem dX7_mayBits_17 : decode cX7_mayBits 17 = .ok (.iconst 0, 1) := by decide +kernel
theorem dX7_mayBits_18 : decode cX7_mayBits 18 = .ok (.istore 4, 2) := by decide +kernel
theorem dX7_mayBits_20 : decode cX7_mayBits 20 = .ok (.iload 4, 2) := by decide +kernel
theorem dX7_mayBits_22 : decode cX7_mayBits 22 = .ok (.sipush 1120, 3) := by decide +kernel
theorem dX7_mayBits_25 : decode cX7_mayBits 25 = .ok (.if_icmp .ge 52, 3) := by decide +kernel
theorem dX7_mayBits_28 : decode cX7_mayBits 28 = .ok (.aload_n 0, 1) := by decide +kernel
theorem dX7_mayBits_29 : decode cX7_mayBits 29 = .ok (.getfield 104, 3) := by decide +kernel
theorem dX7_mayBits_32 : decode cX7_mayBits 32 = .ok (.iload_n 2, 1) := by decide +kernel
theorem dX7_mayBits_33 : decode cX7_mayBits 33 = .ok (.sipush 1120, 3) := by decide +kernel
theorem dX7_mayBits_36 : decode cX7_mayBits 36 = .ok (.imul, 1) := by decide +kernel
theorem dX7_mayBits_37 : decode cX7_mayBits 37 = .ok (.iload 4, 2) := by decide +kernel
theorem dX7_mayBits_39 : decode cX7_mayBits 39 = .ok (.iadd, 1) := by decide +kernel
theorem dX7_mayBits_40 : decode cX7_mayBits 40 = .ok (.baload, 1) := by decide +kernel
theorem dX7_mayBits_41 : decode cX7_mayBits 41 = .ok (.ifCond .eq 30, 3) := by decide +kernel
theorem dX7_mayBits_44 : decode cX7_mayBits 44 = .ok (.aload_n 0, 1) := by decide +kernel
theorem dX7_mayBits_45 : decode cX7_mayBits 45 = .ok (.getfield 98, 3) := by decide +kernel
theorem dX7_mayBits_48 : decode cX7_mayBits 48 = .ok (.iload_n 2, 1) := by decide +kernel
theorem dX7_mayBits_49 : decode cX7_mayBits 49 = .ok (.sipush 1120, 3) := by decide +kernel
theorem dX7_mayBits_52 : decode cX7_mayBits 52 = .ok (.imul, 1) := by decide +kernel
theorem dX7_mayBits_53 : decode cX7_mayBits 53 = .ok (.iload 4, 2) := by decide +kernel
theorem dX7_mayBits_55 : decode cX7_mayBits 55 = .ok (.iadd, 1) := by decide +kernel
theorem dX7_mayBits_56 : decode cX7_mayBits 56 = .ok (.iaload, 1) := by decide +kernel
theorem dX7_mayBits_57 : decode cX7_mayBits 57 = .ok (.ifCond .le 14, 3) := by decide +kernel
theorem dX7_mayBits_60 : decode cX7_mayBits 60 = .ok (.iload_n 3, 1) := by decide +kernel
theorem dX7_mayBits_61 : decode cX7_mayBits 61 = .ok (.iconst 1, 1) := by decide +kernel
theorem dX7_mayBits_62 : decode cX7_mayBits 62 = .ok (.iload 4, 2) := by decide +kernel
theorem dX7_mayBits_64 : decode cX7_mayBits 64 = .ok (.sipush 140, 3) := by decide +kernel
theorem dX7_mayBits_67 : decode cX7_mayBits 67 = .ok (.idiv, 1) := by decide +kernel
theorem dX7_mayBits_68 : decode cX7_mayBits 68 = .ok (.ishl, 1) := by decide +kernel
theorem dX7_mayBits_69 : decode cX7_mayBits 69 = .ok (.ior, 1) := by decide +kernel
theorem dX7_mayBits_70 : decode cX7_mayBits 70 = .ok (.istore_n 3, 1) := by decide +kernel
theorem dX7_mayBits_71 : decode cX7_mayBits 71 = .ok (.iinc 4 1, 3) := by decide +kernel
theorem dX7_mayBits_74 : decode cX7_mayBits 74 = .ok (.goto (-54), 3) := by decide +kernel
theorem dX7_mayBits_77 : decode cX7_mayBits 77 = .ok (.iconst 0, 1) := by decide +kernel
theorem dX7_mayBits_78 : decode cX7_mayBits 78 = .ok (.istore 4, 2) := by decide +kernel
theorem dX7_mayBits_80 : decode cX7_mayBits 80 = .ok (.iload 4, 2) := by decide +kernel
theorem dX7_mayBits_82 : decode cX7_mayBits 82 = .ok (.iload_n 2, 1) := by decide +kernel
theorem dX7_mayBits_83 : decode cX7_mayBits 83 = .ok (.if_icmp .ge 122, 3) := by decide +kernel
theorem dX7_mayBits_86 : decode cX7_mayBits 86 = .ok (.iconst 0, 1) := by decide +kernel
theorem dX7_mayBits_87 : decode cX7_mayBits 87 = .ok (.istore 5, 2) := by decide +kernel
theorem dX7_mayBits_89 : decode cX7_mayBits 89 = .ok (.iload 5, 2) := by decide +kernel
theorem dX7_mayBits_91 : decode cX7_mayBits 91 = .ok (.sipush 1120, 3) := by decide +kernel
theorem dX7_mayBits_94 : decode cX7_mayBits 94 = .ok (.if_icmp .ge 105, 3) := by decide +kernel
theorem dX7_mayBits_97 : decode cX7_mayBits 97 = .ok (.iload_n 3, 1) := by decide +kernel
theorem dX7_mayBits_98 : decode cX7_mayBits 98 = .ok (.sipush 256, 3) := by decide +kernel
theorem dX7_mayBits_101 : decode cX7_mayBits 101 = .ok (.if_icmp .ge 98, 3) := by decide +kernel
theorem dX7_mayBits_104 : decode cX7_mayBits 104 = .ok (.aload_n 0, 1) := by decide +kernel
theorem dX7_mayBits_105 : decode cX7_mayBits 105 = .ok (.getfield 104, 3) := by decide +kernel
theorem dX7_mayBits_108 : decode cX7_mayBits 108 = .ok (.iload 4, 2) := by decide +kernel
theorem dX7_mayBits_110 : decode cX7_mayBits 110 = .ok (.sipush 1120, 3) := by decide +kernel
theorem dX7_mayBits_113 : decode cX7_mayBits 113 = .ok (.imul, 1) := by decide +kernel
theorem dX7_mayBits_114 : decode cX7_mayBits 114 = .ok (.iload 5, 2) := by decide +kernel
theorem dX7_mayBits_116 : decode cX7_mayBits 116 = .ok (.iadd, 1) := by decide +kernel
theorem dX7_mayBits_117 : decode cX7_mayBits 117 = .ok (.baload, 1) := by decide +kernel
theorem dX7_mayBits_118 : decode cX7_mayBits 118 = .ok (.ifCond .ne 6, 3) := by decide +kernel
theorem dX7_mayBits_121 : decode cX7_mayBits 121 = .ok (.goto 72, 3) := by decide +kernel
theorem dX7_mayBits_124 : decode cX7_mayBits 124 = .ok (.iconst 0, 1) := by decide +kernel
theorem dX7_mayBits_125 : decode cX7_mayBits 125 = .ok (.istore 6, 2) := by decide +kernel
theorem dX7_mayBits_127 : decode cX7_mayBits 127 = .ok (.iload 6, 2) := by decide +kernel
theorem dX7_mayBits_129 : decode cX7_mayBits 129 = .ok (.aload_n 0, 1) := by decide +kernel
theorem dX7_mayBits_130 : decode cX7_mayBits 130 = .ok (.getfield 250, 3) := by decide +kernel
theorem dX7_mayBits_133 : decode cX7_mayBits 133 = .ok (.if_icmp .ge 60, 3) := by decide +kernel
theorem dX7_mayBits_136 : decode cX7_mayBits 136 = .ok (.aload_n 0, 1) := by decide +kernel
theorem dX7_mayBits_137 : decode cX7_mayBits 137 = .ok (.iload 4, 2) := by decide +kernel
theorem dX7_mayBits_139 : decode cX7_mayBits 139 = .ok (.iload 5, 2) := by decide +kernel
theorem dX7_mayBits_141 : decode cX7_mayBits 141 = .ok (.iload 6, 2) := by decide +kernel
theorem dX7_mayBits_143 : decode cX7_mayBits 143 = .ok (.invokevirtual 310, 3) := by decide +kernel
theorem dX7_mayBits_146 : decode cX7_mayBits 146 = .ok (.istore 7, 2) := by decide +kernel
theorem dX7_mayBits_148 : decode cX7_mayBits 148 = .ok (.iload 7, 2) := by decide +kernel
theorem dX7_mayBits_150 : decode cX7_mayBits 150 = .ok (.iconst (-1), 1) := by decide +kernel
theorem dX7_mayBits_151 : decode cX7_mayBits 151 = .ok (.if_icmp .eq 36, 3) := by decide +kernel
theorem dX7_mayBits_154 : decode cX7_mayBits 154 = .ok (.aload_n 0, 1) := by decide +kernel
theorem dX7_mayBits_155 : decode cX7_mayBits 155 = .ok (.getfield 297, 3) := by decide +kernel
theorem dX7_mayBits_158 : decode cX7_mayBits 158 = .ok (.iload_n 2, 1) := by decide +kernel
theorem dX7_mayBits_159 : decode cX7_mayBits 159 = .ok (.if_icmp .le 28, 3) := by decide +kernel
theorem dX7_mayBits_162 : decode cX7_mayBits 162 = .ok (.aload_n 0, 1) := by decide +kernel
theorem dX7_mayBits_163 : decode cX7_mayBits 163 = .ok (.getfield 98, 3) := by decide +kernel
theorem dX7_mayBits_166 : decode cX7_mayBits 166 = .ok (.aload_n 0, 1) := by decide +kernel
theorem dX7_mayBits_167 : decode cX7_mayBits 167 = .ok (.getfield 297, 3) := by decide +kernel
theorem dX7_mayBits_170 : decode cX7_mayBits 170 = .ok (.sipush 1120, 3) := by decide +kernel
theorem dX7_mayBits_173 : decode cX7_mayBits 173 = .ok (.imul, 1) := by decide +kernel
theorem dX7_mayBits_174 : decode cX7_mayBits 174 = .ok (.iload 7, 2) := by decide +kernel
theorem dX7_mayBits_176 : decode cX7_mayBits 176 = .ok (.iadd, 1) := by decide +kernel
theorem dX7_mayBits_177 : decode cX7_mayBits 177 = .ok (.iaload, 1) := by decide +kernel
theorem dX7_mayBits_178 : decode cX7_mayBits 178 = .ok (.ifCond .le 9, 3) := by decide +kernel
theorem dX7_mayBits_181 : decode cX7_mayBits 181 = .ok (.iload_n 3, 1) := by decide +kernel
theorem dX7_mayBits_182 : decode cX7_mayBits 182 = .ok (.sipush 256, 3) := by decide +kernel
theorem dX7_mayBits_185 : decode cX7_mayBits 185 = .ok (.ior, 1) := by decide +kernel
theorem dX7_mayBits_186 : decode cX7_mayBits 186 = .ok (.istore_n 3, 1) := by decide +kernel
theorem dX7_mayBits_187 : decode cX7_mayBits 187 = .ok (.iinc 6 1, 3) := by decide +kernel
theorem dX7_mayBits_190 : decode cX7_mayBits 190 = .ok (.goto (-63), 3) := by decide +kernel
theorem dX7_mayBits_193 : decode cX7_mayBits 193 = .ok (.iinc 5 1, 3) := by decide +kernel
theorem dX7_mayBits_196 : decode cX7_mayBits 196 = .ok (.goto (-107), 3) := by decide +kernel
theorem dX7_mayBits_199 : decode cX7_mayBits 199 = .ok (.iinc 4 1, 3) := by decide +kernel
theorem dX7_mayBits_202 : decode cX7_mayBits 202 = .ok (.goto (-122), 3) := by decide +kernel
theorem dX7_mayBits_205 : decode cX7_mayBits 205 = .ok (.iload_n 3, 1) := by decide +kernel
theorem dX7_mayBits_206 : decode cX7_mayBits 206 = .ok (.ireturn, 1) := by decide +kernel
theorem dX7_ones_0 : decode cX7_ones 0 = .ok (.iconst 0, 1) := by decide +kernel
theorem dX7_ones_1 : decode cX7_ones 1 = .ok (.istore_n 1, 1) := by decide +kernel
theorem dX7_ones_2 : decode cX7_ones 2 = .ok (.iconst 0, 1) := by decide +kernel
theorem dX7_ones_3 : decode cX7_ones 3 = .ok (.istore_n 2, 1) := by decide +kernel
theorem dX7_ones_4 : decode cX7_ones 4 = .ok (.iload_n 2, 1) := by decide +kernel
theorem dX7_ones_5 : decode cX7_ones 5 = .ok (.bipush 16, 2) := by decide +kernel
theorem dX7_ones_7 : decode cX7_ones 7 = .ok (.if_icmp .ge 17, 3) := by decide +kernel
theorem dX7_ones_10 : decode cX7_ones 10 = .ok (.iload_n 1, 1) := by decide +kernel
theorem dX7_ones_11 : decode cX7_ones 11 = .ok (.iload_n 0, 1) := by decide +kernel
theorem dX7_ones_12 : decode cX7_ones 12 = .ok (.iload_n 2, 1) := by decide +kernel
theorem dX7_ones_13 : decode cX7_ones 13 = .ok (.ishr, 1) := by decide +kernel
theorem dX7_ones_14 : decode cX7_ones 14 = .ok (.iconst 1, 1) := by decide +kernel
theorem dX7_ones_15 : decode cX7_ones 15 = .ok (.iand, 1) := by decide +kernel
theorem dX7_ones_16 : decode cX7_ones 16 = .ok (.iadd, 1) := by decide +kernel
theorem dX7_ones_17 : decode cX7_ones 17 = .ok (.istore_n 1, 1) := by decide +kernel
theorem dX7_ones_18 : decode cX7_ones 18 = .ok (.iinc 2 1, 3) := by decide +kernel
theorem dX7_ones_21 : decode cX7_ones 21 = .ok (.goto (-17), 3) := by decide +kernel
theorem dX7_ones_24 : decode cX7_ones 24 = .ok (.iload_n 1, 1) := by decide +kernel
theorem dX7_ones_25 : decode cX7_ones 25 = .ok (.ireturn, 1) := by decide +kernel
theorem dX7_may_0 : decode cX7_may 0 = .ok (.aload_n 0, 1) := by decide +kernel
theorem dX7_may_1 : decode cX7_may 1 = .ok (.iload_n 1, 1) := by decide +kernel
theorem dX7_may_2 : decode cX7_may 2 = .ok (.invokevirtual 256, 3) := by decide +kernel
theorem dX7_may_5 : decode cX7_may 5 = .ok (.ifCond .eq 26, 3) := by decide +kernel
theorem dX7_may_8 : decode cX7_may 8 = .ok (.iload_n 2, 1) := by decide +kernel
theorem dX7_may_9 : decode cX7_may 9 = .ok (.iconst 0, 1) := by decide +kernel
theorem dX7_may_10 : decode cX7_may 10 = .ok (.aload_n 0, 1) := by decide +kernel
theorem dX7_may_11 : decode cX7_may 11 = .ok (.getfield 51, 3) := by decide +kernel
theorem dX7_may_14 : decode cX7_may 14 = .ok (.iload_n 1, 1) := by decide +kernel
theorem dX7_may_15 : decode cX7_may 15 = .ok (.iaload, 1) := by decide +kernel
theorem dX7_may_16 : decode cX7_may 16 = .ok (.invokestatic 117, 3) := by decide +kernel
theorem dX7_may_19 : decode cX7_may 19 = .ok (.ifCond .eq 12, 3) := by decide +kernel
theorem dX7_may_22 : decode cX7_may 22 = .ok (.aload_n 0, 1) := by decide +kernel
theorem dX7_may_23 : decode cX7_may 23 = .ok (.iload_n 1, 1) := by decide +kernel
theorem dX7_may_24 : decode cX7_may 24 = .ok (.iload_n 2, 1) := by decide +kernel
theorem dX7_may_25 : decode cX7_may 25 = .ok (.invokevirtual 328, 3) := by decide +kernel
theorem dX7_may_28 : decode cX7_may 28 = .ok (.goto 4, 3) := by decide +kernel
theorem dX7_may_31 : decode cX7_may 31 = .ok (.iconst (-1), 1) := by decide +kernel
theorem dX7_may_32 : decode cX7_may 32 = .ok (.ireturn, 1) := by decide +kernel
theorem dX7_surely_0 : decode cX7_surely 0 = .ok (.aload_n 0, 1) := by decide +kernel
theorem dX7_surely_1 : decode cX7_surely 1 = .ok (.iload_n 1, 1) := by decide +kernel
theorem dX7_surely_2 : decode cX7_surely 2 = .ok (.invokevirtual 256, 3) := by decide +kernel
theorem dX7_surely_5 : decode cX7_surely 5 = .ok (.ifCond .eq 17, 3) := by decide +kernel
theorem dX7_surely_8 : decode cX7_surely 8 = .ok (.iload_n 2, 1) := by decide +kernel
theorem dX7_surely_9 : decode cX7_surely 9 = .ok (.iconst 0, 1) := by decide +kernel
theorem dX7_surely_10 : decode cX7_surely 10 = .ok (.aload_n 0, 1) := by decide +kernel
theorem dX7_surely_11 : decode cX7_surely 11 = .ok (.getfield 51, 3) := by decide +kernel
theorem dX7_surely_14 : decode cX7_surely 14 = .ok (.iload_n 1, 1) := by decide +kernel
theorem dX7_surely_15 : decode cX7_surely 15 = .ok (.iaload, 1) := by decide +kernel
theorem dX7_surely_16 : decode cX7_surely 16 = .ok (.invokestatic 117, 3) := by decide +kernel
theorem dX7_surely_19 : decode cX7_surely 19 = .ok (.ifCond .ne 5, 3) := by decide +kernel
theorem dX7_surely_22 : decode cX7_surely 22 = .ok (.iconst (-1), 1) := by decide +kernel
theorem dX7_surely_23 : decode cX7_surely 23 = .ok (.ireturn, 1) := by decide +kernel
theorem dX7_surely_24 : decode cX7_surely 24 = .ok (.aload_n 0, 1) := by decide +kernel
theorem dX7_surely_25 : decode cX7_surely 25 = .ok (.iload_n 1, 1) := by decide +kernel
theorem dX7_surely_26 : decode cX7_surely 26 = .ok (.iload_n 2, 1) := by decide +kernel
theorem dX7_surely_27 : decode cX7_surely 27 = .ok (.invokevirtual 328, 3) := by decide +kernel
theorem dX7_surely_30 : decode cX7_surely 30 = .ok (.istore_n 3, 1) := by decide +kernel
theorem dX7_surely_31 : decode cX7_surely 31 = .ok (.iload_n 3, 1) := by decide +kernel
theorem dX7_surely_32 : decode cX7_surely 32 = .ok (.invokestatic 331, 3) := by decide +kernel
theorem dX7_surely_35 : decode cX7_surely 35 = .ok (.iconst 1, 1) := by decide +kernel
theorem dX7_surely_36 : decode cX7_surely 36 = .ok (.if_icmp .ne 10, 3) := by decide +kernel
theorem dX7_surely_39 : decode cX7_surely 39 = .ok (.iload_n 3, 1) := by decide +kernel
theorem dX7_surely_40 : decode cX7_surely 40 = .ok (.sipush 256, 3) := by decide +kernel
theorem dX7_surely_43 : decode cX7_surely 43 = .ok (.if_icmp .ne 5, 3) := by decide +kernel
theorem dX7_surely_46 : decode cX7_surely 46 = .ok (.iconst (-1), 1) := by decide +kernel
theorem dX7_surely_47 : decode cX7_surely 47 = .ok (.ireturn, 1) := by decide +kernel
theorem dX7_surely_48 : decode cX7_surely 48 = .ok (.iconst 0, 1) := by decide +kernel
theorem dX7_surely_49 : decode cX7_surely 49 = .ok (.istore 4, 2) := by decide +kernel
theorem dX7_surely_51 : decode cX7_surely 51 = .ok (.iload_n 3, 1) := by decide +kernel
theorem dX7_surely_52 : decode cX7_surely 52 = .ok (.iload 4, 2) := by decide +kernel
theorem dX7_surely_54 : decode cX7_surely 54 = .ok (.ishr, 1) := by decide +kernel
theorem dX7_surely_55 : decode cX7_surely 55 = .ok (.iconst 1, 1) := by decide +kernel
theorem dX7_surely_56 : decode cX7_surely 56 = .ok (.if_icmp .eq 9, 3) := by decide +kernel
theorem dX7_surely_59 : decode cX7_surely 59 = .ok (.iinc 4 1, 3) := by decide +kernel
theorem dX7_surely_62 : decode cX7_surely 62 = .ok (.goto (-11), 3) := by decide +kernel
theorem dX7_surely_65 : decode cX7_surely 65 = .ok (.iload 4, 2) := by decide +kernel
theorem dX7_surely_67 : decode cX7_surely 67 = .ok (.ireturn, 1) := by decide +kernel
theorem dX7_leasts_0 : decode cX7_leasts 0 = .ok (.aload_n 0, 1) := by decide +kernel
theorem dX7_leasts_1 : decode cX7_leasts 1 = .ok (.getfield 51, 3) := by decide +kernel
theorem dX7_leasts_4 : decode cX7_leasts 4 = .ok (.aload_n 0, 1) := by decide +kernel
theorem dX7_leasts_5 : decode cX7_leasts 5 = .ok (.getfield 279, 3) := by decide +kernel
theorem dX7_leasts_8 : decode cX7_leasts 8 = .ok (.iaload, 1) := by decide +kernel
theorem dX7_leasts_9 : decode cX7_leasts 9 = .ok (.istore_n 3, 1) := by decide +kernel
theorem dX7_leasts_10 : decode cX7_leasts 10 = .ok (.iload_n 3, 1) := by decide +kernel
theorem dX7_leasts_11 : decode cX7_leasts 11 = .ok (.ifCond .lt 212, 3) := by decide +kernel
theorem dX7_leasts_14 : decode cX7_leasts 14 = .ok (.iconst 0, 1) := by decide +kernel
theorem dX7_leasts_15 : decode cX7_leasts 15 = .ok (.istore 4, 2) := by decide +kernel
theorem dX7_leasts_17 : decode cX7_leasts 17 = .ok (.iload 4, 2) := by decide +kernel
theorem dX7_leasts_19 : decode cX7_leasts 19 = .ok (.sipush 1120, 3) := by decide +kernel
theorem dX7_leasts_22 : decode cX7_leasts 22 = .ok (.if_icmp .ge 195, 3) := by decide +kernel
theorem dX7_leasts_25 : decode cX7_leasts 25 = .ok (.iload_n 3, 1) := by decide +kernel
theorem dX7_leasts_26 : decode cX7_leasts 26 = .ok (.sipush 1120, 3) := by decide +kernel
theorem dX7_leasts_29 : decode cX7_leasts 29 = .ok (.imul, 1) := by decide +kernel
theorem dX7_leasts_30 : decode cX7_leasts 30 = .ok (.iload 4, 2) := by decide +kernel
theorem dX7_leasts_32 : decode cX7_leasts 32 = .ok (.iadd, 1) := by decide +kernel
theorem dX7_leasts_33 : decode cX7_leasts 33 = .ok (.istore 5, 2) := by decide +kernel
theorem dX7_leasts_35 : decode cX7_leasts 35 = .ok (.aload_n 0, 1) := by decide +kernel
theorem dX7_leasts_36 : decode cX7_leasts 36 = .ok (.getfield 101, 3) := by decide +kernel
theorem dX7_leasts_39 : decode cX7_leasts 39 = .ok (.iload 5, 2) := by decide +kernel
theorem dX7_leasts_41 : decode cX7_leasts 41 = .ok (.ldc_w 335, 3) := by decide +kernel
theorem dX7_leasts_44 : decode cX7_leasts 44 = .ok (.iastore, 1) := by decide +kernel
theorem dX7_leasts_45 : decode cX7_leasts 45 = .ok (.aload_n 0, 1) := by decide +kernel
theorem dX7_leasts_46 : decode cX7_leasts 46 = .ok (.getfield 104, 3) := by decide +kernel
theorem dX7_leasts_49 : decode cX7_leasts 49 = .ok (.iload 5, 2) := by decide +kernel
theorem dX7_leasts_51 : decode cX7_leasts 51 = .ok (.baload, 1) := by decide +kernel
theorem dX7_leasts_52 : decode cX7_leasts 52 = .ok (.ifCond .eq 159, 3) := by decide +kernel
theorem dX7_leasts_55 : decode cX7_leasts 55 = .ok (.aload_n 0, 1) := by decide +kernel
theorem dX7_leasts_56 : decode cX7_leasts 56 = .ok (.getfield 98, 3) := by decide +kernel
theorem dX7_leasts_59 : decode cX7_leasts 59 = .ok (.iload 5, 2) := by decide +kernel
theorem dX7_leasts_61 : decode cX7_leasts 61 = .ok (.iaload, 1) := by decide +kernel
theorem dX7_leasts_62 : decode cX7_leasts 62 = .ok (.ifCond .ne 6, 3) := by decide +kernel
theorem dX7_leasts_65 : decode cX7_leasts 65 = .ok (.goto 146, 3) := by decide +kernel
theorem dX7_leasts_68 : decode cX7_leasts 68 = .ok (.iload_n 3, 1) := by decide +kernel
theorem dX7_leasts_69 : decode cX7_leasts 69 = .ok (.aload_n 0, 1) := by decide +kernel
theorem dX7_leasts_70 : decode cX7_leasts 70 = .ok (.getfield 51, 3) := by decide +kernel
theorem dX7_leasts_73 : decode cX7_leasts 73 = .ok (.aload_n 0, 1) := by decide +kernel
theorem dX7_leasts_74 : decode cX7_leasts 74 = .ok (.getfield 279, 3) := by decide +kernel
theorem dX7_leasts_77 : decode cX7_leasts 77 = .ok (.iaload, 1) := by decide +kernel
theorem dX7_leasts_78 : decode cX7_leasts 78 = .ok (.if_icmp .ne 14, 3) := by decide +kernel
theorem dX7_leasts_81 : decode cX7_leasts 81 = .ok (.aload_n 0, 1) := by decide +kernel
theorem dX7_leasts_82 : decode cX7_leasts 82 = .ok (.getfield 101, 3) := by decide +kernel
theorem dX7_leasts_85 : decode cX7_leasts 85 = .ok (.iload 5, 2) := by decide +kernel
theorem dX7_leasts_87 : decode cX7_leasts 87 = .ok (.iconst 0, 1) := by decide +kernel
theorem dX7_leasts_88 : decode cX7_leasts 88 = .ok (.iastore, 1) := by decide +kernel
theorem dX7_leasts_89 : decode cX7_leasts 89 = .ok (.goto 122, 3) := by decide +kernel
theorem dX7_leasts_92 : decode cX7_leasts 92 = .ok (.iconst (-1), 1) := by decide +kernel
theorem dX7_leasts_93 : decode cX7_leasts 93 = .ok (.istore 6, 2) := by decide +kernel
theorem dX7_leasts_95 : decode cX7_leasts 95 = .ok (.iload 6, 2) := by decide +kernel
theorem dX7_leasts_97 : decode cX7_leasts 97 = .ok (.aload_n 0, 1) := by decide +kernel
theorem dX7_leasts_98 : decode cX7_leasts 98 = .ok (.getfield 250, 3) := by decide +kernel
theorem dX7_leasts_101 : decode cX7_leasts 101 = .ok (.if_icmp .ge 110, 3) := by decide +kernel
theorem dX7_leasts_104 : decode cX7_leasts 104 = .ok (.aload_n 0, 1) := by decide +kernel
theorem dX7_leasts_105 : decode cX7_leasts 105 = .ok (.iload_n 3, 1) := by decide +kernel
theorem dX7_leasts_106 : decode cX7_leasts 106 = .ok (.iload 4, 2) := by decide +kernel
theorem dX7_leasts_108 : decode cX7_leasts 108 = .ok (.iload 6, 2) := by decide +kernel
theorem dX7_leasts_110 : decode cX7_leasts 110 = .ok (.invokevirtual 310, 3) := by decide +kernel
theorem dX7_leasts_113 : decode cX7_leasts 113 = .ok (.istore 7, 2) := by decide +kernel
theorem dX7_leasts_115 : decode cX7_leasts 115 = .ok (.iload 7, 2) := by decide +kernel
theorem dX7_leasts_117 : decode cX7_leasts 117 = .ok (.iconst (-1), 1) := by decide +kernel
theorem dX7_leasts_118 : decode cX7_leasts 118 = .ok (.if_icmp .eq 87, 3) := by decide +kernel
theorem dX7_leasts_121 : decode cX7_leasts 121 = .ok (.aload_n 0, 1) := by decide +kernel
theorem dX7_leasts_122 : decode cX7_leasts 122 = .ok (.getfield 101, 3) := by decide +kernel
theorem dX7_leasts_125 : decode cX7_leasts 125 = .ok (.aload_n 0, 1) := by decide +kernel
theorem dX7_leasts_126 : decode cX7_leasts 126 = .ok (.getfield 297, 3) := by decide +kernel
theorem dX7_leasts_129 : decode cX7_leasts 129 = .ok (.sipush 1120, 3) := by decide +kernel
theorem dX7_leasts_132 : decode cX7_leasts 132 = .ok (.imul, 1) := by decide +kernel
theorem dX7_leasts_133 : decode cX7_leasts 133 = .ok (.iload 7, 2) := by decide +kernel
theorem dX7_leasts_135 : decode cX7_leasts 135 = .ok (.iadd, 1) := by decide +kernel
theorem dX7_leasts_136 : decode cX7_leasts 136 = .ok (.iaload, 1) := by decide +kernel
theorem dX7_leasts_137 : decode cX7_leasts 137 = .ok (.ldc_w 335, 3) := by decide +kernel
theorem dX7_leasts_140 : decode cX7_leasts 140 = .ok (.if_icmp .ne 6, 3) := by decide +kernel
theorem dX7_leasts_143 : decode cX7_leasts 143 = .ok (.goto 62, 3) := by decide +kernel
theorem dX7_leasts_146 : decode cX7_leasts 146 = .ok (.aload_n 0, 1) := by decide +kernel
theorem dX7_leasts_147 : decode cX7_leasts 147 = .ok (.getfield 101, 3) := by decide +kernel
theorem dX7_leasts_150 : decode cX7_leasts 150 = .ok (.aload_n 0, 1) := by decide +kernel
theorem dX7_leasts_151 : decode cX7_leasts 151 = .ok (.getfield 297, 3) := by decide +kernel
theorem dX7_leasts_154 : decode cX7_leasts 154 = .ok (.sipush 1120, 3) := by decide +kernel
theorem dX7_leasts_157 : decode cX7_leasts 157 = .ok (.imul, 1) := by decide +kernel
theorem dX7_leasts_158 : decode cX7_leasts 158 = .ok (.iload 7, 2) := by decide +kernel
theorem dX7_leasts_160 : decode cX7_leasts 160 = .ok (.iadd, 1) := by decide +kernel
theorem dX7_leasts_161 : decode cX7_leasts 161 = .ok (.iaload, 1) := by decide +kernel
theorem dX7_leasts_162 : decode cX7_leasts 162 = .ok (.iload_n 2, 1) := by decide +kernel
theorem dX7_leasts_163 : decode cX7_leasts 163 = .ok (.aload_n 0, 1) := by decide +kernel
theorem dX7_leasts_164 : decode cX7_leasts 164 = .ok (.iload 6, 2) := by decide +kernel
theorem dX7_leasts_166 : decode cX7_leasts 166 = .ok (.iload_n 1, 1) := by decide +kernel
theorem dX7_leasts_167 : decode cX7_leasts 167 = .ok (.invokevirtual 336, 3) := by decide +kernel
theorem dX7_leasts_170 : decode cX7_leasts 170 = .ok (.imul, 1) := by decide +kernel
theorem dX7_leasts_171 : decode cX7_leasts 171 = .ok (.iadd, 1) := by decide +kernel
theorem dX7_leasts_172 : decode cX7_leasts 172 = .ok (.istore 8, 2) := by decide +kernel
theorem dX7_leasts_174 : decode cX7_leasts 174 = .ok (.aload_n 0, 1) := by decide +kernel
theorem dX7_leasts_175 : decode cX7_leasts 175 = .ok (.getfield 101, 3) := by decide +kernel
theorem dX7_leasts_178 : decode cX7_leasts 178 = .ok (.iload 5, 2) := by decide +kernel
theorem dX7_leasts_180 : decode cX7_leasts 180 = .ok (.iload 8, 2) := by decide +kernel
theorem dX7_leasts_182 : decode cX7_leasts 182 = .ok (.aload_n 0, 1) := by decide +kernel
theorem dX7_leasts_183 : decode cX7_leasts 183 = .ok (.getfield 101, 3) := by decide +kernel
theorem dX7_leasts_186 : decode cX7_leasts 186 = .ok (.iload 5, 2) := by decide +kernel
theorem dX7_leasts_188 : decode cX7_leasts 188 = .ok (.iaload, 1) := by decide +kernel
theorem dX7_leasts_189 : decode cX7_leasts 189 = .ok (.if_icmp .ge 8, 3) := by decide +kernel
theorem dX7_leasts_192 : decode cX7_leasts 192 = .ok (.iload 8, 2) := by decide +kernel
theorem dX7_leasts_194 : decode cX7_leasts 194 = .ok (.goto 10, 3) := by decide +kernel
theorem dX7_leasts_197 : decode cX7_leasts 197 = .ok (.aload_n 0, 1) := by decide +kernel
theorem dX7_leasts_198 : decode cX7_leasts 198 = .ok (.getfield 101, 3) := by decide +kernel
theorem dX7_leasts_201 : decode cX7_leasts 201 = .ok (.iload 5, 2) := by decide +kernel
theorem dX7_leasts_203 : decode cX7_leasts 203 = .ok (.iaload, 1) := by decide +kernel
theorem dX7_leasts_204 : decode cX7_leasts 204 = .ok (.iastore, 1) := by decide +kernel
theorem dX7_leasts_205 : decode cX7_leasts 205 = .ok (.iinc 6 1, 3) := by decide +kernel
theorem dX7_leasts_208 : decode cX7_leasts 208 = .ok (.goto (-113), 3) := by decide +kernel
theorem dX7_leasts_211 : decode cX7_leasts 211 = .ok (.iinc 4 1, 3) := by decide +kernel
theorem dX7_leasts_214 : decode cX7_leasts 214 = .ok (.goto (-197), 3) := by decide +kernel
theorem dX7_leasts_217 : decode cX7_leasts 217 = .ok (.iinc 3 (-1), 3) := by decide +kernel
theorem dX7_leasts_220 : decode cX7_leasts 220 = .ok (.goto (-210), 3) := by decide +kernel
theorem dX7_leasts_223 : decode cX7_leasts 223 = .ok (.iload_n 2, 1) := by decide +kernel
theorem dX7_leasts_224 : decode cX7_leasts 224 = .ok (.aload_n 0, 1) := by decide +kernel
theorem dX7_leasts_225 : decode cX7_leasts 225 = .ok (.getfield 101, 3) := by decide +kernel
theorem dX7_leasts_228 : decode cX7_leasts 228 = .ok (.aload_n 0, 1) := by decide +kernel
theorem dX7_leasts_229 : decode cX7_leasts 229 = .ok (.invokevirtual 307, 3) := by decide +kernel
theorem dX7_leasts_232 : decode cX7_leasts 232 = .ok (.iaload, 1) := by decide +kernel
theorem dX7_leasts_233 : decode cX7_leasts 233 = .ok (.imul, 1) := by decide +kernel
theorem dX7_leasts_234 : decode cX7_leasts 234 = .ok (.ireturn, 1) := by decide +kernel
theorem dX7_price_0 : decode cX7_price 0 = .ok (.iload_n 1, 1) := by decide +kernel
theorem dX7_price_1 : decode cX7_price 1 = .ok (.iconst (-1), 1) := by decide +kernel
theorem dX7_price_2 : decode cX7_price 2 = .ok (.if_icmp .ne 7, 3) := by decide +kernel
theorem dX7_price_5 : decode cX7_price 5 = .ok (.iconst 0, 1) := by decide +kernel
theorem dX7_price_6 : decode cX7_price 6 = .ok (.goto 17, 3) := by decide +kernel
theorem dX7_price_9 : decode cX7_price 9 = .ok (.iload_n 2, 1) := by decide +kernel
theorem dX7_price_10 : decode cX7_price 10 = .ok (.ifCond .eq 12, 3) := by decide +kernel
theorem dX7_price_13 : decode cX7_price 13 = .ok (.aload_n 0, 1) := by decide +kernel
theorem dX7_price_14 : decode cX7_price 14 = .ok (.iload_n 1, 1) := by decide +kernel
theorem dX7_price_15 : decode cX7_price 15 = .ok (.iconst 4, 1) := by decide +kernel
theorem dX7_price_16 : decode cX7_price 16 = .ok (.invokevirtual 276, 3) := by decide +kernel
theorem dX7_price_19 : decode cX7_price 19 = .ok (.goto 4, 3) := by decide +kernel
theorem dX7_price_22 : decode cX7_price 22 = .ok (.iconst 1, 1) := by decide +kernel
theorem dX7_price_23 : decode cX7_price 23 = .ok (.ireturn, 1) := by decide +kernel
theorem dX7_extreme_0 : decode cX7_extreme 0 = .ok (.aload_n 0, 1) := by decide +kernel
theorem dX7_extreme_1 : decode cX7_extreme 1 = .ok (.iload_n 1, 1) := by decide +kernel
theorem dX7_extreme_2 : decode cX7_extreme 2 = .ok (.invokevirtual 256, 3) := by decide +kernel
theorem dX7_extreme_5 : decode cX7_extreme 5 = .ok (.ifCond .eq 12, 3) := by decide +kernel
theorem dX7_extreme_8 : decode cX7_extreme 8 = .ok (.iload_n 2, 1) := by decide +kernel
theorem dX7_extreme_9 : decode cX7_extreme 9 = .ok (.iconst 0, 1) := by decide +kernel
theorem dX7_extreme_10 : decode cX7_extreme 10 = .ok (.iconst 3, 1) := by decide +kernel
theorem dX7_extreme_11 : decode cX7_extreme 11 = .ok (.invokestatic 117, 3) := by decide +kernel
theorem dX7_extreme_14 : decode cX7_extreme 14 = .ok (.ifCond .ne 5, 3) := by decide +kernel
theorem dX7_extreme_17 : decode cX7_extreme 17 = .ok (.iconst (-1), 1) := by decide +kernel
theorem dX7_extreme_18 : decode cX7_extreme 18 = .ok (.ireturn, 1) := by decide +kernel
theorem dX7_extreme_19 : decode cX7_extreme 19 = .ok (.aload_n 0, 1) := by decide +kernel
theorem dX7_extreme_20 : decode cX7_extreme 20 = .ok (.iload_n 1, 1) := by decide +kernel
theorem dX7_extreme_21 : decode cX7_extreme 21 = .ok (.iconst 0, 1) := by decide +kernel
theorem dX7_extreme_22 : decode cX7_extreme 22 = .ok (.invokevirtual 321, 3) := by decide +kernel
theorem dX7_extreme_25 : decode cX7_extreme 25 = .ok (.aload_n 0, 1) := by decide +kernel
theorem dX7_extreme_26 : decode cX7_extreme 26 = .ok (.invokevirtual 325, 3) := by decide +kernel
theorem dX7_extreme_29 : decode cX7_extreme 29 = .ok (.ifCond .ne 7, 3) := by decide +kernel
theorem dX7_extreme_32 : decode cX7_extreme 32 = .ok (.iconst (-1), 1) := by decide +kernel
theorem dX7_extreme_33 : decode cX7_extreme 33 = .ok (.goto 28, 3) := by decide +kernel
theorem dX7_extreme_36 : decode cX7_extreme 36 = .ok (.aload_n 0, 1) := by decide +kernel
theorem dX7_extreme_37 : decode cX7_extreme 37 = .ok (.iload_n 2, 1) := by decide +kernel
theorem dX7_extreme_38 : decode cX7_extreme 38 = .ok (.iconst 2, 1) := by decide +kernel
theorem dX7_extreme_39 : decode cX7_extreme 39 = .ok (.if_icmp .ge 7, 3) := by decide +kernel
theorem dX7_extreme_42 : decode cX7_extreme 42 = .ok (.iconst 1, 1) := by decide +kernel
theorem dX7_extreme_43 : decode cX7_extreme 43 = .ok (.goto 4, 3) := by decide +kernel
theorem dX7_extreme_46 : decode cX7_extreme 46 = .ok (.iconst 0, 1) := by decide +kernel
theorem dX7_extreme_47 : decode cX7_extreme 47 = .ok (.iload_n 2, 1) := by decide +kernel
theorem dX7_extreme_48 : decode cX7_extreme 48 = .ok (.iconst 2, 1) := by decide +kernel
theorem dX7_extreme_49 : decode cX7_extreme 49 = .ok (.irem, 1) := by decide +kernel
theorem dX7_extreme_50 : decode cX7_extreme 50 = .ok (.ifCond .ne 7, 3) := by decide +kernel
theorem dX7_extreme_53 : decode cX7_extreme 53 = .ok (.iconst 1, 1) := by decide +kernel
theorem dX7_extreme_54 : decode cX7_extreme 54 = .ok (.goto 4, 3) := by decide +kernel
theorem dX7_extreme_57 : decode cX7_extreme 57 = .ok (.iconst (-1), 1) := by decide +kernel
theorem dX7_extreme_58 : decode cX7_extreme 58 = .ok (.invokevirtual 340, 3) := by decide +kernel
theorem dX7_extreme_61 : decode cX7_extreme 61 = .ok (.ireturn, 1) := by decide +kernel
theorem dX7_tale_0 : decode cX7_tale 0 = .ok (.aload_n 0, 1) := by decide +kernel
theorem dX7_tale_1 : decode cX7_tale 1 = .ok (.iload_n 1, 1) := by decide +kernel
theorem dX7_tale_2 : decode cX7_tale 2 = .ok (.invokevirtual 256, 3) := by decide +kernel
theorem dX7_tale_5 : decode cX7_tale 5 = .ok (.ifCond .eq 8, 3) := by decide +kernel
theorem dX7_tale_8 : decode cX7_tale 8 = .ok (.iload_n 2, 1) := by decide +kernel
theorem dX7_tale_9 : decode cX7_tale 9 = .ok (.iconst (-1), 1) := by decide +kernel
theorem dX7_tale_10 : decode cX7_tale 10 = .ok (.if_icmp .ge 5, 3) := by decide +kernel
theorem dX7_tale_13 : decode cX7_tale 13 = .ok (.iconst (-1), 1) := by decide +kernel
theorem dX7_tale_14 : decode cX7_tale 14 = .ok (.ireturn, 1) := by decide +kernel
theorem dX7_tale_15 : decode cX7_tale 15 = .ok (.aload_n 0, 1) := by decide +kernel
theorem dX7_tale_16 : decode cX7_tale 16 = .ok (.iload_n 1, 1) := by decide +kernel
theorem dX7_tale_17 : decode cX7_tale 17 = .ok (.iconst 0, 1) := by decide +kernel
theorem dX7_tale_18 : decode cX7_tale 18 = .ok (.invokevirtual 321, 3) := by decide +kernel
theorem dX7_tale_21 : decode cX7_tale 21 = .ok (.aload_n 0, 1) := by decide +kernel
theorem dX7_tale_22 : decode cX7_tale 22 = .ok (.invokevirtual 325, 3) := by decide +kernel
theorem dX7_tale_25 : decode cX7_tale 25 = .ok (.ifCond .ne 5, 3) := by decide +kernel
theorem dX7_tale_28 : decode cX7_tale 28 = .ok (.iconst (-1), 1) := by decide +kernel
theorem dX7_tale_29 : decode cX7_tale 29 = .ok (.ireturn, 1) := by decide +kernel
theorem dX7_tale_30 : decode cX7_tale 30 = .ok (.aload_n 0, 1) := by decide +kernel
theorem dX7_tale_31 : decode cX7_tale 31 = .ok (.iconst 1, 1) := by decide +kernel
theorem dX7_tale_32 : decode cX7_tale 32 = .ok (.iconst 1, 1) := by decide +kernel
theorem dX7_tale_33 : decode cX7_tale 33 = .ok (.invokevirtual 340, 3) := by decide +kernel
theorem dX7_tale_36 : decode cX7_tale 36 = .ok (.pop, 1) := by decide +kernel
theorem dX7_tale_37 : decode cX7_tale 37 = .ok (.iconst 0, 1) := by decide +kernel
theorem dX7_tale_38 : decode cX7_tale 38 = .ok (.istore_n 3, 1) := by decide +kernel
theorem dX7_tale_39 : decode cX7_tale 39 = .ok (.iconst 0, 1) := by decide +kernel
theorem dX7_tale_40 : decode cX7_tale 40 = .ok (.istore 4, 2) := by decide +kernel
theorem dX7_tale_42 : decode cX7_tale 42 = .ok (.aload_n 0, 1) := by decide +kernel
theorem dX7_tale_43 : decode cX7_tale 43 = .ok (.invokevirtual 307, 3) := by decide +kernel
theorem dX7_tale_46 : decode cX7_tale 46 = .ok (.istore 5, 2) := by decide +kernel
theorem dX7_tale_48 : decode cX7_tale 48 = .ok (.iload 4, 2) := by decide +kernel
theorem dX7_tale_50 : decode cX7_tale 50 = .ok (.aload_n 0, 1) := by decide +kernel
theorem dX7_tale_51 : decode cX7_tale 51 = .ok (.getfield 51, 3) := by decide +kernel
theorem dX7_tale_54 : decode cX7_tale 54 = .ok (.aload_n 0, 1) := by decide +kernel
theorem dX7_tale_55 : decode cX7_tale 55 = .ok (.getfield 279, 3) := by decide +kernel
theorem dX7_tale_58 : decode cX7_tale 58 = .ok (.iaload, 1) := by decide +kernel
theorem dX7_tale_59 : decode cX7_tale 59 = .ok (.if_icmp .ge 141, 3) := by decide +kernel
theorem dX7_tale_62 : decode cX7_tale 62 = .ok (.iconst (-1), 1) := by decide +kernel
theorem dX7_tale_63 : decode cX7_tale 63 = .ok (.istore 6, 2) := by decide +kernel
theorem dX7_tale_65 : decode cX7_tale 65 = .ok (.aload_n 0, 1) := by decide +kernel
theorem dX7_tale_66 : decode cX7_tale 66 = .ok (.iload 4, 2) := by decide +kernel
theorem dX7_tale_68 : decode cX7_tale 68 = .ok (.iload 5, 2) := by decide +kernel
theorem dX7_tale_70 : decode cX7_tale 70 = .ok (.iload 6, 2) := by decide +kernel
theorem dX7_tale_72 : decode cX7_tale 72 = .ok (.invokevirtual 310, 3) := by decide +kernel
theorem dX7_tale_75 : decode cX7_tale 75 = .ok (.istore 7, 2) := by decide +kernel
theorem dX7_tale_77 : decode cX7_tale 77 = .ok (.iload 7, 2) := by decide +kernel
theorem dX7_tale_79 : decode cX7_tale 79 = .ok (.iconst (-1), 1) := by decide +kernel
theorem dX7_tale_80 : decode cX7_tale 80 = .ok (.if_icmp .eq 66, 3) := by decide +kernel
theorem dX7_tale_83 : decode cX7_tale 83 = .ok (.aload_n 0, 1) := by decide +kernel
theorem dX7_tale_84 : decode cX7_tale 84 = .ok (.getfield 101, 3) := by decide +kernel
theorem dX7_tale_87 : decode cX7_tale 87 = .ok (.aload_n 0, 1) := by decide +kernel
theorem dX7_tale_88 : decode cX7_tale 88 = .ok (.getfield 297, 3) := by decide +kernel
theorem dX7_tale_91 : decode cX7_tale 91 = .ok (.sipush 1120, 3) := by decide +kernel
theorem dX7_tale_94 : decode cX7_tale 94 = .ok (.imul, 1) := by decide +kernel
theorem dX7_tale_95 : decode cX7_tale 95 = .ok (.iload 7, 2) := by decide +kernel
theorem dX7_tale_97 : decode cX7_tale 97 = .ok (.iadd, 1) := by decide +kernel
theorem dX7_tale_98 : decode cX7_tale 98 = .ok (.iaload, 1) := by decide +kernel
theorem dX7_tale_99 : decode cX7_tale 99 = .ok (.ldc_w 335, 3) := by decide +kernel
theorem dX7_tale_102 : decode cX7_tale 102 = .ok (.if_icmp .eq 44, 3) := by decide +kernel
theorem dX7_tale_105 : decode cX7_tale 105 = .ok (.aload_n 0, 1) := by decide +kernel
theorem dX7_tale_106 : decode cX7_tale 106 = .ok (.getfield 101, 3) := by decide +kernel
theorem dX7_tale_109 : decode cX7_tale 109 = .ok (.aload_n 0, 1) := by decide +kernel
theorem dX7_tale_110 : decode cX7_tale 110 = .ok (.getfield 297, 3) := by decide +kernel
theorem dX7_tale_113 : decode cX7_tale 113 = .ok (.sipush 1120, 3) := by decide +kernel
theorem dX7_tale_116 : decode cX7_tale 116 = .ok (.imul, 1) := by decide +kernel
theorem dX7_tale_117 : decode cX7_tale 117 = .ok (.iload 7, 2) := by decide +kernel
theorem dX7_tale_119 : decode cX7_tale 119 = .ok (.iadd, 1) := by decide +kernel
theorem dX7_tale_120 : decode cX7_tale 120 = .ok (.iaload, 1) := by decide +kernel
theorem dX7_tale_121 : decode cX7_tale 121 = .ok (.aload_n 0, 1) := by decide +kernel
theorem dX7_tale_122 : decode cX7_tale 122 = .ok (.iload 6, 2) := by decide +kernel
theorem dX7_tale_124 : decode cX7_tale 124 = .ok (.iconst 1, 1) := by decide +kernel
theorem dX7_tale_125 : decode cX7_tale 125 = .ok (.invokevirtual 336, 3) := by decide +kernel
theorem dX7_tale_128 : decode cX7_tale 128 = .ok (.iadd, 1) := by decide +kernel
theorem dX7_tale_129 : decode cX7_tale 129 = .ok (.aload_n 0, 1) := by decide +kernel
theorem dX7_tale_130 : decode cX7_tale 130 = .ok (.getfield 101, 3) := by decide +kernel
theorem dX7_tale_133 : decode cX7_tale 133 = .ok (.iload 4, 2) := by decide +kernel
theorem dX7_tale_135 : decode cX7_tale 135 = .ok (.sipush 1120, 3) := by decide +kernel
theorem dX7_tale_138 : decode cX7_tale 138 = .ok (.imul, 1) := by decide +kernel
theorem dX7_tale_139 : decode cX7_tale 139 = .ok (.iload 5, 2) := by decide +kernel
theorem dX7_tale_141 : decode cX7_tale 141 = .ok (.iadd, 1) := by decide +kernel
theorem dX7_tale_142 : decode cX7_tale 142 = .ok (.iaload, 1) := by decide +kernel
theorem dX7_tale_143 : decode cX7_tale 143 = .ok (.if_icmp .eq 21, 3) := by decide +kernel
theorem dX7_tale_146 : decode cX7_tale 146 = .ok (.iinc 6 1, 3) := by decide +kernel
theorem dX7_tale_149 : decode cX7_tale 149 = .ok (.aload_n 0, 1) := by decide +kernel
theorem dX7_tale_150 : decode cX7_tale 150 = .ok (.iload 4, 2) := by decide +kernel
theorem dX7_tale_152 : decode cX7_tale 152 = .ok (.iload 5, 2) := by decide +kernel
theorem dX7_tale_154 : decode cX7_tale 154 = .ok (.iload 6, 2) := by decide +kernel
theorem dX7_tale_156 : decode cX7_tale 156 = .ok (.invokevirtual 310, 3) := by decide +kernel
theorem dX7_tale_159 : decode cX7_tale 159 = .ok (.istore 7, 2) := by decide +kernel
theorem dX7_tale_161 : decode cX7_tale 161 = .ok (.goto (-84), 3) := by decide +kernel
theorem dX7_tale_164 : decode cX7_tale 164 = .ok (.iload 6, 2) := by decide +kernel
theorem dX7_tale_166 : decode cX7_tale 166 = .ok (.iconst (-1), 1) := by decide +kernel
theorem dX7_tale_167 : decode cX7_tale 167 = .ok (.if_icmp .eq 20, 3) := by decide +kernel
theorem dX7_tale_170 : decode cX7_tale 170 = .ok (.iload_n 3, 1) := by decide +kernel
theorem dX7_tale_171 : decode cX7_tale 171 = .ok (.iload_n 2, 1) := by decide +kernel
theorem dX7_tale_172 : decode cX7_tale 172 = .ok (.if_icmp .ne 12, 3) := by decide +kernel
theorem dX7_tale_175 : decode cX7_tale 175 = .ok (.bipush 100, 2) := by decide +kernel
theorem dX7_tale_177 : decode cX7_tale 177 = .ok (.iload 6, 2) := by decide +kernel
theorem dX7_tale_179 : decode cX7_tale 179 = .ok (.imul, 1) := by decide +kernel
theorem dX7_tale_180 : decode cX7_tale 180 = .ok (.iload 4, 2) := by decide +kernel
theorem dX7_tale_182 : decode cX7_tale 182 = .ok (.iadd, 1) := by decide +kernel
theorem dX7_tale_183 : decode cX7_tale 183 = .ok (.ireturn, 1) := by decide +kernel
theorem dX7_tale_184 : decode cX7_tale 184 = .ok (.iinc 3 1, 3) := by decide +kernel
theorem dX7_tale_187 : decode cX7_tale 187 = .ok (.aload_n 0, 1) := by decide +kernel
theorem dX7_tale_188 : decode cX7_tale 188 = .ok (.getfield 297, 3) := by decide +kernel
theorem dX7_tale_191 : decode cX7_tale 191 = .ok (.istore 4, 2) := by decide +kernel
theorem dX7_tale_193 : decode cX7_tale 193 = .ok (.iload 7, 2) := by decide +kernel
theorem dX7_tale_195 : decode cX7_tale 195 = .ok (.istore 5, 2) := by decide +kernel
theorem dX7_tale_197 : decode cX7_tale 197 = .ok (.goto (-149), 3) := by decide +kernel
theorem dX7_tale_200 : decode cX7_tale 200 = .ok (.iload_n 2, 1) := by decide +kernel
theorem dX7_tale_201 : decode cX7_tale 201 = .ok (.iconst (-1), 1) := by decide +kernel
theorem dX7_tale_202 : decode cX7_tale 202 = .ok (.if_icmp .ne 7, 3) := by decide +kernel
theorem dX7_tale_205 : decode cX7_tale 205 = .ok (.iload_n 3, 1) := by decide +kernel
theorem dX7_tale_206 : decode cX7_tale 206 = .ok (.goto 4, 3) := by decide +kernel
theorem dX7_tale_209 : decode cX7_tale 209 = .ok (.iconst (-1), 1) := by decide +kernel
theorem dX7_tale_210 : decode cX7_tale 210 = .ok (.ireturn, 1) := by decide +kernel
theorem dX7_toDoubt_0 : decode cX7_toDoubt 0 = .ok (.aload_n 0, 1) := by decide +kernel
theorem dX7_toDoubt_1 : decode cX7_toDoubt 1 = .ok (.iload_n 1, 1) := by decide +kernel
theorem dX7_toDoubt_2 : decode cX7_toDoubt 2 = .ok (.invokevirtual 256, 3) := by decide +kernel
theorem dX7_toDoubt_5 : decode cX7_toDoubt 5 = .ok (.ifCond .ne 5, 3) := by decide +kernel
theorem dX7_toDoubt_8 : decode cX7_toDoubt 8 = .ok (.iconst (-1), 1) := by decide +kernel
theorem dX7_toDoubt_9 : decode cX7_toDoubt 9 = .ok (.ireturn, 1) := by decide +kernel
theorem dX7_toDoubt_10 : decode cX7_toDoubt 10 = .ok (.iconst 0, 1) := by decide +kernel
theorem dX7_toDoubt_11 : decode cX7_toDoubt 11 = .ok (.istore_n 2, 1) := by decide +kernel
theorem dX7_toDoubt_12 : decode cX7_toDoubt 12 = .ok (.iconst 0, 1) := by decide +kernel
theorem dX7_toDoubt_13 : decode cX7_toDoubt 13 = .ok (.istore_n 3, 1) := by decide +kernel
theorem dX7_toDoubt_14 : decode cX7_toDoubt 14 = .ok (.iload_n 3, 1) := by decide +kernel
theorem dX7_toDoubt_15 : decode cX7_toDoubt 15 = .ok (.aload_n 0, 1) := by decide +kernel
theorem dX7_toDoubt_16 : decode cX7_toDoubt 16 = .ok (.getfield 54, 3) := by decide +kernel
theorem dX7_toDoubt_19 : decode cX7_toDoubt 19 = .ok (.iload_n 1, 1) := by decide +kernel
theorem dX7_toDoubt_20 : decode cX7_toDoubt 20 = .ok (.iaload, 1) := by decide +kernel
theorem dX7_toDoubt_21 : decode cX7_toDoubt 21 = .ok (.if_icmp .ge 33, 3) := by decide +kernel
theorem dX7_toDoubt_24 : decode cX7_toDoubt 24 = .ok (.iload_n 2, 1) := by decide +kernel
theorem dX7_toDoubt_25 : decode cX7_toDoubt 25 = .ok (.aload_n 0, 1) := by decide +kernel
theorem dX7_toDoubt_26 : decode cX7_toDoubt 26 = .ok (.getfield 72, 3) := by decide +kernel
theorem dX7_toDoubt_29 : decode cX7_toDoubt 29 = .ok (.bipush 8, 2) := by decide +kernel
theorem dX7_toDoubt_31 : decode cX7_toDoubt 31 = .ok (.iload_n 1, 1) := by decide +kernel
theorem dX7_toDoubt_32 : decode cX7_toDoubt 32 = .ok (.imul, 1) := by decide +kernel
theorem dX7_toDoubt_33 : decode cX7_toDoubt 33 = .ok (.iload_n 3, 1) := by decide +kernel
theorem dX7_toDoubt_34 : decode cX7_toDoubt 34 = .ok (.iadd, 1) := by decide +kernel
theorem dX7_toDoubt_35 : decode cX7_toDoubt 35 = .ok (.baload, 1) := by decide +kernel
theorem dX7_toDoubt_36 : decode cX7_toDoubt 36 = .ok (.ifCond .eq 9, 3) := by decide +kernel
theorem dX7_toDoubt_39 : decode cX7_toDoubt 39 = .ok (.iconst 1, 1) := by decide +kernel
theorem dX7_toDoubt_40 : decode cX7_toDoubt 40 = .ok (.iload_n 3, 1) := by decide +kernel
theorem dX7_toDoubt_41 : decode cX7_toDoubt 41 = .ok (.ishl, 1) := by decide +kernel
theorem dX7_toDoubt_42 : decode cX7_toDoubt 42 = .ok (.goto 4, 3) := by decide +kernel
theorem dX7_toDoubt_45 : decode cX7_toDoubt 45 = .ok (.iconst 0, 1) := by decide +kernel
theorem dX7_toDoubt_46 : decode cX7_toDoubt 46 = .ok (.ior, 1) := by decide +kernel
theorem dX7_toDoubt_47 : decode cX7_toDoubt 47 = .ok (.istore_n 2, 1) := by decide +kernel
end
section
theorem dX7_toDoubt_48 : decode cX7_toDoubt 48 = .ok (.iinc 3 1, 3) := by decide +kernel
theorem dX7_toDoubt_51 : decode cX7_toDoubt 51 = .ok (.goto (-37), 3) := by decide +kernel
theorem dX7_toDoubt_54 : decode cX7_toDoubt 54 = .ok (.iconst 0, 1) := by decide +kernel
theorem dX7_toDoubt_55 : decode cX7_toDoubt 55 = .ok (.istore_n 3, 1) := by decide +kernel
theorem dX7_toDoubt_56 : decode cX7_toDoubt 56 = .ok (.iload_n 3, 1) := by decide +kernel
theorem dX7_toDoubt_57 : decode cX7_toDoubt 57 = .ok (.aload_n 0, 1) := by decide +kernel
theorem dX7_toDoubt_58 : decode cX7_toDoubt 58 = .ok (.getfield 54, 3) := by decide +kernel
theorem dX7_toDoubt_61 : decode cX7_toDoubt 61 = .ok (.iload_n 1, 1) := by decide +kernel
theorem dX7_toDoubt_62 : decode cX7_toDoubt 62 = .ok (.iaload, 1) := by decide +kernel
theorem dX7_toDoubt_63 : decode cX7_toDoubt 63 = .ok (.if_icmp .gt 67, 3) := by decide +kernel
theorem dX7_toDoubt_66 : decode cX7_toDoubt 66 = .ok (.iconst 0, 1) := by decide +kernel
theorem dX7_toDoubt_67 : decode cX7_toDoubt 67 = .ok (.istore 4, 2) := by decide +kernel
theorem dX7_toDoubt_69 : decode cX7_toDoubt 69 = .ok (.iload 4, 2) := by decide +kernel
theorem dX7_toDoubt_71 : decode cX7_toDoubt 71 = .ok (.iconst 1, 1) := by decide +kernel
theorem dX7_toDoubt_72 : decode cX7_toDoubt 72 = .ok (.aload_n 0, 1) := by decide +kernel
theorem dX7_toDoubt_73 : decode cX7_toDoubt 73 = .ok (.getfield 54, 3) := by decide +kernel
theorem dX7_toDoubt_76 : decode cX7_toDoubt 76 = .ok (.iload_n 1, 1) := by decide +kernel
theorem dX7_toDoubt_77 : decode cX7_toDoubt 77 = .ok (.iaload, 1) := by decide +kernel
theorem dX7_toDoubt_78 : decode cX7_toDoubt 78 = .ok (.ishl, 1) := by decide +kernel
theorem dX7_toDoubt_79 : decode cX7_toDoubt 79 = .ok (.if_icmp .ge 45, 3) := by decide +kernel
theorem dX7_toDoubt_82 : decode cX7_toDoubt 82 = .ok (.iload 4, 2) := by decide +kernel
theorem dX7_toDoubt_84 : decode cX7_toDoubt 84 = .ok (.invokestatic 331, 3) := by decide +kernel
theorem dX7_toDoubt_87 : decode cX7_toDoubt 87 = .ok (.iload_n 3, 1) := by decide +kernel
theorem dX7_toDoubt_88 : decode cX7_toDoubt 88 = .ok (.if_icmp .ne 30, 3) := by decide +kernel
theorem dX7_toDoubt_91 : decode cX7_toDoubt 91 = .ok (.iload 4, 2) := by decide +kernel
theorem dX7_toDoubt_93 : decode cX7_toDoubt 93 = .ok (.iload_n 2, 1) := by decide +kernel
theorem dX7_toDoubt_94 : decode cX7_toDoubt 94 = .ok (.iand, 1) := by decide +kernel
theorem dX7_toDoubt_95 : decode cX7_toDoubt 95 = .ok (.ifCond .eq 6, 3) := by decide +kernel
theorem dX7_toDoubt_98 : decode cX7_toDoubt 98 = .ok (.goto 20, 3) := by decide +kernel
theorem dX7_toDoubt_101 : decode cX7_toDoubt 101 = .ok (.aload_n 0, 1) := by decide +kernel
theorem dX7_toDoubt_102 : decode cX7_toDoubt 102 = .ok (.iload_n 1, 1) := by decide +kernel
theorem dX7_toDoubt_103 : decode cX7_toDoubt 103 = .ok (.iload 4, 2) := by decide +kernel
theorem dX7_toDoubt_105 : decode cX7_toDoubt 105 = .ok (.invokevirtual 321, 3) := by decide +kernel
theorem dX7_toDoubt_108 : decode cX7_toDoubt 108 = .ok (.aload_n 0, 1) := by decide +kernel
theorem dX7_toDoubt_109 : decode cX7_toDoubt 109 = .ok (.invokevirtual 317, 3) := by decide +kernel
theorem dX7_toDoubt_112 : decode cX7_toDoubt 112 = .ok (.ifCond .eq 6, 3) := by decide +kernel
theorem dX7_toDoubt_115 : decode cX7_toDoubt 115 = .ok (.iload 4, 2) := by decide +kernel
theorem dX7_toDoubt_117 : decode cX7_toDoubt 117 = .ok (.ireturn, 1) := by decide +kernel
theorem dX7_toDoubt_118 : decode cX7_toDoubt 118 = .ok (.iinc 4 1, 3) := by decide +kernel
theorem dX7_toDoubt_121 : decode cX7_toDoubt 121 = .ok (.goto (-52), 3) := by decide +kernel
theorem dX7_toDoubt_124 : decode cX7_toDoubt 124 = .ok (.iinc 3 1, 3) := by decide +kernel
theorem dX7_toDoubt_127 : decode cX7_toDoubt 127 = .ok (.goto (-71), 3) := by decide +kernel
theorem dX7_toDoubt_130 : decode cX7_toDoubt 130 = .ok (.iconst (-1), 1) := by decide +kernel
theorem dX7_toDoubt_131 : decode cX7_toDoubt 131 = .ok (.ireturn, 1) := by decide +kernel
theorem dX7_away_0 : decode cX7_away 0 = .ok (.aload_n 0, 1) := by decide +kernel
theorem dX7_away_1 : decode cX7_away 1 = .ok (.iload_n 1, 1) := by decide +kernel
theorem dX7_away_2 : decode cX7_away 2 = .ok (.invokevirtual 256, 3) := by decide +kernel
theorem dX7_away_5 : decode cX7_away 5 = .ok (.ifCond .ne 5, 3) := by decide +kernel
theorem dX7_away_8 : decode cX7_away 8 = .ok (.iconst (-1), 1) := by decide +kernel
theorem dX7_away_9 : decode cX7_away 9 = .ok (.ireturn, 1) := by decide +kernel
theorem dX7_away_10 : decode cX7_away 10 = .ok (.aload_n 0, 1) := by decide +kernel
theorem dX7_away_11 : decode cX7_away 11 = .ok (.iload_n 1, 1) := by decide +kernel
theorem dX7_away_12 : decode cX7_away 12 = .ok (.iconst 0, 1) := by decide +kernel
theorem dX7_away_13 : decode cX7_away 13 = .ok (.invokevirtual 321, 3) := by decide +kernel
theorem dX7_away_16 : decode cX7_away 16 = .ok (.aload_n 0, 1) := by decide +kernel
theorem dX7_away_17 : decode cX7_away 17 = .ok (.invokevirtual 325, 3) := by decide +kernel
theorem dX7_away_20 : decode cX7_away 20 = .ok (.istore_n 2, 1) := by decide +kernel
theorem dX7_away_21 : decode cX7_away 21 = .ok (.iconst (-1), 1) := by decide +kernel
theorem dX7_away_22 : decode cX7_away 22 = .ok (.istore_n 3, 1) := by decide +kernel
theorem dX7_away_23 : decode cX7_away 23 = .ok (.iconst 0, 1) := by decide +kernel
theorem dX7_away_24 : decode cX7_away 24 = .ok (.istore 4, 2) := by decide +kernel
theorem dX7_away_26 : decode cX7_away 26 = .ok (.iload 4, 2) := by decide +kernel
theorem dX7_away_28 : decode cX7_away 28 = .ok (.aload_n 0, 1) := by decide +kernel
theorem dX7_away_29 : decode cX7_away 29 = .ok (.getfield 54, 3) := by decide +kernel
theorem dX7_away_32 : decode cX7_away 32 = .ok (.iload_n 1, 1) := by decide +kernel
theorem dX7_away_33 : decode cX7_away 33 = .ok (.iaload, 1) := by decide +kernel
theorem dX7_away_34 : decode cX7_away 34 = .ok (.if_icmp .ge 57, 3) := by decide +kernel
theorem dX7_away_37 : decode cX7_away 37 = .ok (.aload_n 0, 1) := by decide +kernel
theorem dX7_away_38 : decode cX7_away 38 = .ok (.getfield 72, 3) := by decide +kernel
theorem dX7_away_41 : decode cX7_away 41 = .ok (.bipush 8, 2) := by decide +kernel
theorem dX7_away_43 : decode cX7_away 43 = .ok (.iload_n 1, 1) := by decide +kernel
theorem dX7_away_44 : decode cX7_away 44 = .ok (.imul, 1) := by decide +kernel
theorem dX7_away_45 : decode cX7_away 45 = .ok (.iload 4, 2) := by decide +kernel
theorem dX7_away_47 : decode cX7_away 47 = .ok (.iadd, 1) := by decide +kernel
theorem dX7_away_48 : decode cX7_away 48 = .ok (.baload, 1) := by decide +kernel
theorem dX7_away_49 : decode cX7_away 49 = .ok (.ifCond .eq 6, 3) := by decide +kernel
theorem dX7_away_52 : decode cX7_away 52 = .ok (.goto 33, 3) := by decide +kernel
theorem dX7_away_55 : decode cX7_away 55 = .ok (.aload_n 0, 1) := by decide +kernel
theorem dX7_away_56 : decode cX7_away 56 = .ok (.iload_n 1, 1) := by decide +kernel
theorem dX7_away_57 : decode cX7_away 57 = .ok (.iconst 1, 1) := by decide +kernel
theorem dX7_away_58 : decode cX7_away 58 = .ok (.iload 4, 2) := by decide +kernel
theorem dX7_away_60 : decode cX7_away 60 = .ok (.ishl, 1) := by decide +kernel
theorem dX7_away_61 : decode cX7_away 61 = .ok (.invokevirtual 321, 3) := by decide +kernel
theorem dX7_away_64 : decode cX7_away 64 = .ok (.aload_n 0, 1) := by decide +kernel
theorem dX7_away_65 : decode cX7_away 65 = .ok (.invokevirtual 325, 3) := by decide +kernel
theorem dX7_away_68 : decode cX7_away 68 = .ok (.istore 5, 2) := by decide +kernel
theorem dX7_away_70 : decode cX7_away 70 = .ok (.iload 5, 2) := by decide +kernel
theorem dX7_away_72 : decode cX7_away 72 = .ok (.iload_n 2, 1) := by decide +kernel
theorem dX7_away_73 : decode cX7_away 73 = .ok (.if_icmp .gt 6, 3) := by decide +kernel
theorem dX7_away_76 : decode cX7_away 76 = .ok (.goto 9, 3) := by decide +kernel
theorem dX7_away_79 : decode cX7_away 79 = .ok (.iload 5, 2) := by decide +kernel
theorem dX7_away_81 : decode cX7_away 81 = .ok (.istore_n 2, 1) := by decide +kernel
theorem dX7_away_82 : decode cX7_away 82 = .ok (.iload 4, 2) := by decide +kernel
theorem dX7_away_84 : decode cX7_away 84 = .ok (.istore_n 3, 1) := by decide +kernel
theorem dX7_away_85 : decode cX7_away 85 = .ok (.iinc 4 1, 3) := by decide +kernel
theorem dX7_away_88 : decode cX7_away 88 = .ok (.goto (-62), 3) := by decide +kernel
theorem dX7_away_91 : decode cX7_away 91 = .ok (.iload_n 3, 1) := by decide +kernel
theorem dX7_away_92 : decode cX7_away 92 = .ok (.ireturn, 1) := by decide +kernel
theorem dX7_met_0 : decode cX7_met 0 = .ok (.aload_n 0, 1) := by decide +kernel
theorem dX7_met_1 : decode cX7_met 1 = .ok (.getfield 247, 3) := by decide +kernel
theorem dX7_met_4 : decode cX7_met 4 = .ok (.ifCond .eq 27, 3) := by decide +kernel
theorem dX7_met_7 : decode cX7_met 7 = .ok (.iload_n 1, 1) := by decide +kernel
theorem dX7_met_8 : decode cX7_met 8 = .ok (.iconst 0, 1) := by decide +kernel
theorem dX7_met_9 : decode cX7_met 9 = .ok (.aload_n 0, 1) := by decide +kernel
theorem dX7_met_10 : decode cX7_met 10 = .ok (.getfield 51, 3) := by decide +kernel
theorem dX7_met_13 : decode cX7_met 13 = .ok (.iconst 0, 1) := by decide +kernel
theorem dX7_met_14 : decode cX7_met 14 = .ok (.iaload, 1) := by decide +kernel
theorem dX7_met_15 : decode cX7_met 15 = .ok (.invokestatic 117, 3) := by decide +kernel
theorem dX7_met_18 : decode cX7_met 18 = .ok (.ifCond .eq 13, 3) := by decide +kernel
theorem dX7_met_21 : decode cX7_met 21 = .ok (.iload_n 1, 1) := by decide +kernel
theorem dX7_met_22 : decode cX7_met 22 = .ok (.aload_n 0, 1) := by decide +kernel
theorem dX7_met_23 : decode cX7_met 23 = .ok (.getfield 51, 3) := by decide +kernel
theorem dX7_met_26 : decode cX7_met 26 = .ok (.iconst 1, 1) := by decide +kernel
theorem dX7_met_27 : decode cX7_met 27 = .ok (.iaload, 1) := by decide +kernel
theorem dX7_met_28 : decode cX7_met 28 = .ok (.if_icmp .le 5, 3) := by decide +kernel
theorem dX7_met_31 : decode cX7_met 31 = .ok (.iconst (-1), 1) := by decide +kernel
theorem dX7_met_32 : decode cX7_met 32 = .ok (.ireturn, 1) := by decide +kernel
theorem dX7_met_33 : decode cX7_met 33 = .ok (.iload_n 2, 1) := by decide +kernel
theorem dX7_met_34 : decode cX7_met 34 = .ok (.ifCond .ne 21, 3) := by decide +kernel
theorem dX7_met_37 : decode cX7_met 37 = .ok (.aload_n 0, 1) := by decide +kernel
theorem dX7_met_38 : decode cX7_met 38 = .ok (.iconst 0, 1) := by decide +kernel
theorem dX7_met_39 : decode cX7_met 39 = .ok (.iload_n 1, 1) := by decide +kernel
theorem dX7_met_40 : decode cX7_met 40 = .ok (.invokevirtual 328, 3) := by decide +kernel
theorem dX7_met_43 : decode cX7_met 43 = .ok (.aload_n 0, 1) := by decide +kernel
theorem dX7_met_44 : decode cX7_met 44 = .ok (.iconst 1, 1) := by decide +kernel
theorem dX7_met_45 : decode cX7_met 45 = .ok (.iload_n 1, 1) := by decide +kernel
theorem dX7_met_46 : decode cX7_met 46 = .ok (.invokevirtual 328, 3) := by decide +kernel
theorem dX7_met_49 : decode cX7_met 49 = .ok (.iand, 1) := by decide +kernel
theorem dX7_met_50 : decode cX7_met 50 = .ok (.sipush 255, 3) := by decide +kernel
theorem dX7_met_53 : decode cX7_met 53 = .ok (.iand, 1) := by decide +kernel
theorem dX7_met_54 : decode cX7_met 54 = .ok (.ireturn, 1) := by decide +kernel
theorem dX7_met_55 : decode cX7_met 55 = .ok (.aload_n 0, 1) := by decide +kernel
theorem dX7_met_56 : decode cX7_met 56 = .ok (.iconst 0, 1) := by decide +kernel
theorem dX7_met_57 : decode cX7_met 57 = .ok (.iload_n 1, 1) := by decide +kernel
theorem dX7_met_58 : decode cX7_met 58 = .ok (.invokevirtual 344, 3) := by decide +kernel
theorem dX7_met_61 : decode cX7_met 61 = .ok (.istore_n 3, 1) := by decide +kernel
theorem dX7_met_62 : decode cX7_met 62 = .ok (.iload_n 3, 1) := by decide +kernel
theorem dX7_met_63 : decode cX7_met 63 = .ok (.iconst (-1), 1) := by decide +kernel
theorem dX7_met_64 : decode cX7_met 64 = .ok (.if_icmp .eq 19, 3) := by decide +kernel
theorem dX7_met_67 : decode cX7_met 67 = .ok (.iload_n 3, 1) := by decide +kernel
theorem dX7_met_68 : decode cX7_met 68 = .ok (.aload_n 0, 1) := by decide +kernel
theorem dX7_met_69 : decode cX7_met 69 = .ok (.iconst 1, 1) := by decide +kernel
theorem dX7_met_70 : decode cX7_met 70 = .ok (.iload_n 1, 1) := by decide +kernel
theorem dX7_met_71 : decode cX7_met 71 = .ok (.invokevirtual 344, 3) := by decide +kernel
theorem dX7_met_74 : decode cX7_met 74 = .ok (.if_icmp .ne 9, 3) := by decide +kernel
theorem dX7_met_77 : decode cX7_met 77 = .ok (.iconst 1, 1) := by decide +kernel
theorem dX7_met_78 : decode cX7_met 78 = .ok (.iload_n 3, 1) := by decide +kernel
theorem dX7_met_79 : decode cX7_met 79 = .ok (.ishl, 1) := by decide +kernel
theorem dX7_met_80 : decode cX7_met 80 = .ok (.goto 4, 3) := by decide +kernel
theorem dX7_met_83 : decode cX7_met 83 = .ok (.iconst 0, 1) := by decide +kernel
theorem dX7_met_84 : decode cX7_met 84 = .ok (.ireturn, 1) := by decide +kernel
theorem dX7_leg_0 : decode cX7_leg 0 = .ok (.aload_n 0, 1) := by decide +kernel
theorem dX7_leg_1 : decode cX7_leg 1 = .ok (.iload_n 1, 1) := by decide +kernel
theorem dX7_leg_2 : decode cX7_leg 2 = .ok (.invokevirtual 273, 3) := by decide +kernel
theorem dX7_leg_5 : decode cX7_leg 5 = .ok (.ifCond .eq 22, 3) := by decide +kernel
theorem dX7_leg_8 : decode cX7_leg 8 = .ok (.iload_n 2, 1) := by decide +kernel
theorem dX7_leg_9 : decode cX7_leg 9 = .ok (.iconst 0, 1) := by decide +kernel
theorem dX7_leg_10 : decode cX7_leg 10 = .ok (.bipush 96, 2) := by decide +kernel
theorem dX7_leg_12 : decode cX7_leg 12 = .ok (.invokestatic 117, 3) := by decide +kernel
theorem dX7_leg_15 : decode cX7_leg 15 = .ok (.ifCond .eq 12, 3) := by decide +kernel
theorem dX7_leg_18 : decode cX7_leg 18 = .ok (.aload_n 0, 1) := by decide +kernel
theorem dX7_leg_19 : decode cX7_leg 19 = .ok (.getfield 253, 3) := by decide +kernel
theorem dX7_leg_22 : decode cX7_leg 22 = .ok (.bipush 20, 2) := by decide +kernel
theorem dX7_leg_24 : decode cX7_leg 24 = .ok (.if_icmp .ne 5, 3) := by decide +kernel
theorem dX7_leg_27 : decode cX7_leg 27 = .ok (.iconst (-1), 1) := by decide +kernel
theorem dX7_leg_28 : decode cX7_leg 28 = .ok (.ireturn, 1) := by decide +kernel
theorem dX7_leg_29 : decode cX7_leg 29 = .ok (.aload_n 0, 1) := by decide +kernel
theorem dX7_leg_30 : decode cX7_leg 30 = .ok (.getfield 76, 3) := by decide +kernel
theorem dX7_leg_33 : decode cX7_leg 33 = .ok (.aload_n 0, 1) := by decide +kernel
theorem dX7_leg_34 : decode cX7_leg 34 = .ok (.getfield 253, 3) := by decide +kernel
theorem dX7_leg_37 : decode cX7_leg 37 = .ok (.iload_n 1, 1) := by decide +kernel
theorem dX7_leg_38 : decode cX7_leg 38 = .ok (.iastore, 1) := by decide +kernel
theorem dX7_leg_39 : decode cX7_leg 39 = .ok (.aload_n 0, 1) := by decide +kernel
theorem dX7_leg_40 : decode cX7_leg 40 = .ok (.getfield 79, 3) := by decide +kernel
theorem dX7_leg_43 : decode cX7_leg 43 = .ok (.aload_n 0, 1) := by decide +kernel
theorem dX7_leg_44 : decode cX7_leg 44 = .ok (.getfield 253, 3) := by decide +kernel
theorem dX7_leg_47 : decode cX7_leg 47 = .ok (.iload_n 2, 1) := by decide +kernel
theorem dX7_leg_48 : decode cX7_leg 48 = .ok (.iastore, 1) := by decide +kernel
theorem dX7_leg_49 : decode cX7_leg 49 = .ok (.aload_n 0, 1) := by decide +kernel
theorem dX7_leg_50 : decode cX7_leg 50 = .ok (.dup, 1) := by decide +kernel
theorem dX7_leg_51 : decode cX7_leg 51 = .ok (.getfield 253, 3) := by decide +kernel
theorem dX7_leg_54 : decode cX7_leg 54 = .ok (.iconst 1, 1) := by decide +kernel
theorem dX7_leg_55 : decode cX7_leg 55 = .ok (.iadd, 1) := by decide +kernel
theorem dX7_leg_56 : decode cX7_leg 56 = .ok (.putfield 253, 3) := by decide +kernel
theorem dX7_leg_59 : decode cX7_leg 59 = .ok (.aload_n 0, 1) := by decide +kernel
theorem dX7_leg_60 : decode cX7_leg 60 = .ok (.getfield 253, 3) := by decide +kernel
theorem dX7_leg_63 : decode cX7_leg 63 = .ok (.ireturn, 1) := by decide +kernel
theorem dX7_forget_0 : decode cX7_forget 0 = .ok (.aload_n 0, 1) := by decide +kernel
theorem dX7_forget_1 : decode cX7_forget 1 = .ok (.getfield 253, 3) := by decide +kernel
theorem dX7_forget_4 : decode cX7_forget 4 = .ok (.istore_n 1, 1) := by decide +kernel
theorem dX7_forget_5 : decode cX7_forget 5 = .ok (.aload_n 0, 1) := by decide +kernel
theorem dX7_forget_6 : decode cX7_forget 6 = .ok (.iconst 0, 1) := by decide +kernel
theorem dX7_forget_7 : decode cX7_forget 7 = .ok (.putfield 253, 3) := by decide +kernel
theorem dX7_forget_10 : decode cX7_forget 10 = .ok (.iload_n 1, 1) := by decide +kernel
theorem dX7_forget_11 : decode cX7_forget 11 = .ok (.ireturn, 1) := by decide +kernel
theorem dX7_follows_0 : decode cX7_follows 0 = .ok (.iconst 0, 1) := by decide +kernel
theorem dX7_follows_1 : decode cX7_follows 1 = .ok (.istore_n 1, 1) := by decide +kernel
theorem dX7_follows_2 : decode cX7_follows 2 = .ok (.aload_n 0, 1) := by decide +kernel
theorem dX7_follows_3 : decode cX7_follows 3 = .ok (.getfield 45, 3) := by decide +kernel
theorem dX7_follows_6 : decode cX7_follows 6 = .ok (.aload_n 0, 1) := by decide +kernel
theorem dX7_follows_7 : decode cX7_follows 7 = .ok (.getfield 279, 3) := by decide +kernel
theorem dX7_follows_10 : decode cX7_follows 10 = .ok (.iaload, 1) := by decide +kernel
theorem dX7_follows_11 : decode cX7_follows 11 = .ok (.istore_n 2, 1) := by decide +kernel
theorem dX7_follows_12 : decode cX7_follows 12 = .ok (.iconst 0, 1) := by decide +kernel
theorem dX7_follows_13 : decode cX7_follows 13 = .ok (.istore_n 3, 1) := by decide +kernel
theorem dX7_follows_14 : decode cX7_follows 14 = .ok (.iload_n 3, 1) := by decide +kernel
theorem dX7_follows_15 : decode cX7_follows 15 = .ok (.aload_n 0, 1) := by decide +kernel
theorem dX7_follows_16 : decode cX7_follows 16 = .ok (.getfield 253, 3) := by decide +kernel
theorem dX7_follows_19 : decode cX7_follows 19 = .ok (.if_icmp .gt 236, 3) := by decide +kernel
theorem dX7_follows_22 : decode cX7_follows 22 = .ok (.iload_n 3, 1) := by decide +kernel
theorem dX7_follows_23 : decode cX7_follows 23 = .ok (.aload_n 0, 1) := by decide +kernel
theorem dX7_follows_24 : decode cX7_follows 24 = .ok (.getfield 253, 3) := by decide +kernel
theorem dX7_follows_27 : decode cX7_follows 27 = .ok (.if_icmp .ne 15, 3) := by decide +kernel
theorem dX7_follows_30 : decode cX7_follows 30 = .ok (.aload_n 0, 1) := by decide +kernel
theorem dX7_follows_31 : decode cX7_follows 31 = .ok (.getfield 51, 3) := by decide +kernel
theorem dX7_follows_34 : decode cX7_follows 34 = .ok (.aload_n 0, 1) := by decide +kernel
theorem dX7_follows_35 : decode cX7_follows 35 = .ok (.getfield 279, 3) := by decide +kernel
theorem dX7_follows_38 : decode cX7_follows 38 = .ok (.iaload, 1) := by decide +kernel
theorem dX7_follows_39 : decode cX7_follows 39 = .ok (.goto 9, 3) := by decide +kernel
theorem dX7_follows_42 : decode cX7_follows 42 = .ok (.aload_n 0, 1) := by decide +kernel
theorem dX7_follows_43 : decode cX7_follows 43 = .ok (.getfield 79, 3) := by decide +kernel
theorem dX7_follows_46 : decode cX7_follows 46 = .ok (.iload_n 3, 1) := by decide +kernel
theorem dX7_follows_47 : decode cX7_follows 47 = .ok (.iaload, 1) := by decide +kernel
theorem dX7_follows_48 : decode cX7_follows 48 = .ok (.istore 4, 2) := by decide +kernel
theorem dX7_follows_50 : decode cX7_follows 50 = .ok (.iload_n 3, 1) := by decide +kernel
theorem dX7_follows_51 : decode cX7_follows 51 = .ok (.aload_n 0, 1) := by decide +kernel
theorem dX7_follows_52 : decode cX7_follows 52 = .ok (.getfield 253, 3) := by decide +kernel
theorem dX7_follows_55 : decode cX7_follows 55 = .ok (.if_icmp .ge 87, 3) := by decide +kernel
theorem dX7_follows_58 : decode cX7_follows 58 = .ok (.aload_n 0, 1) := by decide +kernel
theorem dX7_follows_59 : decode cX7_follows 59 = .ok (.getfield 76, 3) := by decide +kernel
theorem dX7_follows_62 : decode cX7_follows 62 = .ok (.iload_n 3, 1) := by decide +kernel
theorem dX7_follows_63 : decode cX7_follows 63 = .ok (.iaload, 1) := by decide +kernel
theorem dX7_follows_64 : decode cX7_follows 64 = .ok (.istore 5, 2) := by decide +kernel
theorem dX7_follows_66 : decode cX7_follows 66 = .ok (.aload_n 0, 1) := by decide +kernel
theorem dX7_follows_67 : decode cX7_follows 67 = .ok (.iload 5, 2) := by decide +kernel
theorem dX7_follows_69 : decode cX7_follows 69 = .ok (.iconst 5, 1) := by decide +kernel
theorem dX7_follows_70 : decode cX7_follows 70 = .ok (.invokevirtual 276, 3) := by decide +kernel
theorem dX7_follows_73 : decode cX7_follows 73 = .ok (.iconst 1, 1) := by decide +kernel
theorem dX7_follows_74 : decode cX7_follows 74 = .ok (.if_icmp .ne 11, 3) := by decide +kernel
theorem dX7_follows_77 : decode cX7_follows 77 = .ok (.iload 4, 2) := by decide +kernel
theorem dX7_follows_79 : decode cX7_follows 79 = .ok (.bipush 24, 2) := by decide +kernel
theorem dX7_follows_81 : decode cX7_follows 81 = .ok (.irem, 1) := by decide +kernel
theorem dX7_follows_82 : decode cX7_follows 82 = .ok (.goto 5, 3) := by decide +kernel
theorem dX7_follows_85 : decode cX7_follows 85 = .ok (.iload 4, 2) := by decide +kernel
theorem dX7_follows_87 : decode cX7_follows 87 = .ok (.istore 6, 2) := by decide +kernel
theorem dX7_follows_89 : decode cX7_follows 89 = .ok (.iload 4, 2) := by decide +kernel
theorem dX7_follows_91 : decode cX7_follows 91 = .ok (.iload_n 1, 1) := by decide +kernel
theorem dX7_follows_92 : decode cX7_follows 92 = .ok (.if_icmp .lt 48, 3) := by decide +kernel
theorem dX7_follows_95 : decode cX7_follows 95 = .ok (.aload_n 0, 1) := by decide +kernel
theorem dX7_follows_96 : decode cX7_follows 96 = .ok (.iload 5, 2) := by decide +kernel
theorem dX7_follows_98 : decode cX7_follows 98 = .ok (.iconst 0, 1) := by decide +kernel
theorem dX7_follows_99 : decode cX7_follows 99 = .ok (.invokevirtual 276, 3) := by decide +kernel
theorem dX7_follows_102 : decode cX7_follows 102 = .ok (.iload_n 2, 1) := by decide +kernel
theorem dX7_follows_103 : decode cX7_follows 103 = .ok (.if_icmp .ne 37, 3) := by decide +kernel
theorem dX7_follows_106 : decode cX7_follows 106 = .ok (.aload_n 0, 1) := by decide +kernel
theorem dX7_follows_107 : decode cX7_follows 107 = .ok (.iload 5, 2) := by decide +kernel
theorem dX7_follows_109 : decode cX7_follows 109 = .ok (.iconst 2, 1) := by decide +kernel
theorem dX7_follows_110 : decode cX7_follows 110 = .ok (.invokevirtual 276, 3) := by decide +kernel
theorem dX7_follows_113 : decode cX7_follows 113 = .ok (.iload 6, 2) := by decide +kernel
theorem dX7_follows_115 : decode cX7_follows 115 = .ok (.if_icmp .ne 25, 3) := by decide +kernel
theorem dX7_follows_118 : decode cX7_follows 118 = .ok (.iload 4, 2) := by decide +kernel
theorem dX7_follows_120 : decode cX7_follows 120 = .ok (.aload_n 0, 1) := by decide +kernel
theorem dX7_follows_121 : decode cX7_follows 121 = .ok (.iload 5, 2) := by decide +kernel
theorem dX7_follows_123 : decode cX7_follows 123 = .ok (.iconst 3, 1) := by decide +kernel
theorem dX7_follows_124 : decode cX7_follows 124 = .ok (.invokevirtual 276, 3) := by decide +kernel
theorem dX7_follows_127 : decode cX7_follows 127 = .ok (.iadd, 1) := by decide +kernel
theorem dX7_follows_128 : decode cX7_follows 128 = .ok (.aload_n 0, 1) := by decide +kernel
theorem dX7_follows_129 : decode cX7_follows 129 = .ok (.getfield 51, 3) := by decide +kernel
theorem dX7_follows_132 : decode cX7_follows 132 = .ok (.aload_n 0, 1) := by decide +kernel
theorem dX7_follows_133 : decode cX7_follows 133 = .ok (.getfield 279, 3) := by decide +kernel
theorem dX7_follows_136 : decode cX7_follows 136 = .ok (.iaload, 1) := by decide +kernel
theorem dX7_follows_137 : decode cX7_follows 137 = .ok (.if_icmp .le 5, 3) := by decide +kernel
theorem dX7_follows_140 : decode cX7_follows 140 = .ok (.iload_n 3, 1) := by decide +kernel
theorem dX7_follows_141 : decode cX7_follows 141 = .ok (.ireturn, 1) := by decide +kernel
theorem dX7_follows_142 : decode cX7_follows 142 = .ok (.iload_n 1, 1) := by decide +kernel
theorem dX7_follows_143 : decode cX7_follows 143 = .ok (.iload 4, 2) := by decide +kernel
theorem dX7_follows_145 : decode cX7_follows 145 = .ok (.if_icmp .ge 23, 3) := by decide +kernel
theorem dX7_follows_148 : decode cX7_follows 148 = .ok (.aload_n 0, 1) := by decide +kernel
theorem dX7_follows_149 : decode cX7_follows 149 = .ok (.getfield 107, 3) := by decide +kernel
theorem dX7_follows_152 : decode cX7_follows 152 = .ok (.iload_n 1, 1) := by decide +kernel
theorem dX7_follows_153 : decode cX7_follows 153 = .ok (.iload_n 2, 1) := by decide +kernel
theorem dX7_follows_154 : decode cX7_follows 154 = .ok (.iastore, 1) := by decide +kernel
theorem dX7_follows_155 : decode cX7_follows 155 = .ok (.aload_n 0, 1) := by decide +kernel
theorem dX7_follows_156 : decode cX7_follows 156 = .ok (.getfield 110, 3) := by decide +kernel
theorem dX7_follows_159 : decode cX7_follows 159 = .ok (.iload_n 1, 1) := by decide +kernel
theorem dX7_follows_160 : decode cX7_follows 160 = .ok (.iconst 1, 1) := by decide +kernel
theorem dX7_follows_161 : decode cX7_follows 161 = .ok (.bastore, 1) := by decide +kernel
theorem dX7_follows_162 : decode cX7_follows 162 = .ok (.iinc 1 1, 3) := by decide +kernel
theorem dX7_follows_165 : decode cX7_follows 165 = .ok (.goto (-23), 3) := by decide +kernel
theorem dX7_follows_168 : decode cX7_follows 168 = .ok (.iload_n 3, 1) := by decide +kernel
theorem dX7_follows_169 : decode cX7_follows 169 = .ok (.aload_n 0, 1) := by decide +kernel
theorem dX7_follows_170 : decode cX7_follows 170 = .ok (.getfield 253, 3) := by decide +kernel
theorem dX7_follows_173 : decode cX7_follows 173 = .ok (.if_icmp .ne 6, 3) := by decide +kernel
theorem dX7_follows_176 : decode cX7_follows 176 = .ok (.goto 79, 3) := by decide +kernel
theorem dX7_follows_179 : decode cX7_follows 179 = .ok (.aload_n 0, 1) := by decide +kernel
theorem dX7_follows_180 : decode cX7_follows 180 = .ok (.getfield 107, 3) := by decide +kernel
theorem dX7_follows_183 : decode cX7_follows 183 = .ok (.iload_n 1, 1) := by decide +kernel
theorem dX7_follows_184 : decode cX7_follows 184 = .ok (.iload_n 2, 1) := by decide +kernel
theorem dX7_follows_185 : decode cX7_follows 185 = .ok (.iastore, 1) := by decide +kernel
theorem dX7_follows_186 : decode cX7_follows 186 = .ok (.aload_n 0, 1) := by decide +kernel
theorem dX7_follows_187 : decode cX7_follows 187 = .ok (.getfield 110, 3) := by decide +kernel
theorem dX7_follows_190 : decode cX7_follows 190 = .ok (.iload_n 1, 1) := by decide +kernel
theorem dX7_follows_191 : decode cX7_follows 191 = .ok (.iconst 0, 1) := by decide +kernel
theorem dX7_follows_192 : decode cX7_follows 192 = .ok (.bastore, 1) := by decide +kernel
theorem dX7_follows_193 : decode cX7_follows 193 = .ok (.iload_n 1, 1) := by decide +kernel
theorem dX7_follows_194 : decode cX7_follows 194 = .ok (.aload_n 0, 1) := by decide +kernel
theorem dX7_follows_195 : decode cX7_follows 195 = .ok (.aload_n 0, 1) := by decide +kernel
theorem dX7_follows_196 : decode cX7_follows 196 = .ok (.getfield 76, 3) := by decide +kernel
theorem dX7_follows_199 : decode cX7_follows 199 = .ok (.iload_n 3, 1) := by decide +kernel
theorem dX7_follows_200 : decode cX7_follows 200 = .ok (.iaload, 1) := by decide +kernel
theorem dX7_follows_201 : decode cX7_follows 201 = .ok (.iconst 3, 1) := by decide +kernel
theorem dX7_follows_202 : decode cX7_follows 202 = .ok (.invokevirtual 276, 3) := by decide +kernel
theorem dX7_follows_205 : decode cX7_follows 205 = .ok (.iadd, 1) := by decide +kernel
theorem dX7_follows_206 : decode cX7_follows 206 = .ok (.istore 5, 2) := by decide +kernel
theorem dX7_follows_208 : decode cX7_follows 208 = .ok (.iinc 1 1, 3) := by decide +kernel
theorem dX7_follows_211 : decode cX7_follows 211 = .ok (.iload_n 1, 1) := by decide +kernel
theorem dX7_follows_212 : decode cX7_follows 212 = .ok (.iload 5, 2) := by decide +kernel
theorem dX7_follows_214 : decode cX7_follows 214 = .ok (.if_icmp .ge 23, 3) := by decide +kernel
theorem dX7_follows_217 : decode cX7_follows 217 = .ok (.aload_n 0, 1) := by decide +kernel
theorem dX7_follows_218 : decode cX7_follows 218 = .ok (.getfield 107, 3) := by decide +kernel
theorem dX7_follows_221 : decode cX7_follows 221 = .ok (.iload_n 1, 1) := by decide +kernel
theorem dX7_follows_222 : decode cX7_follows 222 = .ok (.iconst (-1), 1) := by decide +kernel
theorem dX7_follows_223 : decode cX7_follows 223 = .ok (.iastore, 1) := by decide +kernel
theorem dX7_follows_224 : decode cX7_follows 224 = .ok (.aload_n 0, 1) := by decide +kernel
theorem dX7_follows_225 : decode cX7_follows 225 = .ok (.getfield 110, 3) := by decide +kernel
theorem dX7_follows_228 : decode cX7_follows 228 = .ok (.iload_n 1, 1) := by decide +kernel
theorem dX7_follows_229 : decode cX7_follows 229 = .ok (.iconst 0, 1) := by decide +kernel
theorem dX7_follows_230 : decode cX7_follows 230 = .ok (.bastore, 1) := by decide +kernel
theorem dX7_follows_231 : decode cX7_follows 231 = .ok (.iinc 1 1, 3) := by decide +kernel
theorem dX7_follows_234 : decode cX7_follows 234 = .ok (.goto (-23), 3) := by decide +kernel
theorem dX7_follows_237 : decode cX7_follows 237 = .ok (.aload_n 0, 1) := by decide +kernel
theorem dX7_follows_238 : decode cX7_follows 238 = .ok (.aload_n 0, 1) := by decide +kernel
theorem dX7_follows_239 : decode cX7_follows 239 = .ok (.getfield 76, 3) := by decide +kernel
theorem dX7_follows_242 : decode cX7_follows 242 = .ok (.iload_n 3, 1) := by decide +kernel
theorem dX7_follows_243 : decode cX7_follows 243 = .ok (.iaload, 1) := by decide +kernel
theorem dX7_follows_244 : decode cX7_follows 244 = .ok (.iconst 1, 1) := by decide +kernel
theorem dX7_follows_245 : decode cX7_follows 245 = .ok (.invokevirtual 276, 3) := by decide +kernel
theorem dX7_follows_248 : decode cX7_follows 248 = .ok (.istore_n 2, 1) := by decide +kernel
theorem dX7_follows_249 : decode cX7_follows 249 = .ok (.iinc 3 1, 3) := by decide +kernel
theorem dX7_follows_252 : decode cX7_follows 252 = .ok (.goto (-238), 3) := by decide +kernel
theorem dX7_follows_255 : decode cX7_follows 255 = .ok (.aload_n 0, 1) := by decide +kernel
theorem dX7_follows_256 : decode cX7_follows 256 = .ok (.getfield 107, 3) := by decide +kernel
theorem dX7_follows_259 : decode cX7_follows 259 = .ok (.aload_n 0, 1) := by decide +kernel
theorem dX7_follows_260 : decode cX7_follows 260 = .ok (.getfield 51, 3) := by decide +kernel
theorem dX7_follows_263 : decode cX7_follows 263 = .ok (.aload_n 0, 1) := by decide +kernel
theorem dX7_follows_264 : decode cX7_follows 264 = .ok (.getfield 279, 3) := by decide +kernel
theorem dX7_follows_267 : decode cX7_follows 267 = .ok (.iaload, 1) := by decide +kernel
theorem dX7_follows_268 : decode cX7_follows 268 = .ok (.iload_n 2, 1) := by decide +kernel
theorem dX7_follows_269 : decode cX7_follows 269 = .ok (.iastore, 1) := by decide +kernel
theorem dX7_follows_270 : decode cX7_follows 270 = .ok (.iconst (-1), 1) := by decide +kernel
theorem dX7_follows_271 : decode cX7_follows 271 = .ok (.ireturn, 1) := by decide +kernel
theorem dX7_sleepless_0 : decode cX7_sleepless 0 = .ok (.iconst 0, 1) := by decide +kernel
theorem dX7_sleepless_1 : decode cX7_sleepless 1 = .ok (.istore_n 1, 1) := by decide +kernel
theorem dX7_sleepless_2 : decode cX7_sleepless 2 = .ok (.bipush 24, 2) := by decide +kernel
theorem dX7_sleepless_4 : decode cX7_sleepless 4 = .ok (.iload_n 1, 1) := by decide +kernel
theorem dX7_sleepless_5 : decode cX7_sleepless 5 = .ok (.imul, 1) := by decide +kernel
theorem dX7_sleepless_6 : decode cX7_sleepless 6 = .ok (.bipush 8, 2) := by decide +kernel
theorem dX7_sleepless_8 : decode cX7_sleepless 8 = .ok (.iadd, 1) := by decide +kernel
theorem dX7_sleepless_9 : decode cX7_sleepless 9 = .ok (.aload_n 0, 1) := by decide +kernel
theorem dX7_sleepless_10 : decode cX7_sleepless 10 = .ok (.getfield 51, 3) := by decide +kernel
theorem dX7_sleepless_13 : decode cX7_sleepless 13 = .ok (.aload_n 0, 1) := by decide +kernel
theorem dX7_sleepless_14 : decode cX7_sleepless 14 = .ok (.getfield 279, 3) := by decide +kernel
theorem dX7_sleepless_17 : decode cX7_sleepless 17 = .ok (.iaload, 1) := by decide +kernel
theorem dX7_sleepless_18 : decode cX7_sleepless 18 = .ok (.if_icmp .gt 65, 3) := by decide +kernel
theorem dX7_sleepless_21 : decode cX7_sleepless 21 = .ok (.iconst 0, 1) := by decide +kernel
theorem dX7_sleepless_22 : decode cX7_sleepless 22 = .ok (.istore_n 2, 1) := by decide +kernel
theorem dX7_sleepless_23 : decode cX7_sleepless 23 = .ok (.bipush 24, 2) := by decide +kernel
theorem dX7_sleepless_25 : decode cX7_sleepless 25 = .ok (.iload_n 1, 1) := by decide +kernel
theorem dX7_sleepless_26 : decode cX7_sleepless 26 = .ok (.imul, 1) := by decide +kernel
theorem dX7_sleepless_27 : decode cX7_sleepless 27 = .ok (.istore_n 3, 1) := by decide +kernel
theorem dX7_sleepless_28 : decode cX7_sleepless 28 = .ok (.iload_n 3, 1) := by decide +kernel
theorem dX7_sleepless_29 : decode cX7_sleepless 29 = .ok (.bipush 24, 2) := by decide +kernel
theorem dX7_sleepless_31 : decode cX7_sleepless 31 = .ok (.iload_n 1, 1) := by decide +kernel
theorem dX7_sleepless_32 : decode cX7_sleepless 32 = .ok (.imul, 1) := by decide +kernel
theorem dX7_sleepless_33 : decode cX7_sleepless 33 = .ok (.bipush 8, 2) := by decide +kernel
theorem dX7_sleepless_35 : decode cX7_sleepless 35 = .ok (.iadd, 1) := by decide +kernel
theorem dX7_sleepless_36 : decode cX7_sleepless 36 = .ok (.if_icmp .ge 26, 3) := by decide +kernel
theorem dX7_sleepless_39 : decode cX7_sleepless 39 = .ok (.iload_n 2, 1) := by decide +kernel
theorem dX7_sleepless_40 : decode cX7_sleepless 40 = .ok (.aload_n 0, 1) := by decide +kernel
theorem dX7_sleepless_41 : decode cX7_sleepless 41 = .ok (.getfield 110, 3) := by decide +kernel
theorem dX7_sleepless_44 : decode cX7_sleepless 44 = .ok (.iload_n 3, 1) := by decide +kernel
theorem dX7_sleepless_45 : decode cX7_sleepless 45 = .ok (.baload, 1) := by decide +kernel
theorem dX7_sleepless_46 : decode cX7_sleepless 46 = .ok (.ifCond .eq 7, 3) := by decide +kernel
theorem dX7_sleepless_49 : decode cX7_sleepless 49 = .ok (.iconst 1, 1) := by decide +kernel
theorem dX7_sleepless_50 : decode cX7_sleepless 50 = .ok (.goto 4, 3) := by decide +kernel
theorem dX7_sleepless_53 : decode cX7_sleepless 53 = .ok (.iconst 0, 1) := by decide +kernel
theorem dX7_sleepless_54 : decode cX7_sleepless 54 = .ok (.iadd, 1) := by decide +kernel
theorem dX7_sleepless_55 : decode cX7_sleepless 55 = .ok (.istore_n 2, 1) := by decide +kernel
theorem dX7_sleepless_56 : decode cX7_sleepless 56 = .ok (.iinc 3 1, 3) := by decide +kernel
theorem dX7_sleepless_59 : decode cX7_sleepless 59 = .ok (.goto (-31), 3) := by decide +kernel
theorem dX7_sleepless_62 : decode cX7_sleepless 62 = .ok (.iload_n 2, 1) := by decide +kernel
theorem dX7_sleepless_63 : decode cX7_sleepless 63 = .ok (.aload_n 0, 1) := by decide +kernel
theorem dX7_sleepless_64 : decode cX7_sleepless 64 = .ok (.getfield 48, 3) := by decide +kernel
theorem dX7_sleepless_67 : decode cX7_sleepless 67 = .ok (.aload_n 0, 1) := by decide +kernel
theorem dX7_sleepless_68 : decode cX7_sleepless 68 = .ok (.getfield 279, 3) := by decide +kernel
theorem dX7_sleepless_71 : decode cX7_sleepless 71 = .ok (.iaload, 1) := by decide +kernel
theorem dX7_sleepless_72 : decode cX7_sleepless 72 = .ok (.if_icmp .ge 5, 3) := by decide +kernel
theorem dX7_sleepless_75 : decode cX7_sleepless 75 = .ok (.iload_n 1, 1) := by decide +kernel
theorem dX7_sleepless_76 : decode cX7_sleepless 76 = .ok (.ireturn, 1) := by decide +kernel
theorem dX7_sleepless_77 : decode cX7_sleepless 77 = .ok (.iinc 1 1, 3) := by decide +kernel
theorem dX7_sleepless_80 : decode cX7_sleepless 80 = .ok (.goto (-78), 3) := by decide +kernel
theorem dX7_sleepless_83 : decode cX7_sleepless 83 = .ok (.iconst (-1), 1) := by decide +kernel
theorem dX7_sleepless_84 : decode cX7_sleepless 84 = .ok (.ireturn, 1) := by decide +kernel
theorem dX7_wrongStamp_0 : decode cX7_wrongStamp 0 = .ok (.iconst 0, 1) := by decide +kernel
theorem dX7_wrongStamp_1 : decode cX7_wrongStamp 1 = .ok (.istore_n 1, 1) := by decide +kernel
theorem dX7_wrongStamp_2 : decode cX7_wrongStamp 2 = .ok (.iconst 0, 1) := by decide +kernel
theorem dX7_wrongStamp_3 : decode cX7_wrongStamp 3 = .ok (.istore_n 2, 1) := by decide +kernel
theorem dX7_wrongStamp_4 : decode cX7_wrongStamp 4 = .ok (.iload_n 2, 1) := by decide +kernel
theorem dX7_wrongStamp_5 : decode cX7_wrongStamp 5 = .ok (.aload_n 0, 1) := by decide +kernel
theorem dX7_wrongStamp_6 : decode cX7_wrongStamp 6 = .ok (.getfield 253, 3) := by decide +kernel
theorem dX7_wrongStamp_9 : decode cX7_wrongStamp 9 = .ok (.if_icmp .ge 138, 3) := by decide +kernel
theorem dX7_wrongStamp_12 : decode cX7_wrongStamp 12 = .ok (.aload_n 0, 1) := by decide +kernel
theorem dX7_wrongStamp_13 : decode cX7_wrongStamp 13 = .ok (.aload_n 0, 1) := by decide +kernel
theorem dX7_wrongStamp_14 : decode cX7_wrongStamp 14 = .ok (.getfield 76, 3) := by decide +kernel
theorem dX7_wrongStamp_17 : decode cX7_wrongStamp 17 = .ok (.iload_n 2, 1) := by decide +kernel
theorem dX7_wrongStamp_18 : decode cX7_wrongStamp 18 = .ok (.iaload, 1) := by decide +kernel
theorem dX7_wrongStamp_19 : decode cX7_wrongStamp 19 = .ok (.iconst 0, 1) := by decide +kernel
theorem dX7_wrongStamp_20 : decode cX7_wrongStamp 20 = .ok (.invokevirtual 276, 3) := by decide +kernel
theorem dX7_wrongStamp_23 : decode cX7_wrongStamp 23 = .ok (.istore_n 3, 1) := by decide +kernel
theorem dX7_wrongStamp_24 : decode cX7_wrongStamp 24 = .ok (.aload_n 0, 1) := by decide +kernel
theorem dX7_wrongStamp_25 : decode cX7_wrongStamp 25 = .ok (.aload_n 0, 1) := by decide +kernel
theorem dX7_wrongStamp_26 : decode cX7_wrongStamp 26 = .ok (.getfield 76, 3) := by decide +kernel
theorem dX7_wrongStamp_29 : decode cX7_wrongStamp 29 = .ok (.iload_n 2, 1) := by decide +kernel
theorem dX7_wrongStamp_30 : decode cX7_wrongStamp 30 = .ok (.iaload, 1) := by decide +kernel
theorem dX7_wrongStamp_31 : decode cX7_wrongStamp 31 = .ok (.iconst 1, 1) := by decide +kernel
theorem dX7_wrongStamp_32 : decode cX7_wrongStamp 32 = .ok (.invokevirtual 276, 3) := by decide +kernel
theorem dX7_wrongStamp_35 : decode cX7_wrongStamp 35 = .ok (.istore 4, 2) := by decide +kernel
theorem dX7_wrongStamp_37 : decode cX7_wrongStamp 37 = .ok (.iconst 0, 1) := by decide +kernel
theorem dX7_wrongStamp_38 : decode cX7_wrongStamp 38 = .ok (.istore 5, 2) := by decide +kernel
theorem dX7_wrongStamp_40 : decode cX7_wrongStamp 40 = .ok (.iload 5, 2) := by decide +kernel
theorem dX7_wrongStamp_42 : decode cX7_wrongStamp 42 = .ok (.iconst 2, 1) := by decide +kernel
theorem dX7_wrongStamp_43 : decode cX7_wrongStamp 43 = .ok (.if_icmp .ge 98, 3) := by decide +kernel
theorem dX7_wrongStamp_46 : decode cX7_wrongStamp 46 = .ok (.aload_n 0, 1) := by decide +kernel
theorem dX7_wrongStamp_47 : decode cX7_wrongStamp 47 = .ok (.getfield 36, 3) := by decide +kernel
theorem dX7_wrongStamp_50 : decode cX7_wrongStamp 50 = .ok (.iload_n 3, 1) := by decide +kernel
theorem dX7_wrongStamp_51 : decode cX7_wrongStamp 51 = .ok (.iaload, 1) := by decide +kernel
theorem dX7_wrongStamp_52 : decode cX7_wrongStamp 52 = .ok (.aload_n 0, 1) := by decide +kernel
theorem dX7_wrongStamp_53 : decode cX7_wrongStamp 53 = .ok (.getfield 36, 3) := by decide +kernel
theorem dX7_wrongStamp_56 : decode cX7_wrongStamp 56 = .ok (.iload 4, 2) := by decide +kernel
theorem dX7_wrongStamp_58 : decode cX7_wrongStamp 58 = .ok (.iaload, 1) := by decide +kernel
theorem dX7_wrongStamp_59 : decode cX7_wrongStamp 59 = .ok (.if_icmp .eq 82, 3) := by decide +kernel
theorem dX7_wrongStamp_62 : decode cX7_wrongStamp 62 = .ok (.iload 5, 2) := by decide +kernel
theorem dX7_wrongStamp_64 : decode cX7_wrongStamp 64 = .ok (.ifCond .ne 25, 3) := by decide +kernel
theorem dX7_wrongStamp_67 : decode cX7_wrongStamp 67 = .ok (.aload_n 0, 1) := by decide +kernel
theorem dX7_wrongStamp_68 : decode cX7_wrongStamp 68 = .ok (.iload_n 1, 1) := by decide +kernel
theorem dX7_wrongStamp_69 : decode cX7_wrongStamp 69 = .ok (.aload_n 0, 1) := by decide +kernel
theorem dX7_wrongStamp_70 : decode cX7_wrongStamp 70 = .ok (.getfield 36, 3) := by decide +kernel
theorem dX7_wrongStamp_73 : decode cX7_wrongStamp 73 = .ok (.iload_n 3, 1) := by decide +kernel
theorem dX7_wrongStamp_74 : decode cX7_wrongStamp 74 = .ok (.iaload, 1) := by decide +kernel
theorem dX7_wrongStamp_75 : decode cX7_wrongStamp 75 = .ok (.iconst 1, 1) := by decide +kernel
theorem dX7_wrongStamp_76 : decode cX7_wrongStamp 76 = .ok (.aload_n 0, 1) := by decide +kernel
theorem dX7_wrongStamp_77 : decode cX7_wrongStamp 77 = .ok (.getfield 79, 3) := by decide +kernel
theorem dX7_wrongStamp_80 : decode cX7_wrongStamp 80 = .ok (.iload_n 2, 1) := by decide +kernel
theorem dX7_wrongStamp_81 : decode cX7_wrongStamp 81 = .ok (.iaload, 1) := by decide +kernel
theorem dX7_wrongStamp_82 : decode cX7_wrongStamp 82 = .ok (.iload_n 3, 1) := by decide +kernel
theorem dX7_wrongStamp_83 : decode cX7_wrongStamp 83 = .ok (.invokevirtual 300, 3) := by decide +kernel
theorem dX7_wrongStamp_86 : decode cX7_wrongStamp 86 = .ok (.goto 36, 3) := by decide +kernel
theorem dX7_wrongStamp_89 : decode cX7_wrongStamp 89 = .ok (.aload_n 0, 1) := by decide +kernel
theorem dX7_wrongStamp_90 : decode cX7_wrongStamp 90 = .ok (.iload_n 1, 1) := by decide +kernel
theorem dX7_wrongStamp_91 : decode cX7_wrongStamp 91 = .ok (.aload_n 0, 1) := by decide +kernel
theorem dX7_wrongStamp_92 : decode cX7_wrongStamp 92 = .ok (.getfield 36, 3) := by decide +kernel
theorem dX7_wrongStamp_95 : decode cX7_wrongStamp 95 = .ok (.iload 4, 2) := by decide +kernel
theorem dX7_wrongStamp_97 : decode cX7_wrongStamp 97 = .ok (.iaload, 1) := by decide +kernel
theorem dX7_wrongStamp_98 : decode cX7_wrongStamp 98 = .ok (.iconst 0, 1) := by decide +kernel
theorem dX7_wrongStamp_99 : decode cX7_wrongStamp 99 = .ok (.aload_n 0, 1) := by decide +kernel
theorem dX7_wrongStamp_100 : decode cX7_wrongStamp 100 = .ok (.getfield 79, 3) := by decide +kernel
theorem dX7_wrongStamp_103 : decode cX7_wrongStamp 103 = .ok (.iload_n 2, 1) := by decide +kernel
theorem dX7_wrongStamp_104 : decode cX7_wrongStamp 104 = .ok (.iaload, 1) := by decide +kernel
theorem dX7_wrongStamp_105 : decode cX7_wrongStamp 105 = .ok (.aload_n 0, 1) := by decide +kernel
theorem dX7_wrongStamp_106 : decode cX7_wrongStamp 106 = .ok (.aload_n 0, 1) := by decide +kernel
theorem dX7_wrongStamp_107 : decode cX7_wrongStamp 107 = .ok (.getfield 76, 3) := by decide +kernel
theorem dX7_wrongStamp_110 : decode cX7_wrongStamp 110 = .ok (.iload_n 2, 1) := by decide +kernel
theorem dX7_wrongStamp_111 : decode cX7_wrongStamp 111 = .ok (.iaload, 1) := by decide +kernel
theorem dX7_wrongStamp_112 : decode cX7_wrongStamp 112 = .ok (.iconst 3, 1) := by decide +kernel
theorem dX7_wrongStamp_113 : decode cX7_wrongStamp 113 = .ok (.invokevirtual 276, 3) := by decide +kernel
theorem dX7_wrongStamp_116 : decode cX7_wrongStamp 116 = .ok (.iadd, 1) := by decide +kernel
theorem dX7_wrongStamp_117 : decode cX7_wrongStamp 117 = .ok (.iload 4, 2) := by decide +kernel
theorem dX7_wrongStamp_119 : decode cX7_wrongStamp 119 = .ok (.invokevirtual 300, 3) := by decide +kernel
theorem dX7_wrongStamp_122 : decode cX7_wrongStamp 122 = .ok (.istore 6, 2) := by decide +kernel
theorem dX7_wrongStamp_124 : decode cX7_wrongStamp 124 = .ok (.iload 6, 2) := by decide +kernel
theorem dX7_wrongStamp_126 : decode cX7_wrongStamp 126 = .ok (.iconst (-1), 1) := by decide +kernel
theorem dX7_wrongStamp_127 : decode cX7_wrongStamp 127 = .ok (.if_icmp .ne 5, 3) := by decide +kernel
theorem dX7_wrongStamp_130 : decode cX7_wrongStamp 130 = .ok (.iload_n 1, 1) := by decide +kernel
theorem dX7_wrongStamp_131 : decode cX7_wrongStamp 131 = .ok (.ireturn, 1) := by decide +kernel
theorem dX7_wrongStamp_132 : decode cX7_wrongStamp 132 = .ok (.iload 6, 2) := by decide +kernel
theorem dX7_wrongStamp_134 : decode cX7_wrongStamp 134 = .ok (.istore_n 1, 1) := by decide +kernel
theorem dX7_wrongStamp_135 : decode cX7_wrongStamp 135 = .ok (.iinc 5 1, 3) := by decide +kernel
theorem dX7_wrongStamp_138 : decode cX7_wrongStamp 138 = .ok (.goto (-98), 3) := by decide +kernel
theorem dX7_wrongStamp_141 : decode cX7_wrongStamp 141 = .ok (.iinc 2 1, 3) := by decide +kernel
theorem dX7_wrongStamp_144 : decode cX7_wrongStamp 144 = .ok (.goto (-140), 3) := by decide +kernel
theorem dX7_wrongStamp_147 : decode cX7_wrongStamp 147 = .ok (.iload_n 1, 1) := by decide +kernel
theorem dX7_wrongStamp_148 : decode cX7_wrongStamp 148 = .ok (.aload_n 0, 1) := by decide +kernel
theorem dX7_wrongStamp_149 : decode cX7_wrongStamp 149 = .ok (.getfield 282, 3) := by decide +kernel
theorem dX7_wrongStamp_152 : decode cX7_wrongStamp 152 = .ok (.if_icmp .ne 7, 3) := by decide +kernel
theorem dX7_wrongStamp_155 : decode cX7_wrongStamp 155 = .ok (.iconst (-1), 1) := by decide +kernel
theorem dX7_wrongStamp_156 : decode cX7_wrongStamp 156 = .ok (.goto 4, 3) := by decide +kernel
theorem dX7_wrongStamp_159 : decode cX7_wrongStamp 159 = .ok (.iload_n 1, 1) := by decide +kernel
theorem dX7_wrongStamp_160 : decode cX7_wrongStamp 160 = .ok (.ireturn, 1) := by decide +kernel
theorem dX7_barred_0 : decode cX7_barred 0 = .ok (.aload_n 0, 1) := by decide +kernel
theorem dX7_barred_1 : decode cX7_barred 1 = .ok (.iload_n 1, 1) := by decide +kernel
theorem dX7_barred_2 : decode cX7_barred 2 = .ok (.invokevirtual 256, 3) := by decide +kernel
theorem dX7_barred_5 : decode cX7_barred 5 = .ok (.ifCond .ne 5, 3) := by decide +kernel
theorem dX7_barred_8 : decode cX7_barred 8 = .ok (.iconst (-1), 1) := by decide +kernel
theorem dX7_barred_9 : decode cX7_barred 9 = .ok (.ireturn, 1) := by decide +kernel
theorem dX7_barred_10 : decode cX7_barred 10 = .ok (.aload_n 0, 1) := by decide +kernel
theorem dX7_barred_11 : decode cX7_barred 11 = .ok (.iload_n 1, 1) := by decide +kernel
theorem dX7_barred_12 : decode cX7_barred 12 = .ok (.iconst 0, 1) := by decide +kernel
theorem dX7_barred_13 : decode cX7_barred 13 = .ok (.invokevirtual 321, 3) := by decide +kernel
theorem dX7_barred_16 : decode cX7_barred 16 = .ok (.aload_n 0, 1) := by decide +kernel
theorem dX7_barred_17 : decode cX7_barred 17 = .ok (.invokevirtual 347, 3) := by decide +kernel
theorem dX7_barred_20 : decode cX7_barred 20 = .ok (.istore_n 2, 1) := by decide +kernel
theorem dX7_barred_21 : decode cX7_barred 21 = .ok (.iload_n 2, 1) := by decide +kernel
theorem dX7_barred_22 : decode cX7_barred 22 = .ok (.iconst (-1), 1) := by decide +kernel
theorem dX7_barred_23 : decode cX7_barred 23 = .ok (.if_icmp .eq 8, 3) := by decide +kernel
theorem dX7_barred_26 : decode cX7_barred 26 = .ok (.bipush 100, 2) := by decide +kernel
theorem dX7_barred_28 : decode cX7_barred 28 = .ok (.iload_n 2, 1) := by decide +kernel
theorem dX7_barred_29 : decode cX7_barred 29 = .ok (.iadd, 1) := by decide +kernel
theorem dX7_barred_30 : decode cX7_barred 30 = .ok (.ireturn, 1) := by decide +kernel
theorem dX7_barred_31 : decode cX7_barred 31 = .ok (.aload_n 0, 1) := by decide +kernel
theorem dX7_barred_32 : decode cX7_barred 32 = .ok (.invokevirtual 350, 3) := by decide +kernel
theorem dX7_barred_35 : decode cX7_barred 35 = .ok (.istore_n 2, 1) := by decide +kernel
theorem dX7_barred_36 : decode cX7_barred 36 = .ok (.iload_n 2, 1) := by decide +kernel
theorem dX7_barred_37 : decode cX7_barred 37 = .ok (.iconst (-1), 1) := by decide +kernel
theorem dX7_barred_38 : decode cX7_barred 38 = .ok (.if_icmp .eq 9, 3) := by decide +kernel
theorem dX7_barred_41 : decode cX7_barred 41 = .ok (.sipush 200, 3) := by decide +kernel
theorem dX7_barred_44 : decode cX7_barred 44 = .ok (.iload_n 2, 1) := by decide +kernel
theorem dX7_barred_45 : decode cX7_barred 45 = .ok (.iadd, 1) := by decide +kernel
theorem dX7_barred_46 : decode cX7_barred 46 = .ok (.ireturn, 1) := by decide +kernel
theorem dX7_barred_47 : decode cX7_barred 47 = .ok (.aload_n 0, 1) := by decide +kernel
theorem dX7_barred_48 : decode cX7_barred 48 = .ok (.invokevirtual 353, 3) := by decide +kernel
theorem dX7_barred_51 : decode cX7_barred 51 = .ok (.istore_n 2, 1) := by decide +kernel
theorem dX7_barred_52 : decode cX7_barred 52 = .ok (.iload_n 2, 1) := by decide +kernel
theorem dX7_barred_53 : decode cX7_barred 53 = .ok (.iconst (-1), 1) := by decide +kernel
theorem dX7_barred_54 : decode cX7_barred 54 = .ok (.if_icmp .eq 9, 3) := by decide +kernel
theorem dX7_barred_57 : decode cX7_barred 57 = .ok (.sipush 300, 3) := by decide +kernel
theorem dX7_barred_60 : decode cX7_barred 60 = .ok (.iload_n 2, 1) := by decide +kernel
theorem dX7_barred_61 : decode cX7_barred 61 = .ok (.iadd, 1) := by decide +kernel
theorem dX7_barred_62 : decode cX7_barred 62 = .ok (.ireturn, 1) := by decide +kernel
theorem dX7_barred_63 : decode cX7_barred 63 = .ok (.iconst 1, 1) := by decide +kernel
theorem dX7_barred_64 : decode cX7_barred 64 = .ok (.istore_n 3, 1) := by decide +kernel
theorem dX7_barred_65 : decode cX7_barred 65 = .ok (.iload_n 3, 1) := by decide +kernel
theorem dX7_barred_66 : decode cX7_barred 66 = .ok (.iconst 2, 1) := by decide +kernel
theorem dX7_barred_67 : decode cX7_barred 67 = .ok (.if_icmp .gt 170, 3) := by decide +kernel
theorem dX7_barred_70 : decode cX7_barred 70 = .ok (.iconst 0, 1) := by decide +kernel
theorem dX7_barred_71 : decode cX7_barred 71 = .ok (.istore 4, 2) := by decide +kernel
theorem dX7_barred_73 : decode cX7_barred 73 = .ok (.iload 4, 2) := by decide +kernel
theorem dX7_barred_75 : decode cX7_barred 75 = .ok (.aload_n 0, 1) := by decide +kernel
theorem dX7_barred_76 : decode cX7_barred 76 = .ok (.getfield 54, 3) := by decide +kernel
theorem dX7_barred_79 : decode cX7_barred 79 = .ok (.iload_n 1, 1) := by decide +kernel
theorem dX7_barred_80 : decode cX7_barred 80 = .ok (.iaload, 1) := by decide +kernel
theorem dX7_barred_81 : decode cX7_barred 81 = .ok (.if_icmp .ge 150, 3) := by decide +kernel
theorem dX7_barred_84 : decode cX7_barred 84 = .ok (.bipush 8, 2) := by decide +kernel
theorem dX7_barred_86 : decode cX7_barred 86 = .ok (.iload_n 1, 1) := by decide +kernel
theorem dX7_barred_87 : decode cX7_barred 87 = .ok (.imul, 1) := by decide +kernel
theorem dX7_barred_88 : decode cX7_barred 88 = .ok (.iload 4, 2) := by decide +kernel
theorem dX7_barred_90 : decode cX7_barred 90 = .ok (.iadd, 1) := by decide +kernel
theorem dX7_barred_91 : decode cX7_barred 91 = .ok (.istore 5, 2) := by decide +kernel
theorem dX7_barred_93 : decode cX7_barred 93 = .ok (.aload_n 0, 1) := by decide +kernel
theorem dX7_barred_94 : decode cX7_barred 94 = .ok (.getfield 72, 3) := by decide +kernel
theorem dX7_barred_97 : decode cX7_barred 97 = .ok (.iload 5, 2) := by decide +kernel
theorem dX7_barred_99 : decode cX7_barred 99 = .ok (.baload, 1) := by decide +kernel
theorem dX7_barred_100 : decode cX7_barred 100 = .ok (.ifCond .ne 125, 3) := by decide +kernel
theorem dX7_barred_103 : decode cX7_barred 103 = .ok (.aload_n 0, 1) := by decide +kernel
theorem dX7_barred_104 : decode cX7_barred 104 = .ok (.getfield 57, 3) := by decide +kernel
theorem dX7_barred_107 : decode cX7_barred 107 = .ok (.iload 5, 2) := by decide +kernel
theorem dX7_barred_109 : decode cX7_barred 109 = .ok (.iaload, 1) := by decide +kernel
theorem dX7_barred_110 : decode cX7_barred 110 = .ok (.iload_n 3, 1) := by decide +kernel
theorem dX7_barred_111 : decode cX7_barred 111 = .ok (.if_icmp .ne 114, 3) := by decide +kernel
theorem dX7_barred_114 : decode cX7_barred 114 = .ok (.iload_n 3, 1) := by decide +kernel
theorem dX7_barred_115 : decode cX7_barred 115 = .ok (.iconst 1, 1) := by decide +kernel
theorem dX7_barred_116 : decode cX7_barred 116 = .ok (.if_icmp .ne 22, 3) := by decide +kernel
theorem dX7_barred_119 : decode cX7_barred 119 = .ok (.aload_n 0, 1) := by decide +kernel
theorem dX7_barred_120 : decode cX7_barred 120 = .ok (.getfield 63, 3) := by decide +kernel
theorem dX7_barred_123 : decode cX7_barred 123 = .ok (.iload 5, 2) := by decide +kernel
theorem dX7_barred_125 : decode cX7_barred 125 = .ok (.iaload, 1) := by decide +kernel
theorem dX7_barred_126 : decode cX7_barred 126 = .ok (.aload_n 0, 1) := by decide +kernel
theorem dX7_barred_127 : decode cX7_barred 127 = .ok (.getfield 51, 3) := by decide +kernel
theorem dX7_barred_130 : decode cX7_barred 130 = .ok (.iload_n 1, 1) := by decide +kernel
theorem dX7_barred_131 : decode cX7_barred 131 = .ok (.iaload, 1) := by decide +kernel
theorem dX7_barred_132 : decode cX7_barred 132 = .ok (.if_icmp .le 6, 3) := by decide +kernel
theorem dX7_barred_135 : decode cX7_barred 135 = .ok (.goto 90, 3) := by decide +kernel
theorem dX7_barred_138 : decode cX7_barred 138 = .ok (.iconst 0, 1) := by decide +kernel
theorem dX7_barred_139 : decode cX7_barred 139 = .ok (.istore 6, 2) := by decide +kernel
theorem dX7_barred_141 : decode cX7_barred 141 = .ok (.aload_n 0, 1) := by decide +kernel
theorem dX7_barred_142 : decode cX7_barred 142 = .ok (.getfield 63, 3) := by decide +kernel
theorem dX7_barred_145 : decode cX7_barred 145 = .ok (.iload 5, 2) := by decide +kernel
theorem dX7_barred_147 : decode cX7_barred 147 = .ok (.iaload, 1) := by decide +kernel
theorem dX7_barred_148 : decode cX7_barred 148 = .ok (.istore 7, 2) := by decide +kernel
theorem dX7_barred_150 : decode cX7_barred 150 = .ok (.iload 7, 2) := by decide +kernel
theorem dX7_barred_152 : decode cX7_barred 152 = .ok (.aload_n 0, 1) := by decide +kernel
theorem dX7_barred_153 : decode cX7_barred 153 = .ok (.getfield 66, 3) := by decide +kernel
theorem dX7_barred_156 : decode cX7_barred 156 = .ok (.iload 5, 2) := by decide +kernel
theorem dX7_barred_158 : decode cX7_barred 158 = .ok (.iaload, 1) := by decide +kernel
theorem dX7_barred_159 : decode cX7_barred 159 = .ok (.if_icmp .gt 49, 3) := by decide +kernel
theorem dX7_barred_162 : decode cX7_barred 162 = .ok (.iload 7, 2) := by decide +kernel
theorem dX7_barred_164 : decode cX7_barred 164 = .ok (.aload_n 0, 1) := by decide +kernel
theorem dX7_barred_165 : decode cX7_barred 165 = .ok (.getfield 51, 3) := by decide +kernel
theorem dX7_barred_168 : decode cX7_barred 168 = .ok (.iload_n 1, 1) := by decide +kernel
theorem dX7_barred_169 : decode cX7_barred 169 = .ok (.iaload, 1) := by decide +kernel
theorem dX7_barred_170 : decode cX7_barred 170 = .ok (.if_icmp .gt 38, 3) := by decide +kernel
theorem dX7_barred_173 : decode cX7_barred 173 = .ok (.iload 6, 2) := by decide +kernel
theorem dX7_barred_175 : decode cX7_barred 175 = .ok (.ifCond .ne 20, 3) := by decide +kernel
theorem dX7_barred_178 : decode cX7_barred 178 = .ok (.aload_n 0, 1) := by decide +kernel
theorem dX7_barred_179 : decode cX7_barred 179 = .ok (.getfield 107, 3) := by decide +kernel
theorem dX7_barred_182 : decode cX7_barred 182 = .ok (.iload 7, 2) := by decide +kernel
theorem dX7_barred_184 : decode cX7_barred 184 = .ok (.iaload, 1) := by decide +kernel
theorem dX7_barred_185 : decode cX7_barred 185 = .ok (.aload_n 0, 1) := by decide +kernel
theorem dX7_barred_186 : decode cX7_barred 186 = .ok (.getfield 60, 3) := by decide +kernel
theorem dX7_barred_189 : decode cX7_barred 189 = .ok (.iload 5, 2) := by decide +kernel
theorem dX7_barred_191 : decode cX7_barred 191 = .ok (.iaload, 1) := by decide +kernel
theorem dX7_barred_192 : decode cX7_barred 192 = .ok (.if_icmp .ne 7, 3) := by decide +kernel
theorem dX7_barred_195 : decode cX7_barred 195 = .ok (.iconst 1, 1) := by decide +kernel
theorem dX7_barred_196 : decode cX7_barred 196 = .ok (.goto 4, 3) := by decide +kernel
theorem dX7_barred_199 : decode cX7_barred 199 = .ok (.iconst 0, 1) := by decide +kernel
theorem dX7_barred_200 : decode cX7_barred 200 = .ok (.istore 6, 2) := by decide +kernel
theorem dX7_barred_202 : decode cX7_barred 202 = .ok (.iinc 7 1, 3) := by decide +kernel
theorem dX7_barred_205 : decode cX7_barred 205 = .ok (.goto (-55), 3) := by decide +kernel
theorem dX7_barred_208 : decode cX7_barred 208 = .ok (.iload 6, 2) := by decide +kernel
theorem dX7_barred_210 : decode cX7_barred 210 = .ok (.ifCond .ne 15, 3) := by decide +kernel
theorem dX7_barred_213 : decode cX7_barred 213 = .ok (.sipush 300, 3) := by decide +kernel
theorem dX7_barred_216 : decode cX7_barred 216 = .ok (.bipush 100, 2) := by decide +kernel
theorem dX7_barred_218 : decode cX7_barred 218 = .ok (.iload_n 3, 1) := by decide +kernel
theorem dX7_barred_219 : decode cX7_barred 219 = .ok (.imul, 1) := by decide +kernel
theorem dX7_barred_220 : decode cX7_barred 220 = .ok (.iadd, 1) := by decide +kernel
theorem dX7_barred_221 : decode cX7_barred 221 = .ok (.iload 4, 2) := by decide +kernel
theorem dX7_barred_223 : decode cX7_barred 223 = .ok (.iadd, 1) := by decide +kernel
theorem dX7_barred_224 : decode cX7_barred 224 = .ok (.ireturn, 1) := by decide +kernel
theorem dX7_barred_225 : decode cX7_barred 225 = .ok (.iinc 4 1, 3) := by decide +kernel
theorem dX7_barred_228 : decode cX7_barred 228 = .ok (.goto (-155), 3) := by decide +kernel
theorem dX7_barred_231 : decode cX7_barred 231 = .ok (.iinc 3 1, 3) := by decide +kernel
theorem dX7_barred_234 : decode cX7_barred 234 = .ok (.goto (-169), 3) := by decide +kernel
theorem dX7_barred_237 : decode cX7_barred 237 = .ok (.iconst 0, 1) := by decide +kernel
theorem dX7_barred_238 : decode cX7_barred 238 = .ok (.ireturn, 1) := by decide +kernel
theorem dX7_count_0 : decode cX7_count 0 = .ok (.iload_n 1, 1) := by decide +kernel
theorem dX7_count_1 : decode cX7_count 1 = .ok (.tableswitch 82 0 6 #[43, 48, 53, 58, 65, 72, 77], 43) := by decide +kernel
theorem dX7_count_44 : decode cX7_count 44 = .ok (.aload_n 0, 1) := by decide +kernel
theorem dX7_count_45 : decode cX7_count 45 = .ok (.getfield 244, 3) := by decide +kernel
theorem dX7_count_48 : decode cX7_count 48 = .ok (.ireturn, 1) := by decide +kernel
theorem dX7_count_49 : decode cX7_count 49 = .ok (.aload_n 0, 1) := by decide +kernel
theorem dX7_count_50 : decode cX7_count 50 = .ok (.getfield 247, 3) := by decide +kernel
theorem dX7_count_53 : decode cX7_count 53 = .ok (.ireturn, 1) := by decide +kernel
theorem dX7_count_54 : decode cX7_count 54 = .ok (.aload_n 0, 1) := by decide +kernel
theorem dX7_count_55 : decode cX7_count 55 = .ok (.getfield 250, 3) := by decide +kernel
theorem dX7_count_58 : decode cX7_count 58 = .ok (.ireturn, 1) := by decide +kernel
theorem dX7_count_59 : decode cX7_count 59 = .ok (.aload_n 0, 1) := by decide +kernel
theorem dX7_count_60 : decode cX7_count 60 = .ok (.getfield 54, 3) := by decide +kernel
theorem dX7_count_63 : decode cX7_count 63 = .ok (.iconst 0, 1) := by decide +kernel
theorem dX7_count_64 : decode cX7_count 64 = .ok (.iaload, 1) := by decide +kernel
theorem dX7_count_65 : decode cX7_count 65 = .ok (.ireturn, 1) := by decide +kernel
theorem dX7_count_66 : decode cX7_count 66 = .ok (.aload_n 0, 1) := by decide +kernel
theorem dX7_count_67 : decode cX7_count 67 = .ok (.getfield 54, 3) := by decide +kernel
theorem dX7_count_70 : decode cX7_count 70 = .ok (.iconst 1, 1) := by decide +kernel
theorem dX7_count_71 : decode cX7_count 71 = .ok (.iaload, 1) := by decide +kernel
theorem dX7_count_72 : decode cX7_count 72 = .ok (.ireturn, 1) := by decide +kernel
theorem dX7_count_73 : decode cX7_count 73 = .ok (.aload_n 0, 1) := by decide +kernel
theorem dX7_count_74 : decode cX7_count 74 = .ok (.getfield 253, 3) := by decide +kernel
theorem dX7_count_77 : decode cX7_count 77 = .ok (.ireturn, 1) := by decide +kernel
theorem dX7_count_78 : decode cX7_count 78 = .ok (.aload_n 0, 1) := by decide +kernel
theorem dX7_count_79 : decode cX7_count 79 = .ok (.getfield 113, 3) := by decide +kernel
theorem dX7_count_82 : decode cX7_count 82 = .ok (.ireturn, 1) := by decide +kernel
theorem dX7_count_83 : decode cX7_count 83 = .ok (.iconst (-1), 1) := by decide +kernel
theorem dX7_count_84 : decode cX7_count 84 = .ok (.ireturn, 1) := by decide +kernel
theorem dJ6_numberOfTrailingZeros_0f7a4_0 : decode cJ6_numberOfTrailingZeros_0f7a4 0 = .ok (.iload_n 0, 1) := by decide +kernel
theorem dJ6_numberOfTrailingZeros_0f7a4_1 : decode cJ6_numberOfTrailingZeros_0f7a4 1 = .ok (.iconst (-1), 1) := by decide +kernel
theorem dJ6_numberOfTrailingZeros_0f7a4_2 : decode cJ6_numberOfTrailingZeros_0f7a4 2 = .ok (.ixor, 1) := by decide +kernel
theorem dJ6_numberOfTrailingZeros_0f7a4_3 : decode cJ6_numberOfTrailingZeros_0f7a4 3 = .ok (.iload_n 0, 1) := by decide +kernel
theorem dJ6_numberOfTrailingZeros_0f7a4_4 : decode cJ6_numberOfTrailingZeros_0f7a4 4 = .ok (.iconst 1, 1) := by decide +kernel
theorem dJ6_numberOfTrailingZeros_0f7a4_5 : decode cJ6_numberOfTrailingZeros_0f7a4 5 = .ok (.isub, 1) := by decide +kernel
theorem dJ6_numberOfTrailingZeros_0f7a4_6 : decode cJ6_numberOfTrailingZeros_0f7a4 6 = .ok (.iand, 1) := by decide +kernel
theorem dJ6_numberOfTrailingZeros_0f7a4_7 : decode cJ6_numberOfTrailingZeros_0f7a4 7 = .ok (.istore_n 0, 1) := by decide +kernel
theorem dJ6_numberOfTrailingZeros_0f7a4_8 : decode cJ6_numberOfTrailingZeros_0f7a4 8 = .ok (.iload_n 0, 1) := by decide +kernel
theorem dJ6_numberOfTrailingZeros_0f7a4_9 : decode cJ6_numberOfTrailingZeros_0f7a4 9 = .ok (.ifCond .gt 8, 3) := by decide +kernel
theorem dJ6_numberOfTrailingZeros_0f7a4_12 : decode cJ6_numberOfTrailingZeros_0f7a4 12 = .ok (.iload_n 0, 1) := by decide +kernel
theorem dJ6_numberOfTrailingZeros_0f7a4_13 : decode cJ6_numberOfTrailingZeros_0f7a4 13 = .ok (.bipush 32, 2) := by decide +kernel
theorem dJ6_numberOfTrailingZeros_0f7a4_15 : decode cJ6_numberOfTrailingZeros_0f7a4 15 = .ok (.iand, 1) := by decide +kernel
theorem dJ6_numberOfTrailingZeros_0f7a4_16 : decode cJ6_numberOfTrailingZeros_0f7a4 16 = .ok (.ireturn, 1) := by decide +kernel
theorem dJ6_numberOfTrailingZeros_0f7a4_17 : decode cJ6_numberOfTrailingZeros_0f7a4 17 = .ok (.iconst 1, 1) := by decide +kernel
theorem dJ6_numberOfTrailingZeros_0f7a4_18 : decode cJ6_numberOfTrailingZeros_0f7a4 18 = .ok (.istore_n 1, 1) := by decide +kernel
theorem dJ6_numberOfTrailingZeros_0f7a4_19 : decode cJ6_numberOfTrailingZeros_0f7a4 19 = .ok (.iload_n 0, 1) := by decide +kernel
theorem dJ6_numberOfTrailingZeros_0f7a4_20 : decode cJ6_numberOfTrailingZeros_0f7a4 20 = .ok (.ldc_w 264, 3) := by decide +kernel
theorem dJ6_numberOfTrailingZeros_0f7a4_23 : decode cJ6_numberOfTrailingZeros_0f7a4 23 = .ok (.if_icmp .le 11, 3) := by decide +kernel
theorem dJ6_numberOfTrailingZeros_0f7a4_26 : decode cJ6_numberOfTrailingZeros_0f7a4 26 = .ok (.iinc 1 16, 3) := by decide +kernel
theorem dJ6_numberOfTrailingZeros_0f7a4_29 : decode cJ6_numberOfTrailingZeros_0f7a4 29 = .ok (.iload_n 0, 1) := by decide +kernel
theorem dJ6_numberOfTrailingZeros_0f7a4_30 : decode cJ6_numberOfTrailingZeros_0f7a4 30 = .ok (.bipush 16, 2) := by decide +kernel
theorem dJ6_numberOfTrailingZeros_0f7a4_32 : decode cJ6_numberOfTrailingZeros_0f7a4 32 = .ok (.iushr, 1) := by decide +kernel
theorem dJ6_numberOfTrailingZeros_0f7a4_33 : decode cJ6_numberOfTrailingZeros_0f7a4 33 = .ok (.istore_n 0, 1) := by decide +kernel
theorem dJ6_numberOfTrailingZeros_0f7a4_34 : decode cJ6_numberOfTrailingZeros_0f7a4 34 = .ok (.iload_n 0, 1) := by decide +kernel
theorem dJ6_numberOfTrailingZeros_0f7a4_35 : decode cJ6_numberOfTrailingZeros_0f7a4 35 = .ok (.sipush 256, 3) := by decide +kernel
theorem dJ6_numberOfTrailingZeros_0f7a4_38 : decode cJ6_numberOfTrailingZeros_0f7a4 38 = .ok (.if_icmp .le 11, 3) := by decide +kernel
theorem dJ6_numberOfTrailingZeros_0f7a4_41 : decode cJ6_numberOfTrailingZeros_0f7a4 41 = .ok (.iinc 1 8, 3) := by decide +kernel
theorem dJ6_numberOfTrailingZeros_0f7a4_44 : decode cJ6_numberOfTrailingZeros_0f7a4 44 = .ok (.iload_n 0, 1) := by decide +kernel
theorem dJ6_numberOfTrailingZeros_0f7a4_45 : decode cJ6_numberOfTrailingZeros_0f7a4 45 = .ok (.bipush 8, 2) := by decide +kernel
theorem dJ6_numberOfTrailingZeros_0f7a4_47 : decode cJ6_numberOfTrailingZeros_0f7a4 47 = .ok (.iushr, 1) := by decide +kernel
theorem dJ6_numberOfTrailingZeros_0f7a4_48 : decode cJ6_numberOfTrailingZeros_0f7a4 48 = .ok (.istore_n 0, 1) := by decide +kernel
theorem dJ6_numberOfTrailingZeros_0f7a4_49 : decode cJ6_numberOfTrailingZeros_0f7a4 49 = .ok (.iload_n 0, 1) := by decide +kernel
theorem dJ6_numberOfTrailingZeros_0f7a4_50 : decode cJ6_numberOfTrailingZeros_0f7a4 50 = .ok (.bipush 16, 2) := by decide +kernel
theorem dJ6_numberOfTrailingZeros_0f7a4_52 : decode cJ6_numberOfTrailingZeros_0f7a4 52 = .ok (.if_icmp .le 10, 3) := by decide +kernel
theorem dJ6_numberOfTrailingZeros_0f7a4_55 : decode cJ6_numberOfTrailingZeros_0f7a4 55 = .ok (.iinc 1 4, 3) := by decide +kernel
theorem dJ6_numberOfTrailingZeros_0f7a4_58 : decode cJ6_numberOfTrailingZeros_0f7a4 58 = .ok (.iload_n 0, 1) := by decide +kernel
theorem dJ6_numberOfTrailingZeros_0f7a4_59 : decode cJ6_numberOfTrailingZeros_0f7a4 59 = .ok (.iconst 4, 1) := by decide +kernel
theorem dJ6_numberOfTrailingZeros_0f7a4_60 : decode cJ6_numberOfTrailingZeros_0f7a4 60 = .ok (.iushr, 1) := by decide +kernel
theorem dJ6_numberOfTrailingZeros_0f7a4_61 : decode cJ6_numberOfTrailingZeros_0f7a4 61 = .ok (.istore_n 0, 1) := by decide +kernel
theorem dJ6_numberOfTrailingZeros_0f7a4_62 : decode cJ6_numberOfTrailingZeros_0f7a4 62 = .ok (.iload_n 0, 1) := by decide +kernel
theorem dJ6_numberOfTrailingZeros_0f7a4_63 : decode cJ6_numberOfTrailingZeros_0f7a4 63 = .ok (.iconst 4, 1) := by decide +kernel
theorem dJ6_numberOfTrailingZeros_0f7a4_64 : decode cJ6_numberOfTrailingZeros_0f7a4 64 = .ok (.if_icmp .le 10, 3) := by decide +kernel
theorem dJ6_numberOfTrailingZeros_0f7a4_67 : decode cJ6_numberOfTrailingZeros_0f7a4 67 = .ok (.iinc 1 2, 3) := by decide +kernel
theorem dJ6_numberOfTrailingZeros_0f7a4_70 : decode cJ6_numberOfTrailingZeros_0f7a4 70 = .ok (.iload_n 0, 1) := by decide +kernel
theorem dJ6_numberOfTrailingZeros_0f7a4_71 : decode cJ6_numberOfTrailingZeros_0f7a4 71 = .ok (.iconst 2, 1) := by decide +kernel
theorem dJ6_numberOfTrailingZeros_0f7a4_72 : decode cJ6_numberOfTrailingZeros_0f7a4 72 = .ok (.iushr, 1) := by decide +kernel
theorem dJ6_numberOfTrailingZeros_0f7a4_73 : decode cJ6_numberOfTrailingZeros_0f7a4 73 = .ok (.istore_n 0, 1) := by decide +kernel
theorem dJ6_numberOfTrailingZeros_0f7a4_74 : decode cJ6_numberOfTrailingZeros_0f7a4 74 = .ok (.iload_n 1, 1) := by decide +kernel
theorem dJ6_numberOfTrailingZeros_0f7a4_75 : decode cJ6_numberOfTrailingZeros_0f7a4 75 = .ok (.iload_n 0, 1) := by decide +kernel
theorem dJ6_numberOfTrailingZeros_0f7a4_76 : decode cJ6_numberOfTrailingZeros_0f7a4 76 = .ok (.iconst 1, 1) := by decide +kernel
theorem dJ6_numberOfTrailingZeros_0f7a4_77 : decode cJ6_numberOfTrailingZeros_0f7a4 77 = .ok (.iushr, 1) := by decide +kernel
theorem dJ6_numberOfTrailingZeros_0f7a4_78 : decode cJ6_numberOfTrailingZeros_0f7a4 78 = .ok (.iadd, 1) := by decide +kernel
theorem dJ6_numberOfTrailingZeros_0f7a4_79 : decode cJ6_numberOfTrailingZeros_0f7a4 79 = .ok (.ireturn, 1) := by decide +kernel
theorem dJ6_bitCount_0f7a4_0 : decode cJ6_bitCount_0f7a4 0 = .ok (.iload_n 0, 1) := by decide +kernel
theorem dJ6_bitCount_0f7a4_1 : decode cJ6_bitCount_0f7a4 1 = .ok (.iload_n 0, 1) := by decide +kernel
theorem dJ6_bitCount_0f7a4_2 : decode cJ6_bitCount_0f7a4 2 = .ok (.iconst 1, 1) := by decide +kernel
theorem dJ6_bitCount_0f7a4_3 : decode cJ6_bitCount_0f7a4 3 = .ok (.iushr, 1) := by decide +kernel
theorem dJ6_bitCount_0f7a4_4 : decode cJ6_bitCount_0f7a4 4 = .ok (.ldc_w 265, 3) := by decide +kernel
theorem dJ6_bitCount_0f7a4_7 : decode cJ6_bitCount_0f7a4 7 = .ok (.iand, 1) := by decide +kernel
theorem dJ6_bitCount_0f7a4_8 : decode cJ6_bitCount_0f7a4 8 = .ok (.isub, 1) := by decide +kernel
theorem dJ6_bitCount_0f7a4_9 : decode cJ6_bitCount_0f7a4 9 = .ok (.istore_n 0, 1) := by decide +kernel
theorem dJ6_bitCount_0f7a4_10 : decode cJ6_bitCount_0f7a4 10 = .ok (.iload_n 0, 1) := by decide +kernel
theorem dJ6_bitCount_0f7a4_11 : decode cJ6_bitCount_0f7a4 11 = .ok (.ldc_w 266, 3) := by decide +kernel
theorem dJ6_bitCount_0f7a4_14 : decode cJ6_bitCount_0f7a4 14 = .ok (.iand, 1) := by decide +kernel
theorem dJ6_bitCount_0f7a4_15 : decode cJ6_bitCount_0f7a4 15 = .ok (.iload_n 0, 1) := by decide +kernel
theorem dJ6_bitCount_0f7a4_16 : decode cJ6_bitCount_0f7a4 16 = .ok (.iconst 2, 1) := by decide +kernel
theorem dJ6_bitCount_0f7a4_17 : decode cJ6_bitCount_0f7a4 17 = .ok (.iushr, 1) := by decide +kernel
theorem dJ6_bitCount_0f7a4_18 : decode cJ6_bitCount_0f7a4 18 = .ok (.ldc_w 266, 3) := by decide +kernel
theorem dJ6_bitCount_0f7a4_21 : decode cJ6_bitCount_0f7a4 21 = .ok (.iand, 1) := by decide +kernel
theorem dJ6_bitCount_0f7a4_22 : decode cJ6_bitCount_0f7a4 22 = .ok (.iadd, 1) := by decide +kernel
theorem dJ6_bitCount_0f7a4_23 : decode cJ6_bitCount_0f7a4 23 = .ok (.istore_n 0, 1) := by decide +kernel
theorem dJ6_bitCount_0f7a4_24 : decode cJ6_bitCount_0f7a4 24 = .ok (.iload_n 0, 1) := by decide +kernel
theorem dJ6_bitCount_0f7a4_25 : decode cJ6_bitCount_0f7a4 25 = .ok (.iload_n 0, 1) := by decide +kernel
theorem dJ6_bitCount_0f7a4_26 : decode cJ6_bitCount_0f7a4 26 = .ok (.iconst 4, 1) := by decide +kernel
theorem dJ6_bitCount_0f7a4_27 : decode cJ6_bitCount_0f7a4 27 = .ok (.iushr, 1) := by decide +kernel
theorem dJ6_bitCount_0f7a4_28 : decode cJ6_bitCount_0f7a4 28 = .ok (.iadd, 1) := by decide +kernel
theorem dJ6_bitCount_0f7a4_29 : decode cJ6_bitCount_0f7a4 29 = .ok (.ldc_w 267, 3) := by decide +kernel
theorem dJ6_bitCount_0f7a4_32 : decode cJ6_bitCount_0f7a4 32 = .ok (.iand, 1) := by decide +kernel
theorem dJ6_bitCount_0f7a4_33 : decode cJ6_bitCount_0f7a4 33 = .ok (.istore_n 0, 1) := by decide +kernel
theorem dJ6_bitCount_0f7a4_34 : decode cJ6_bitCount_0f7a4 34 = .ok (.iload_n 0, 1) := by decide +kernel
theorem dJ6_bitCount_0f7a4_35 : decode cJ6_bitCount_0f7a4 35 = .ok (.iload_n 0, 1) := by decide +kernel
theorem dJ6_bitCount_0f7a4_36 : decode cJ6_bitCount_0f7a4 36 = .ok (.bipush 8, 2) := by decide +kernel
theorem dJ6_bitCount_0f7a4_38 : decode cJ6_bitCount_0f7a4 38 = .ok (.iushr, 1) := by decide +kernel
theorem dJ6_bitCount_0f7a4_39 : decode cJ6_bitCount_0f7a4 39 = .ok (.iadd, 1) := by decide +kernel
theorem dJ6_bitCount_0f7a4_40 : decode cJ6_bitCount_0f7a4 40 = .ok (.istore_n 0, 1) := by decide +kernel
theorem dJ6_bitCount_0f7a4_41 : decode cJ6_bitCount_0f7a4 41 = .ok (.iload_n 0, 1) := by decide +kernel
theorem dJ6_bitCount_0f7a4_42 : decode cJ6_bitCount_0f7a4 42 = .ok (.iload_n 0, 1) := by decide +kernel
theorem dJ6_bitCount_0f7a4_43 : decode cJ6_bitCount_0f7a4 43 = .ok (.bipush 16, 2) := by decide +kernel
theorem dJ6_bitCount_0f7a4_45 : decode cJ6_bitCount_0f7a4 45 = .ok (.iushr, 1) := by decide +kernel
theorem dJ6_bitCount_0f7a4_46 : decode cJ6_bitCount_0f7a4 46 = .ok (.iadd, 1) := by decide +kernel
theorem dJ6_bitCount_0f7a4_47 : decode cJ6_bitCount_0f7a4 47 = .ok (.istore_n 0, 1) := by decide +kernel
theorem dJ6_bitCount_0f7a4_48 : decode cJ6_bitCount_0f7a4 48 = .ok (.iload_n 0, 1) := by decide +kernel
theorem dJ6_bitCount_0f7a4_49 : decode cJ6_bitCount_0f7a4 49 = .ok (.bipush 63, 2) := by decide +kernel
theorem dJ6_bitCount_0f7a4_51 : decode cJ6_bitCount_0f7a4 51 = .ok (.iand, 1) := by decide +kernel
theorem dJ6_bitCount_0f7a4_52 : decode cJ6_bitCount_0f7a4 52 = .ok (.ireturn, 1) := by decide +kernel
theorem dJ9_floorDiv_7cf53_0 : decode cJ9_floorDiv_7cf53 0 = .ok (.iload_n 0, 1) := by decide +kernel
theorem dJ9_floorDiv_7cf53_1 : decode cJ9_floorDiv_7cf53 1 = .ok (.iload_n 1, 1) := by decide +kernel
theorem dJ9_floorDiv_7cf53_2 : decode cJ9_floorDiv_7cf53 2 = .ok (.idiv, 1) := by decide +kernel
theorem dJ9_floorDiv_7cf53_3 : decode cJ9_floorDiv_7cf53 3 = .ok (.istore_n 2, 1) := by decide +kernel
theorem dJ9_floorDiv_7cf53_4 : decode cJ9_floorDiv_7cf53 4 = .ok (.iload_n 0, 1) := by decide +kernel
theorem dJ9_floorDiv_7cf53_5 : decode cJ9_floorDiv_7cf53 5 = .ok (.iload_n 1, 1) := by decide +kernel
theorem dJ9_floorDiv_7cf53_6 : decode cJ9_floorDiv_7cf53 6 = .ok (.ixor, 1) := by decide +kernel
theorem dJ9_floorDiv_7cf53_7 : decode cJ9_floorDiv_7cf53 7 = .ok (.ifCond .ge 14, 3) := by decide +kernel
theorem dJ9_floorDiv_7cf53_10 : decode cJ9_floorDiv_7cf53 10 = .ok (.iload_n 2, 1) := by decide +kernel
theorem dJ9_floorDiv_7cf53_11 : decode cJ9_floorDiv_7cf53 11 = .ok (.iload_n 1, 1) := by decide +kernel
theorem dJ9_floorDiv_7cf53_12 : decode cJ9_floorDiv_7cf53 12 = .ok (.imul, 1) := by decide +kernel
theorem dJ9_floorDiv_7cf53_13 : decode cJ9_floorDiv_7cf53 13 = .ok (.iload_n 0, 1) := by decide +kernel
theorem dJ9_floorDiv_7cf53_14 : decode cJ9_floorDiv_7cf53 14 = .ok (.if_icmp .eq 7, 3) := by decide +kernel
theorem dJ9_floorDiv_7cf53_17 : decode cJ9_floorDiv_7cf53 17 = .ok (.iload_n 2, 1) := by decide +kernel
theorem dJ9_floorDiv_7cf53_18 : decode cJ9_floorDiv_7cf53 18 = .ok (.iconst 1, 1) := by decide +kernel
theorem dJ9_floorDiv_7cf53_19 : decode cJ9_floorDiv_7cf53 19 = .ok (.isub, 1) := by decide +kernel
theorem dJ9_floorDiv_7cf53_20 : decode cJ9_floorDiv_7cf53 20 = .ok (.ireturn, 1) := by decide +kernel
theorem dJ9_floorDiv_7cf53_21 : decode cJ9_floorDiv_7cf53 21 = .ok (.iload_n 2, 1) := by decide +kernel
theorem dJ9_floorDiv_7cf53_22 : decode cJ9_floorDiv_7cf53 22 = .ok (.ireturn, 1) := by decide +kernel
theorem dJ9_max_7cf53_0 : decode cJ9_max_7cf53 0 = .ok (.iload_n 0, 1) := by decide +kernel
theorem dJ9_max_7cf53_1 : decode cJ9_max_7cf53 1 = .ok (.iload_n 1, 1) := by decide +kernel
theorem dJ9_max_7cf53_2 : decode cJ9_max_7cf53 2 = .ok (.if_icmp .lt 7, 3) := by decide +kernel
theorem dJ9_max_7cf53_5 : decode cJ9_max_7cf53 5 = .ok (.iload_n 0, 1) := by decide +kernel
theorem dJ9_max_7cf53_6 : decode cJ9_max_7cf53 6 = .ok (.goto 4, 3) := by decide +kernel
theorem dJ9_max_7cf53_9 : decode cJ9_max_7cf53 9 = .ok (.iload_n 1, 1) := by decide +kernel
theorem dJ9_max_7cf53_10 : decode cJ9_max_7cf53 10 = .ok (.ireturn, 1) := by decide +kernel
theorem dJ9_min_7cf53_0 : decode cJ9_min_7cf53 0 = .ok (.iload_n 0, 1) := by decide +kernel
theorem dJ9_min_7cf53_1 : decode cJ9_min_7cf53 1 = .ok (.iload_n 1, 1) := by decide +kernel
theorem dJ9_min_7cf53_2 : decode cJ9_min_7cf53 2 = .ok (.if_icmp .gt 7, 3) := by decide +kernel
theorem dJ9_min_7cf53_5 : decode cJ9_min_7cf53 5 = .ok (.iload_n 0, 1) := by decide +kernel
theorem dJ9_min_7cf53_6 : decode cJ9_min_7cf53 6 = .ok (.goto 4, 3) := by decide +kernel
theorem dJ9_min_7cf53_9 : decode cJ9_min_7cf53 9 = .ok (.iload_n 1, 1) := by decide +kernel
theorem dJ9_min_7cf53_10 : decode cJ9_min_7cf53 10 = .ok (.ireturn, 1) := by decide +kernel
theorem dJ0_length_8abf5_0 : decode cJ0_length_8abf5 0 = .ok (.aload_n 0, 1) := by decide +kernel
theorem dJ0_length_8abf5_1 : decode cJ0_length_8abf5 1 = .ok (.getfield 9, 3) := by decide +kernel
theorem dJ0_length_8abf5_4 : decode cJ0_length_8abf5 4 = .ok (.arraylength, 1) := by decide +kernel
theorem dJ0_length_8abf5_5 : decode cJ0_length_8abf5 5 = .ok (.aload_n 0, 1) := by decide +kernel
theorem dJ0_length_8abf5_6 : decode cJ0_length_8abf5 6 = .ok (.invokevirtual 335, 3) := by decide +kernel
theorem dJ0_length_8abf5_9 : decode cJ0_length_8abf5 9 = .ok (.ishr, 1) := by decide +kernel
theorem dJ0_length_8abf5_10 : decode cJ0_length_8abf5 10 = .ok (.ireturn, 1) := by decide +kernel
theorem dJ0_charAt_5068e_0 : decode cJ0_charAt_5068e 0 = .ok (.aload_n 0, 1) := by decide +kernel
theorem dJ0_charAt_5068e_1 : decode cJ0_charAt_5068e 1 = .ok (.invokevirtual 492, 3) := by decide +kernel
theorem dJ0_charAt_5068e_4 : decode cJ0_charAt_5068e 4 = .ok (.ifCond .eq 12, 3) := by decide +kernel
theorem dJ0_charAt_5068e_7 : decode cJ0_charAt_5068e 7 = .ok (.aload_n 0, 1) := by decide +kernel
theorem dJ0_charAt_5068e_8 : decode cJ0_charAt_5068e 8 = .ok (.getfield 9, 3) := by decide +kernel
theorem dJ0_charAt_5068e_11 : decode cJ0_charAt_5068e 11 = .ok (.iload_n 1, 1) := by decide +kernel
theorem dJ0_charAt_5068e_12 : decode cJ0_charAt_5068e 12 = .ok (.invokestatic 495, 3) := by decide +kernel
theorem dJ0_charAt_5068e_15 : decode cJ0_charAt_5068e 15 = .ok (.ireturn, 1) := by decide +kernel
theorem dJ0_charAt_5068e_16 : decode cJ0_charAt_5068e 16 = .ok (.aload_n 0, 1) := by decide +kernel
theorem dJ0_charAt_5068e_17 : decode cJ0_charAt_5068e 17 = .ok (.getfield 9, 3) := by decide +kernel
theorem dJ0_charAt_5068e_20 : decode cJ0_charAt_5068e 20 = .ok (.iload_n 1, 1) := by decide +kernel
theorem dJ0_charAt_5068e_21 : decode cJ0_charAt_5068e 21 = .ok (.invokestatic 498, 3) := by decide +kernel
theorem dJ0_charAt_5068e_24 : decode cJ0_charAt_5068e 24 = .ok (.ireturn, 1) := by decide +kernel
theorem dJ0_coder_7d493_0 : decode cJ0_coder_7d493 0 = .ok (.getstatic 38, 3) := by decide +kernel
theorem dJ0_coder_7d493_3 : decode cJ0_coder_7d493 3 = .ok (.ifCond .eq 10, 3) := by decide +kernel
theorem dJ0_coder_7d493_6 : decode cJ0_coder_7d493 6 = .ok (.aload_n 0, 1) := by decide +kernel
theorem dJ0_coder_7d493_7 : decode cJ0_coder_7d493 7 = .ok (.getfield 15, 3) := by decide +kernel
theorem dJ0_coder_7d493_10 : decode cJ0_coder_7d493 10 = .ok (.goto 4, 3) := by decide +kernel
theorem dJ0_coder_7d493_13 : decode cJ0_coder_7d493 13 = .ok (.iconst 1, 1) := by decide +kernel
theorem dJ0_coder_7d493_14 : decode cJ0_coder_7d493 14 = .ok (.ireturn, 1) := by decide +kernel
theorem dJ0_isLatin1_aae02_0 : decode cJ0_isLatin1_aae02 0 = .ok (.getstatic 38, 3) := by decide +kernel
theorem dJ0_isLatin1_aae02_3 : decode cJ0_isLatin1_aae02 3 = .ok (.ifCond .eq 14, 3) := by decide +kernel
theorem dJ0_isLatin1_aae02_6 : decode cJ0_isLatin1_aae02 6 = .ok (.aload_n 0, 1) := by decide +kernel
theorem dJ0_isLatin1_aae02_7 : decode cJ0_isLatin1_aae02 7 = .ok (.getfield 15, 3) := by decide +kernel
theorem dJ0_isLatin1_aae02_10 : decode cJ0_isLatin1_aae02 10 = .ok (.ifCond .ne 7, 3) := by decide +kernel
theorem dJ0_isLatin1_aae02_13 : decode cJ0_isLatin1_aae02 13 = .ok (.iconst 1, 1) := by decide +kernel
theorem dJ0_isLatin1_aae02_14 : decode cJ0_isLatin1_aae02 14 = .ok (.goto 4, 3) := by decide +kernel
theorem dJ0_isLatin1_aae02_17 : decode cJ0_isLatin1_aae02 17 = .ok (.iconst 0, 1) := by decide +kernel
theorem dJ0_isLatin1_aae02_18 : decode cJ0_isLatin1_aae02 18 = .ok (.ireturn, 1) := by decide +kernel
theorem dJ0_checkIndex_df160_0 : decode cJ0_checkIndex_df160 0 = .ok (.iload_n 0, 1) := by decide +kernel
theorem dJ0_checkIndex_df160_1 : decode cJ0_checkIndex_df160 1 = .ok (.iload_n 1, 1) := by decide +kernel
theorem dJ0_checkIndex_df160_2 : decode cJ0_checkIndex_df160 2 = .ok (.getstatic 1053, 3) := by decide +kernel
theorem dJ0_checkIndex_df160_5 : decode cJ0_checkIndex_df160 5 = .ok (.invokestatic 1059, 3) := by decide +kernel
theorem dJ0_checkIndex_df160_8 : decode cJ0_checkIndex_df160 8 = .ok (.pop, 1) := by decide +kernel
theorem dJ0_checkIndex_df160_9 : decode cJ0_checkIndex_df160 9 = .ok (.return_, 1) := by decide +kernel
theorem dJ1_charAt_3b067_0 : decode cJ1_charAt_3b067 0 = .ok (.iload_n 1, 1) := by decide +kernel
theorem dJ1_charAt_3b067_1 : decode cJ1_charAt_3b067 1 = .ok (.aload_n 0, 1) := by decide +kernel
theorem dJ1_charAt_3b067_2 : decode cJ1_charAt_3b067 2 = .ok (.arraylength, 1) := by decide +kernel
theorem dJ1_charAt_3b067_3 : decode cJ1_charAt_3b067 3 = .ok (.invokestatic 9, 3) := by decide +kernel
theorem dJ1_charAt_3b067_6 : decode cJ1_charAt_3b067 6 = .ok (.aload_n 0, 1) := by decide +kernel
theorem dJ1_charAt_3b067_7 : decode cJ1_charAt_3b067 7 = .ok (.iload_n 1, 1) := by decide +kernel
theorem dJ1_charAt_3b067_8 : decode cJ1_charAt_3b067 8 = .ok (.baload, 1) := by decide +kernel
theorem dJ1_charAt_3b067_9 : decode cJ1_charAt_3b067 9 = .ok (.sipush 255, 3) := by decide +kernel
theorem dJ1_charAt_3b067_12 : decode cJ1_charAt_3b067 12 = .ok (.iand, 1) := by decide +kernel
theorem dJ1_charAt_3b067_13 : decode cJ1_charAt_3b067 13 = .ok (.i2c, 1) := by decide +kernel
theorem dJ1_charAt_3b067_14 : decode cJ1_charAt_3b067 14 = .ok (.ireturn, 1) := by decide +kernel
theorem dJ2_getChar_3b067_0 : decode cJ2_getChar_3b067 0 = .ok (.getstatic 44, 3) := by decide +kernel
theorem dJ2_getChar_3b067_3 : decode cJ2_getChar_3b067 3 = .ok (.ifCond .ne 25, 3) := by decide +kernel
theorem dJ2_getChar_3b067_6 : decode cJ2_getChar_3b067 6 = .ok (.iload_n 1, 1) := by decide +kernel
theorem dJ2_getChar_3b067_7 : decode cJ2_getChar_3b067 7 = .ok (.ifCond .lt 11, 3) := by decide +kernel
theorem dJ2_getChar_3b067_10 : decode cJ2_getChar_3b067 10 = .ok (.iload_n 1, 1) := by decide +kernel
theorem dJ2_getChar_3b067_11 : decode cJ2_getChar_3b067 11 = .ok (.aload_n 0, 1) := by decide +kernel
theorem dJ2_getChar_3b067_12 : decode cJ2_getChar_3b067 12 = .ok (.invokestatic 48, 3) := by decide +kernel
theorem dJ2_getChar_3b067_15 : decode cJ2_getChar_3b067 15 = .ok (.if_icmp .lt 13, 3) := by decide +kernel
theorem dJ2_getChar_3b067_18 : decode cJ2_getChar_3b067 18 = .ok (.new 52, 3) := by decide +kernel
theorem dJ2_getChar_3b067_21 : decode cJ2_getChar_3b067 21 = .ok (.dup, 1) := by decide +kernel
theorem dJ2_getChar_3b067_22 : decode cJ2_getChar_3b067 22 = .ok (.ldc 54, 2) := by decide +kernel
theorem dJ2_getChar_3b067_24 : decode cJ2_getChar_3b067 24 = .ok (.invokespecial 56, 3) := by decide +kernel
theorem dJ2_getChar_3b067_27 : decode cJ2_getChar_3b067 27 = .ok (.athrow, 1) := by decide +kernel
theorem dJ2_getChar_3b067_28 : decode cJ2_getChar_3b067 28 = .ok (.iload_n 1, 1) := by decide +kernel
theorem dJ2_getChar_3b067_29 : decode cJ2_getChar_3b067 29 = .ok (.iconst 1, 1) := by decide +kernel
theorem dJ2_getChar_3b067_30 : decode cJ2_getChar_3b067 30 = .ok (.ishl, 1) := by decide +kernel
theorem dJ2_getChar_3b067_31 : decode cJ2_getChar_3b067 31 = .ok (.istore_n 1, 1) := by decide +kernel
theorem dJ2_getChar_3b067_32 : decode cJ2_getChar_3b067 32 = .ok (.aload_n 0, 1) := by decide +kernel
theorem dJ2_getChar_3b067_33 : decode cJ2_getChar_3b067 33 = .ok (.iload_n 1, 1) := by decide +kernel
theorem dJ2_getChar_3b067_34 : decode cJ2_getChar_3b067 34 = .ok (.iinc 1 1, 3) := by decide +kernel
theorem dJ2_getChar_3b067_37 : decode cJ2_getChar_3b067 37 = .ok (.baload, 1) := by decide +kernel
theorem dJ2_getChar_3b067_38 : decode cJ2_getChar_3b067 38 = .ok (.sipush 255, 3) := by decide +kernel
theorem dJ2_getChar_3b067_41 : decode cJ2_getChar_3b067 41 = .ok (.iand, 1) := by decide +kernel
theorem dJ2_getChar_3b067_42 : decode cJ2_getChar_3b067 42 = .ok (.getstatic 59, 3) := by decide +kernel
theorem dJ2_getChar_3b067_45 : decode cJ2_getChar_3b067 45 = .ok (.ishl, 1) := by decide +kernel
theorem dJ2_getChar_3b067_46 : decode cJ2_getChar_3b067 46 = .ok (.aload_n 0, 1) := by decide +kernel
theorem dJ2_getChar_3b067_47 : decode cJ2_getChar_3b067 47 = .ok (.iload_n 1, 1) := by decide +kernel
theorem dJ2_getChar_3b067_48 : decode cJ2_getChar_3b067 48 = .ok (.baload, 1) := by decide +kernel
theorem dJ2_getChar_3b067_49 : decode cJ2_getChar_3b067 49 = .ok (.sipush 255, 3) := by decide +kernel
theorem dJ2_getChar_3b067_52 : decode cJ2_getChar_3b067 52 = .ok (.iand, 1) := by decide +kernel
theorem dJ2_getChar_3b067_53 : decode cJ2_getChar_3b067 53 = .ok (.getstatic 63, 3) := by decide +kernel
theorem dJ2_getChar_3b067_56 : decode cJ2_getChar_3b067 56 = .ok (.ishl, 1) := by decide +kernel
theorem dJ2_getChar_3b067_57 : decode cJ2_getChar_3b067 57 = .ok (.ior, 1) := by decide +kernel
theorem dJ2_getChar_3b067_58 : decode cJ2_getChar_3b067 58 = .ok (.i2c, 1) := by decide +kernel
theorem dJ2_getChar_3b067_59 : decode cJ2_getChar_3b067 59 = .ok (.ireturn, 1) := by decide +kernel
theorem dJ2_length_9d52b_0 : decode cJ2_length_9d52b 0 = .ok (.aload_n 0, 1) := by decide +kernel
theorem dJ2_length_9d52b_1 : decode cJ2_length_9d52b 1 = .ok (.arraylength, 1) := by decide +kernel
theorem dJ2_length_9d52b_2 : decode cJ2_length_9d52b 2 = .ok (.iconst 1, 1) := by decide +kernel
theorem dJ2_length_9d52b_3 : decode cJ2_length_9d52b 3 = .ok (.ishr, 1) := by decide +kernel
theorem dJ2_length_9d52b_4 : decode cJ2_length_9d52b 4 = .ok (.ireturn, 1) := by decide +kernel
theorem dJ2_charAt_3b067_0 : decode cJ2_charAt_3b067 0 = .ok (.iload_n 1, 1) := by decide +kernel
theorem dJ2_charAt_3b067_1 : decode cJ2_charAt_3b067 1 = .ok (.aload_n 0, 1) := by decide +kernel
theorem dJ2_charAt_3b067_2 : decode cJ2_charAt_3b067 2 = .ok (.invokestatic 67, 3) := by decide +kernel
theorem dJ2_charAt_3b067_5 : decode cJ2_charAt_3b067 5 = .ok (.aload_n 0, 1) := by decide +kernel
theorem dJ2_charAt_3b067_6 : decode cJ2_charAt_3b067 6 = .ok (.iload_n 1, 1) := by decide +kernel
theorem dJ2_charAt_3b067_7 : decode cJ2_charAt_3b067 7 = .ok (.invokestatic 71, 3) := by decide +kernel
theorem dJ2_charAt_3b067_10 : decode cJ2_charAt_3b067 10 = .ok (.ireturn, 1) := by decide +kernel
theorem dJ2_checkIndex_2214a_0 : decode cJ2_checkIndex_2214a 0 = .ok (.iload_n 0, 1) := by decide +kernel
theorem dJ2_checkIndex_2214a_1 : decode cJ2_checkIndex_2214a 1 = .ok (.aload_n 1, 1) := by decide +kernel
theorem dJ2_checkIndex_2214a_2 : decode cJ2_checkIndex_2214a 2 = .ok (.invokestatic 48, 3) := by decide +kernel
theorem dJ2_checkIndex_2214a_5 : decode cJ2_checkIndex_2214a 5 = .ok (.invokestatic 414, 3) := by decide +kernel
theorem dJ2_checkIndex_2214a_8 : decode cJ2_checkIndex_2214a 8 = .ok (.return_, 1) := by decide +kernel
theorem dJ3_checkIndex_8e157_0 : decode cJ3_checkIndex_8e157 0 = .ok (.iload_n 0, 1) := by decide +kernel
theorem dJ3_checkIndex_8e157_1 : decode cJ3_checkIndex_8e157 1 = .ok (.ifCond .lt 8, 3) := by decide +kernel
theorem dJ3_checkIndex_8e157_4 : decode cJ3_checkIndex_8e157 4 = .ok (.iload_n 0, 1) := by decide +kernel
theorem dJ3_checkIndex_8e157_5 : decode cJ3_checkIndex_8e157 5 = .ok (.iload_n 1, 1) := by decide +kernel
theorem dJ3_checkIndex_8e157_6 : decode cJ3_checkIndex_8e157 6 = .ok (.if_icmp .lt 10, 3) := by decide +kernel
theorem dJ3_checkIndex_8e157_9 : decode cJ3_checkIndex_8e157 9 = .ok (.aload_n 2, 1) := by decide +kernel
theorem dJ3_checkIndex_8e157_10 : decode cJ3_checkIndex_8e157 10 = .ok (.iload_n 0, 1) := by decide +kernel
theorem dJ3_checkIndex_8e157_11 : decode cJ3_checkIndex_8e157 11 = .ok (.iload_n 1, 1) := by decide +kernel
theorem dJ3_checkIndex_8e157_12 : decode cJ3_checkIndex_8e157 12 = .ok (.invokestatic 95, 3) := by decide +kernel
theorem dJ3_checkIndex_8e157_15 : decode cJ3_checkIndex_8e157 15 = .ok (.athrow, 1) := by decide +kernel
theorem dJ3_checkIndex_8e157_16 : decode cJ3_checkIndex_8e157 16 = .ok (.iload_n 0, 1) := by decide +kernel
theorem dJ3_checkIndex_8e157_17 : decode cJ3_checkIndex_8e157 17 = .ok (.ireturn, 1) := by decide +kernel
theorem dL_law_0 : decode cL_law 0 = .ok (.new 7, 3) := by decide +kernel
theorem dL_law_3 : decode cL_law 3 = .ok (.dup, 1) := by decide +kernel
theorem dL_law_4 : decode cL_law 4 = .ok (.invokespecial 9, 3) := by decide +kernel
theorem dL_law_7 : decode cL_law 7 = .ok (.astore_n 1, 1) := by decide +kernel
theorem dL_law_8 : decode cL_law 8 = .ok (.new 10, 3) := by decide +kernel
theorem dL_law_11 : decode cL_law 11 = .ok (.dup, 1) := by decide +kernel
theorem dL_law_12 : decode cL_law 12 = .ok (.invokespecial 12, 3) := by decide +kernel
theorem dL_law_15 : decode cL_law 15 = .ok (.astore_n 2, 1) := by decide +kernel
theorem dL_law_16 : decode cL_law 16 = .ok (.iconst 0, 1) := by decide +kernel
theorem dL_law_17 : decode cL_law 17 = .ok (.istore_n 3, 1) := by decide +kernel
theorem dL_law_18 : decode cL_law 18 = .ok (.iload_n 3, 1) := by decide +kernel
theorem dL_law_19 : decode cL_law 19 = .ok (.aload_n 0, 1) := by decide +kernel
theorem dL_law_20 : decode cL_law 20 = .ok (.arraylength, 1) := by decide +kernel
theorem dL_law_21 : decode cL_law 21 = .ok (.bipush 6, 2) := by decide +kernel
theorem dL_law_23 : decode cL_law 23 = .ok (.isub, 1) := by decide +kernel
theorem dL_law_24 : decode cL_law 24 = .ok (.if_icmp .gt 1003, 3) := by decide +kernel
theorem dL_law_27 : decode cL_law 27 = .ok (.aload_n 0, 1) := by decide +kernel
theorem dL_law_28 : decode cL_law 28 = .ok (.iload_n 3, 1) := by decide +kernel
theorem dL_law_29 : decode cL_law 29 = .ok (.iaload, 1) := by decide +kernel
theorem dL_law_30 : decode cL_law 30 = .ok (.bipush 31, 2) := by decide +kernel
theorem dL_law_32 : decode cL_law 32 = .ok (.iand, 1) := by decide +kernel
theorem dL_law_33 : decode cL_law 33 = .ok (.tableswitch 988 0 24 #[115, 178, 201, 214, 227, 280, 359, 402, 455, 514, 537, 570, 603, 646, 669, 702, 735, 768, 801, 824, 847, 896, 929, 942, 965], 115) := by decide +kernel
theorem dL_law_148 : decode cL_law 148 = .ok (.aload_n 1, 1) := by decide +kernel
theorem dL_law_149 : decode cL_law 149 = .ok (.aload_n 0, 1) := by decide +kernel
theorem dL_law_150 : decode cL_law 150 = .ok (.iload_n 3, 1) := by decide +kernel
theorem dL_law_151 : decode cL_law 151 = .ok (.iconst 1, 1) := by decide +kernel
theorem dL_law_152 : decode cL_law 152 = .ok (.iadd, 1) := by decide +kernel
theorem dL_law_153 : decode cL_law 153 = .ok (.iaload, 1) := by decide +kernel
theorem dL_law_154 : decode cL_law 154 = .ok (.aload_n 0, 1) := by decide +kernel
theorem dL_law_155 : decode cL_law 155 = .ok (.iload_n 3, 1) := by decide +kernel
theorem dL_law_156 : decode cL_law 156 = .ok (.iconst 2, 1) := by decide +kernel
theorem dL_law_157 : decode cL_law 157 = .ok (.iadd, 1) := by decide +kernel
theorem dL_law_158 : decode cL_law 158 = .ok (.iaload, 1) := by decide +kernel
theorem dL_law_159 : decode cL_law 159 = .ok (.aload_n 0, 1) := by decide +kernel
theorem dL_law_160 : decode cL_law 160 = .ok (.iload_n 3, 1) := by decide +kernel
theorem dL_law_161 : decode cL_law 161 = .ok (.iconst 3, 1) := by decide +kernel
theorem dL_law_162 : decode cL_law 162 = .ok (.iadd, 1) := by decide +kernel
theorem dL_law_163 : decode cL_law 163 = .ok (.iaload, 1) := by decide +kernel
theorem dL_law_164 : decode cL_law 164 = .ok (.aload_n 0, 1) := by decide +kernel
theorem dL_law_165 : decode cL_law 165 = .ok (.iload_n 3, 1) := by decide +kernel
theorem dL_law_166 : decode cL_law 166 = .ok (.iconst 4, 1) := by decide +kernel
theorem dL_law_167 : decode cL_law 167 = .ok (.iadd, 1) := by decide +kernel
theorem dL_law_168 : decode cL_law 168 = .ok (.iaload, 1) := by decide +kernel
theorem dL_law_169 : decode cL_law 169 = .ok (.aload_n 0, 1) := by decide +kernel
theorem dL_law_170 : decode cL_law 170 = .ok (.iload_n 3, 1) := by decide +kernel
theorem dL_law_171 : decode cL_law 171 = .ok (.iconst 5, 1) := by decide +kernel
theorem dL_law_172 : decode cL_law 172 = .ok (.iadd, 1) := by decide +kernel
theorem dL_law_173 : decode cL_law 173 = .ok (.iaload, 1) := by decide +kernel
theorem dL_law_174 : decode cL_law 174 = .ok (.invokevirtual 13, 3) := by decide +kernel
theorem dL_law_177 : decode cL_law 177 = .ok (.aload_n 2, 1) := by decide +kernel
theorem dL_law_178 : decode cL_law 178 = .ok (.aload_n 0, 1) := by decide +kernel
theorem dL_law_179 : decode cL_law 179 = .ok (.iload_n 3, 1) := by decide +kernel
theorem dL_law_180 : decode cL_law 180 = .ok (.iconst 1, 1) := by decide +kernel
theorem dL_law_181 : decode cL_law 181 = .ok (.iadd, 1) := by decide +kernel
theorem dL_law_182 : decode cL_law 182 = .ok (.iaload, 1) := by decide +kernel
theorem dL_law_183 : decode cL_law 183 = .ok (.aload_n 0, 1) := by decide +kernel
theorem dL_law_184 : decode cL_law 184 = .ok (.iload_n 3, 1) := by decide +kernel
theorem dL_law_185 : decode cL_law 185 = .ok (.iconst 2, 1) := by decide +kernel
theorem dL_law_186 : decode cL_law 186 = .ok (.iadd, 1) := by decide +kernel
theorem dL_law_187 : decode cL_law 187 = .ok (.iaload, 1) := by decide +kernel
theorem dL_law_188 : decode cL_law 188 = .ok (.aload_n 0, 1) := by decide +kernel
theorem dL_law_189 : decode cL_law 189 = .ok (.iload_n 3, 1) := by decide +kernel
theorem dL_law_190 : decode cL_law 190 = .ok (.iconst 3, 1) := by decide +kernel
theorem dL_law_191 : decode cL_law 191 = .ok (.iadd, 1) := by decide +kernel
theorem dL_law_192 : decode cL_law 192 = .ok (.iaload, 1) := by decide +kernel
theorem dL_law_193 : decode cL_law 193 = .ok (.aload_n 0, 1) := by decide +kernel
theorem dL_law_194 : decode cL_law 194 = .ok (.iload_n 3, 1) := by decide +kernel
theorem dL_law_195 : decode cL_law 195 = .ok (.iconst 4, 1) := by decide +kernel
theorem dL_law_196 : decode cL_law 196 = .ok (.iadd, 1) := by decide +kernel
theorem dL_law_197 : decode cL_law 197 = .ok (.iaload, 1) := by decide +kernel
theorem dL_law_198 : decode cL_law 198 = .ok (.aload_n 0, 1) := by decide +kernel
theorem dL_law_199 : decode cL_law 199 = .ok (.iload_n 3, 1) := by decide +kernel
theorem dL_law_200 : decode cL_law 200 = .ok (.iconst 5, 1) := by decide +kernel
theorem dL_law_201 : decode cL_law 201 = .ok (.iadd, 1) := by decide +kernel
theorem dL_law_202 : decode cL_law 202 = .ok (.iaload, 1) := by decide +kernel
theorem dL_law_203 : decode cL_law 203 = .ok (.invokevirtual 17, 3) := by decide +kernel
theorem dL_law_206 : decode cL_law 206 = .ok (.if_icmp .eq 815, 3) := by decide +kernel
theorem dL_law_209 : decode cL_law 209 = .ok (.iconst 0, 1) := by decide +kernel
theorem dL_law_210 : decode cL_law 210 = .ok (.ireturn, 1) := by decide +kernel
theorem dL_law_211 : decode cL_law 211 = .ok (.aload_n 1, 1) := by decide +kernel
theorem dL_law_212 : decode cL_law 212 = .ok (.aload_n 0, 1) := by decide +kernel
theorem dL_law_213 : decode cL_law 213 = .ok (.iload_n 3, 1) := by decide +kernel
theorem dL_law_214 : decode cL_law 214 = .ok (.iconst 1, 1) := by decide +kernel
theorem dL_law_215 : decode cL_law 215 = .ok (.iadd, 1) := by decide +kernel
theorem dL_law_216 : decode cL_law 216 = .ok (.iaload, 1) := by decide +kernel
theorem dL_law_217 : decode cL_law 217 = .ok (.invokevirtual 18, 3) := by decide +kernel
theorem dL_law_220 : decode cL_law 220 = .ok (.aload_n 2, 1) := by decide +kernel
theorem dL_law_221 : decode cL_law 221 = .ok (.aload_n 0, 1) := by decide +kernel
theorem dL_law_222 : decode cL_law 222 = .ok (.iload_n 3, 1) := by decide +kernel
theorem dL_law_223 : decode cL_law 223 = .ok (.iconst 1, 1) := by decide +kernel
theorem dL_law_224 : decode cL_law 224 = .ok (.iadd, 1) := by decide +kernel
theorem dL_law_225 : decode cL_law 225 = .ok (.iaload, 1) := by decide +kernel
end
section
theorem dL_law_226 : decode cL_law 226 = .ok (.invokevirtual 22, 3) := by decide +kernel
theorem dL_law_229 : decode cL_law 229 = .ok (.if_icmp .eq 792, 3) := by decide +kernel
theorem dL_law_232 : decode cL_law 232 = .ok (.iconst 0, 1) := by decide +kernel
theorem dL_law_233 : decode cL_law 233 = .ok (.ireturn, 1) := by decide +kernel
theorem dL_law_234 : decode cL_law 234 = .ok (.aload_n 1, 1) := by decide +kernel
theorem dL_law_235 : decode cL_law 235 = .ok (.invokevirtual 23, 3) := by decide +kernel
theorem dL_law_238 : decode cL_law 238 = .ok (.aload_n 2, 1) := by decide +kernel
theorem dL_law_239 : decode cL_law 239 = .ok (.invokevirtual 27, 3) := by decide +kernel
theorem dL_law_242 : decode cL_law 242 = .ok (.if_icmp .eq 779, 3) := by decide +kernel
theorem dL_law_245 : decode cL_law 245 = .ok (.iconst 0, 1) := by decide +kernel
theorem dL_law_246 : decode cL_law 246 = .ok (.ireturn, 1) := by decide +kernel
theorem dL_law_247 : decode cL_law 247 = .ok (.aload_n 1, 1) := by decide +kernel
theorem dL_law_248 : decode cL_law 248 = .ok (.invokevirtual 28, 3) := by decide +kernel
theorem dL_law_251 : decode cL_law 251 = .ok (.aload_n 2, 1) := by decide +kernel
theorem dL_law_252 : decode cL_law 252 = .ok (.invokevirtual 31, 3) := by decide +kernel
theorem dL_law_255 : decode cL_law 255 = .ok (.if_icmp .eq 766, 3) := by decide +kernel
theorem dL_law_258 : decode cL_law 258 = .ok (.iconst 0, 1) := by decide +kernel
theorem dL_law_259 : decode cL_law 259 = .ok (.ireturn, 1) := by decide +kernel
theorem dL_law_260 : decode cL_law 260 = .ok (.aload_n 1, 1) := by decide +kernel
theorem dL_law_261 : decode cL_law 261 = .ok (.aload_n 0, 1) := by decide +kernel
theorem dL_law_262 : decode cL_law 262 = .ok (.iload_n 3, 1) := by decide +kernel
theorem dL_law_263 : decode cL_law 263 = .ok (.iconst 1, 1) := by decide +kernel
theorem dL_law_264 : decode cL_law 264 = .ok (.iadd, 1) := by decide +kernel
theorem dL_law_265 : decode cL_law 265 = .ok (.iaload, 1) := by decide +kernel
theorem dL_law_266 : decode cL_law 266 = .ok (.aload_n 0, 1) := by decide +kernel
theorem dL_law_267 : decode cL_law 267 = .ok (.iload_n 3, 1) := by decide +kernel
theorem dL_law_268 : decode cL_law 268 = .ok (.iconst 2, 1) := by decide +kernel
theorem dL_law_269 : decode cL_law 269 = .ok (.iadd, 1) := by decide +kernel
theorem dL_law_270 : decode cL_law 270 = .ok (.iaload, 1) := by decide +kernel
theorem dL_law_271 : decode cL_law 271 = .ok (.aload_n 0, 1) := by decide +kernel
theorem dL_law_272 : decode cL_law 272 = .ok (.iload_n 3, 1) := by decide +kernel
theorem dL_law_273 : decode cL_law 273 = .ok (.iconst 3, 1) := by decide +kernel
theorem dL_law_274 : decode cL_law 274 = .ok (.iadd, 1) := by decide +kernel
theorem dL_law_275 : decode cL_law 275 = .ok (.iaload, 1) := by decide +kernel
theorem dL_law_276 : decode cL_law 276 = .ok (.aload_n 0, 1) := by decide +kernel
theorem dL_law_277 : decode cL_law 277 = .ok (.iload_n 3, 1) := by decide +kernel
theorem dL_law_278 : decode cL_law 278 = .ok (.iconst 4, 1) := by decide +kernel
theorem dL_law_279 : decode cL_law 279 = .ok (.iadd, 1) := by decide +kernel
theorem dL_law_280 : decode cL_law 280 = .ok (.iaload, 1) := by decide +kernel
theorem dL_law_281 : decode cL_law 281 = .ok (.invokevirtual 32, 3) := by decide +kernel
theorem dL_law_284 : decode cL_law 284 = .ok (.aload_n 2, 1) := by decide +kernel
theorem dL_law_285 : decode cL_law 285 = .ok (.aload_n 0, 1) := by decide +kernel
theorem dL_law_286 : decode cL_law 286 = .ok (.iload_n 3, 1) := by decide +kernel
theorem dL_law_287 : decode cL_law 287 = .ok (.iconst 1, 1) := by decide +kernel
theorem dL_law_288 : decode cL_law 288 = .ok (.iadd, 1) := by decide +kernel
theorem dL_law_289 : decode cL_law 289 = .ok (.iaload, 1) := by decide +kernel
theorem dL_law_290 : decode cL_law 290 = .ok (.aload_n 0, 1) := by decide +kernel
theorem dL_law_291 : decode cL_law 291 = .ok (.iload_n 3, 1) := by decide +kernel
theorem dL_law_292 : decode cL_law 292 = .ok (.iconst 2, 1) := by decide +kernel
theorem dL_law_293 : decode cL_law 293 = .ok (.iadd, 1) := by decide +kernel
theorem dL_law_294 : decode cL_law 294 = .ok (.iaload, 1) := by decide +kernel
theorem dL_law_295 : decode cL_law 295 = .ok (.aload_n 0, 1) := by decide +kernel
theorem dL_law_296 : decode cL_law 296 = .ok (.iload_n 3, 1) := by decide +kernel
theorem dL_law_297 : decode cL_law 297 = .ok (.iconst 3, 1) := by decide +kernel
theorem dL_law_298 : decode cL_law 298 = .ok (.iadd, 1) := by decide +kernel
theorem dL_law_299 : decode cL_law 299 = .ok (.iaload, 1) := by decide +kernel
theorem dL_law_300 : decode cL_law 300 = .ok (.aload_n 0, 1) := by decide +kernel
theorem dL_law_301 : decode cL_law 301 = .ok (.iload_n 3, 1) := by decide +kernel
theorem dL_law_302 : decode cL_law 302 = .ok (.iconst 4, 1) := by decide +kernel
theorem dL_law_303 : decode cL_law 303 = .ok (.iadd, 1) := by decide +kernel
theorem dL_law_304 : decode cL_law 304 = .ok (.iaload, 1) := by decide +kernel
theorem dL_law_305 : decode cL_law 305 = .ok (.invokevirtual 36, 3) := by decide +kernel
theorem dL_law_308 : decode cL_law 308 = .ok (.if_icmp .eq 713, 3) := by decide +kernel
theorem dL_law_311 : decode cL_law 311 = .ok (.iconst 0, 1) := by decide +kernel
theorem dL_law_312 : decode cL_law 312 = .ok (.ireturn, 1) := by decide +kernel
theorem dL_law_313 : decode cL_law 313 = .ok (.aload_n 1, 1) := by decide +kernel
theorem dL_law_314 : decode cL_law 314 = .ok (.aload_n 0, 1) := by decide +kernel
theorem dL_law_315 : decode cL_law 315 = .ok (.iload_n 3, 1) := by decide +kernel
theorem dL_law_316 : decode cL_law 316 = .ok (.iconst 1, 1) := by decide +kernel
theorem dL_law_317 : decode cL_law 317 = .ok (.iadd, 1) := by decide +kernel
theorem dL_law_318 : decode cL_law 318 = .ok (.iaload, 1) := by decide +kernel
theorem dL_law_319 : decode cL_law 319 = .ok (.aload_n 0, 1) := by decide +kernel
theorem dL_law_320 : decode cL_law 320 = .ok (.iload_n 3, 1) := by decide +kernel
theorem dL_law_321 : decode cL_law 321 = .ok (.iconst 2, 1) := by decide +kernel
theorem dL_law_322 : decode cL_law 322 = .ok (.iadd, 1) := by decide +kernel
theorem dL_law_323 : decode cL_law 323 = .ok (.iaload, 1) := by decide +kernel
theorem dL_law_324 : decode cL_law 324 = .ok (.aload_n 0, 1) := by decide +kernel
theorem dL_law_325 : decode cL_law 325 = .ok (.iload_n 3, 1) := by decide +kernel
theorem dL_law_326 : decode cL_law 326 = .ok (.iconst 3, 1) := by decide +kernel
theorem dL_law_327 : decode cL_law 327 = .ok (.iadd, 1) := by decide +kernel
theorem dL_law_328 : decode cL_law 328 = .ok (.iaload, 1) := by decide +kernel
theorem dL_law_329 : decode cL_law 329 = .ok (.ifCond .eq 7, 3) := by decide +kernel
theorem dL_law_332 : decode cL_law 332 = .ok (.iconst 1, 1) := by decide +kernel
theorem dL_law_333 : decode cL_law 333 = .ok (.goto 4, 3) := by decide +kernel
theorem dL_law_336 : decode cL_law 336 = .ok (.iconst 0, 1) := by decide +kernel
theorem dL_law_337 : decode cL_law 337 = .ok (.aload_n 0, 1) := by decide +kernel
theorem dL_law_338 : decode cL_law 338 = .ok (.iload_n 3, 1) := by decide +kernel
theorem dL_law_339 : decode cL_law 339 = .ok (.iconst 4, 1) := by decide +kernel
theorem dL_law_340 : decode cL_law 340 = .ok (.iadd, 1) := by decide +kernel
theorem dL_law_341 : decode cL_law 341 = .ok (.iaload, 1) := by decide +kernel
theorem dL_law_342 : decode cL_law 342 = .ok (.aload_n 0, 1) := by decide +kernel
theorem dL_law_343 : decode cL_law 343 = .ok (.iload_n 3, 1) := by decide +kernel
theorem dL_law_344 : decode cL_law 344 = .ok (.iconst 5, 1) := by decide +kernel
theorem dL_law_345 : decode cL_law 345 = .ok (.iadd, 1) := by decide +kernel
theorem dL_law_346 : decode cL_law 346 = .ok (.iaload, 1) := by decide +kernel
theorem dL_law_347 : decode cL_law 347 = .ok (.invokevirtual 37, 3) := by decide +kernel
theorem dL_law_350 : decode cL_law 350 = .ok (.aload_n 2, 1) := by decide +kernel
theorem dL_law_351 : decode cL_law 351 = .ok (.aload_n 0, 1) := by decide +kernel
theorem dL_law_352 : decode cL_law 352 = .ok (.iload_n 3, 1) := by decide +kernel
theorem dL_law_353 : decode cL_law 353 = .ok (.iconst 1, 1) := by decide +kernel
theorem dL_law_354 : decode cL_law 354 = .ok (.iadd, 1) := by decide +kernel
theorem dL_law_355 : decode cL_law 355 = .ok (.iaload, 1) := by decide +kernel
theorem dL_law_356 : decode cL_law 356 = .ok (.aload_n 0, 1) := by decide +kernel
theorem dL_law_357 : decode cL_law 357 = .ok (.iload_n 3, 1) := by decide +kernel
theorem dL_law_358 : decode cL_law 358 = .ok (.iconst 2, 1) := by decide +kernel
theorem dL_law_359 : decode cL_law 359 = .ok (.iadd, 1) := by decide +kernel
theorem dL_law_360 : decode cL_law 360 = .ok (.iaload, 1) := by decide +kernel
theorem dL_law_361 : decode cL_law 361 = .ok (.aload_n 0, 1) := by decide +kernel
theorem dL_law_362 : decode cL_law 362 = .ok (.iload_n 3, 1) := by decide +kernel
theorem dL_law_363 : decode cL_law 363 = .ok (.iconst 3, 1) := by decide +kernel
theorem dL_law_364 : decode cL_law 364 = .ok (.iadd, 1) := by decide +kernel
theorem dL_law_365 : decode cL_law 365 = .ok (.iaload, 1) := by decide +kernel
theorem dL_law_366 : decode cL_law 366 = .ok (.ifCond .eq 7, 3) := by decide +kernel
theorem dL_law_369 : decode cL_law 369 = .ok (.iconst 1, 1) := by decide +kernel
theorem dL_law_370 : decode cL_law 370 = .ok (.goto 4, 3) := by decide +kernel
theorem dL_law_373 : decode cL_law 373 = .ok (.iconst 0, 1) := by decide +kernel
theorem dL_law_374 : decode cL_law 374 = .ok (.aload_n 0, 1) := by decide +kernel
theorem dL_law_375 : decode cL_law 375 = .ok (.iload_n 3, 1) := by decide +kernel
theorem dL_law_376 : decode cL_law 376 = .ok (.iconst 4, 1) := by decide +kernel
theorem dL_law_377 : decode cL_law 377 = .ok (.iadd, 1) := by decide +kernel
theorem dL_law_378 : decode cL_law 378 = .ok (.iaload, 1) := by decide +kernel
theorem dL_law_379 : decode cL_law 379 = .ok (.aload_n 0, 1) := by decide +kernel
theorem dL_law_380 : decode cL_law 380 = .ok (.iload_n 3, 1) := by decide +kernel
theorem dL_law_381 : decode cL_law 381 = .ok (.iconst 5, 1) := by decide +kernel
theorem dL_law_382 : decode cL_law 382 = .ok (.iadd, 1) := by decide +kernel
theorem dL_law_383 : decode cL_law 383 = .ok (.iaload, 1) := by decide +kernel
theorem dL_law_384 : decode cL_law 384 = .ok (.invokevirtual 41, 3) := by decide +kernel
theorem dL_law_387 : decode cL_law 387 = .ok (.if_icmp .eq 634, 3) := by decide +kernel
theorem dL_law_390 : decode cL_law 390 = .ok (.iconst 0, 1) := by decide +kernel
theorem dL_law_391 : decode cL_law 391 = .ok (.ireturn, 1) := by decide +kernel
theorem dL_law_392 : decode cL_law 392 = .ok (.aload_n 1, 1) := by decide +kernel
theorem dL_law_393 : decode cL_law 393 = .ok (.aload_n 0, 1) := by decide +kernel
theorem dL_law_394 : decode cL_law 394 = .ok (.iload_n 3, 1) := by decide +kernel
theorem dL_law_395 : decode cL_law 395 = .ok (.iconst 1, 1) := by decide +kernel
theorem dL_law_396 : decode cL_law 396 = .ok (.iadd, 1) := by decide +kernel
theorem dL_law_397 : decode cL_law 397 = .ok (.iaload, 1) := by decide +kernel
theorem dL_law_398 : decode cL_law 398 = .ok (.aload_n 0, 1) := by decide +kernel
theorem dL_law_399 : decode cL_law 399 = .ok (.iload_n 3, 1) := by decide +kernel
theorem dL_law_400 : decode cL_law 400 = .ok (.iconst 2, 1) := by decide +kernel
theorem dL_law_401 : decode cL_law 401 = .ok (.iadd, 1) := by decide +kernel
theorem dL_law_402 : decode cL_law 402 = .ok (.iaload, 1) := by decide +kernel
theorem dL_law_403 : decode cL_law 403 = .ok (.aload_n 0, 1) := by decide +kernel
theorem dL_law_404 : decode cL_law 404 = .ok (.iload_n 3, 1) := by decide +kernel
theorem dL_law_405 : decode cL_law 405 = .ok (.iconst 3, 1) := by decide +kernel
theorem dL_law_406 : decode cL_law 406 = .ok (.iadd, 1) := by decide +kernel
theorem dL_law_407 : decode cL_law 407 = .ok (.iaload, 1) := by decide +kernel
theorem dL_law_408 : decode cL_law 408 = .ok (.invokevirtual 42, 3) := by decide +kernel
theorem dL_law_411 : decode cL_law 411 = .ok (.aload_n 2, 1) := by decide +kernel
theorem dL_law_412 : decode cL_law 412 = .ok (.aload_n 0, 1) := by decide +kernel
theorem dL_law_413 : decode cL_law 413 = .ok (.iload_n 3, 1) := by decide +kernel
theorem dL_law_414 : decode cL_law 414 = .ok (.iconst 1, 1) := by decide +kernel
theorem dL_law_415 : decode cL_law 415 = .ok (.iadd, 1) := by decide +kernel
theorem dL_law_416 : decode cL_law 416 = .ok (.iaload, 1) := by decide +kernel
theorem dL_law_417 : decode cL_law 417 = .ok (.aload_n 0, 1) := by decide +kernel
theorem dL_law_418 : decode cL_law 418 = .ok (.iload_n 3, 1) := by decide +kernel
theorem dL_law_419 : decode cL_law 419 = .ok (.iconst 2, 1) := by decide +kernel
theorem dL_law_420 : decode cL_law 420 = .ok (.iadd, 1) := by decide +kernel
theorem dL_law_421 : decode cL_law 421 = .ok (.iaload, 1) := by decide +kernel
theorem dL_law_422 : decode cL_law 422 = .ok (.aload_n 0, 1) := by decide +kernel
theorem dL_law_423 : decode cL_law 423 = .ok (.iload_n 3, 1) := by decide +kernel
theorem dL_law_424 : decode cL_law 424 = .ok (.iconst 3, 1) := by decide +kernel
theorem dL_law_425 : decode cL_law 425 = .ok (.iadd, 1) := by decide +kernel
theorem dL_law_426 : decode cL_law 426 = .ok (.iaload, 1) := by decide +kernel
theorem dL_law_427 : decode cL_law 427 = .ok (.invokevirtual 46, 3) := by decide +kernel
theorem dL_law_430 : decode cL_law 430 = .ok (.if_icmp .eq 591, 3) := by decide +kernel
theorem dL_law_433 : decode cL_law 433 = .ok (.iconst 0, 1) := by decide +kernel
theorem dL_law_434 : decode cL_law 434 = .ok (.ireturn, 1) := by decide +kernel
theorem dL_law_435 : decode cL_law 435 = .ok (.aload_n 1, 1) := by decide +kernel
theorem dL_law_436 : decode cL_law 436 = .ok (.aload_n 0, 1) := by decide +kernel
theorem dL_law_437 : decode cL_law 437 = .ok (.iload_n 3, 1) := by decide +kernel
theorem dL_law_438 : decode cL_law 438 = .ok (.iconst 1, 1) := by decide +kernel
theorem dL_law_439 : decode cL_law 439 = .ok (.iadd, 1) := by decide +kernel
theorem dL_law_440 : decode cL_law 440 = .ok (.iaload, 1) := by decide +kernel
theorem dL_law_441 : decode cL_law 441 = .ok (.aload_n 0, 1) := by decide +kernel
theorem dL_law_442 : decode cL_law 442 = .ok (.iload_n 3, 1) := by decide +kernel
theorem dL_law_443 : decode cL_law 443 = .ok (.iconst 2, 1) := by decide +kernel
theorem dL_law_444 : decode cL_law 444 = .ok (.iadd, 1) := by decide +kernel
theorem dL_law_445 : decode cL_law 445 = .ok (.iaload, 1) := by decide +kernel
theorem dL_law_446 : decode cL_law 446 = .ok (.aload_n 0, 1) := by decide +kernel
theorem dL_law_447 : decode cL_law 447 = .ok (.iload_n 3, 1) := by decide +kernel
theorem dL_law_448 : decode cL_law 448 = .ok (.iconst 3, 1) := by decide +kernel
theorem dL_law_449 : decode cL_law 449 = .ok (.iadd, 1) := by decide +kernel
theorem dL_law_450 : decode cL_law 450 = .ok (.iaload, 1) := by decide +kernel
theorem dL_law_451 : decode cL_law 451 = .ok (.aload_n 0, 1) := by decide +kernel
theorem dL_law_452 : decode cL_law 452 = .ok (.iload_n 3, 1) := by decide +kernel
theorem dL_law_453 : decode cL_law 453 = .ok (.iconst 4, 1) := by decide +kernel
theorem dL_law_454 : decode cL_law 454 = .ok (.iadd, 1) := by decide +kernel
theorem dL_law_455 : decode cL_law 455 = .ok (.iaload, 1) := by decide +kernel
theorem dL_law_456 : decode cL_law 456 = .ok (.invokevirtual 47, 3) := by decide +kernel
theorem dL_law_459 : decode cL_law 459 = .ok (.aload_n 2, 1) := by decide +kernel
theorem dL_law_460 : decode cL_law 460 = .ok (.aload_n 0, 1) := by decide +kernel
theorem dL_law_461 : decode cL_law 461 = .ok (.iload_n 3, 1) := by decide +kernel
theorem dL_law_462 : decode cL_law 462 = .ok (.iconst 1, 1) := by decide +kernel
theorem dL_law_463 : decode cL_law 463 = .ok (.iadd, 1) := by decide +kernel
theorem dL_law_464 : decode cL_law 464 = .ok (.iaload, 1) := by decide +kernel
theorem dL_law_465 : decode cL_law 465 = .ok (.aload_n 0, 1) := by decide +kernel
theorem dL_law_466 : decode cL_law 466 = .ok (.iload_n 3, 1) := by decide +kernel
theorem dL_law_467 : decode cL_law 467 = .ok (.iconst 2, 1) := by decide +kernel
theorem dL_law_468 : decode cL_law 468 = .ok (.iadd, 1) := by decide +kernel
theorem dL_law_469 : decode cL_law 469 = .ok (.iaload, 1) := by decide +kernel
theorem dL_law_470 : decode cL_law 470 = .ok (.aload_n 0, 1) := by decide +kernel
theorem dL_law_471 : decode cL_law 471 = .ok (.iload_n 3, 1) := by decide +kernel
theorem dL_law_472 : decode cL_law 472 = .ok (.iconst 3, 1) := by decide +kernel
theorem dL_law_473 : decode cL_law 473 = .ok (.iadd, 1) := by decide +kernel
theorem dL_law_474 : decode cL_law 474 = .ok (.iaload, 1) := by decide +kernel
theorem dL_law_475 : decode cL_law 475 = .ok (.aload_n 0, 1) := by decide +kernel
theorem dL_law_476 : decode cL_law 476 = .ok (.iload_n 3, 1) := by decide +kernel
theorem dL_law_477 : decode cL_law 477 = .ok (.iconst 4, 1) := by decide +kernel
theorem dL_law_478 : decode cL_law 478 = .ok (.iadd, 1) := by decide +kernel
theorem dL_law_479 : decode cL_law 479 = .ok (.iaload, 1) := by decide +kernel
theorem dL_law_480 : decode cL_law 480 = .ok (.invokevirtual 51, 3) := by decide +kernel
theorem dL_law_483 : decode cL_law 483 = .ok (.if_icmp .eq 538, 3) := by decide +kernel
theorem dL_law_486 : decode cL_law 486 = .ok (.iconst 0, 1) := by decide +kernel
theorem dL_law_487 : decode cL_law 487 = .ok (.ireturn, 1) := by decide +kernel
theorem dL_law_488 : decode cL_law 488 = .ok (.aload_n 1, 1) := by decide +kernel
theorem dL_law_489 : decode cL_law 489 = .ok (.aload_n 0, 1) := by decide +kernel
theorem dL_law_490 : decode cL_law 490 = .ok (.iload_n 3, 1) := by decide +kernel
theorem dL_law_491 : decode cL_law 491 = .ok (.iconst 1, 1) := by decide +kernel
theorem dL_law_492 : decode cL_law 492 = .ok (.iadd, 1) := by decide +kernel
theorem dL_law_493 : decode cL_law 493 = .ok (.iaload, 1) := by decide +kernel
theorem dL_law_494 : decode cL_law 494 = .ok (.aload_n 0, 1) := by decide +kernel
theorem dL_law_495 : decode cL_law 495 = .ok (.iload_n 3, 1) := by decide +kernel
theorem dL_law_496 : decode cL_law 496 = .ok (.iconst 2, 1) := by decide +kernel
theorem dL_law_497 : decode cL_law 497 = .ok (.iadd, 1) := by decide +kernel
theorem dL_law_498 : decode cL_law 498 = .ok (.iaload, 1) := by decide +kernel
theorem dL_law_499 : decode cL_law 499 = .ok (.aload_n 0, 1) := by decide +kernel
theorem dL_law_500 : decode cL_law 500 = .ok (.iload_n 3, 1) := by decide +kernel
theorem dL_law_501 : decode cL_law 501 = .ok (.iconst 3, 1) := by decide +kernel
theorem dL_law_502 : decode cL_law 502 = .ok (.iadd, 1) := by decide +kernel
theorem dL_law_503 : decode cL_law 503 = .ok (.iaload, 1) := by decide +kernel
theorem dL_law_504 : decode cL_law 504 = .ok (.ifCond .eq 7, 3) := by decide +kernel
theorem dL_law_507 : decode cL_law 507 = .ok (.iconst 1, 1) := by decide +kernel
theorem dL_law_508 : decode cL_law 508 = .ok (.goto 4, 3) := by decide +kernel
theorem dL_law_511 : decode cL_law 511 = .ok (.iconst 0, 1) := by decide +kernel
theorem dL_law_512 : decode cL_law 512 = .ok (.invokevirtual 52, 3) := by decide +kernel
theorem dL_law_515 : decode cL_law 515 = .ok (.aload_n 2, 1) := by decide +kernel
theorem dL_law_516 : decode cL_law 516 = .ok (.aload_n 0, 1) := by decide +kernel
theorem dL_law_517 : decode cL_law 517 = .ok (.iload_n 3, 1) := by decide +kernel
theorem dL_law_518 : decode cL_law 518 = .ok (.iconst 1, 1) := by decide +kernel
theorem dL_law_519 : decode cL_law 519 = .ok (.iadd, 1) := by decide +kernel
theorem dL_law_520 : decode cL_law 520 = .ok (.iaload, 1) := by decide +kernel
theorem dL_law_521 : decode cL_law 521 = .ok (.aload_n 0, 1) := by decide +kernel
theorem dL_law_522 : decode cL_law 522 = .ok (.iload_n 3, 1) := by decide +kernel
theorem dL_law_523 : decode cL_law 523 = .ok (.iconst 2, 1) := by decide +kernel
theorem dL_law_524 : decode cL_law 524 = .ok (.iadd, 1) := by decide +kernel
theorem dL_law_525 : decode cL_law 525 = .ok (.iaload, 1) := by decide +kernel
theorem dL_law_526 : decode cL_law 526 = .ok (.aload_n 0, 1) := by decide +kernel
theorem dL_law_527 : decode cL_law 527 = .ok (.iload_n 3, 1) := by decide +kernel
theorem dL_law_528 : decode cL_law 528 = .ok (.iconst 3, 1) := by decide +kernel
theorem dL_law_529 : decode cL_law 529 = .ok (.iadd, 1) := by decide +kernel
theorem dL_law_530 : decode cL_law 530 = .ok (.iaload, 1) := by decide +kernel
theorem dL_law_531 : decode cL_law 531 = .ok (.ifCond .eq 7, 3) := by decide +kernel
theorem dL_law_534 : decode cL_law 534 = .ok (.iconst 1, 1) := by decide +kernel
theorem dL_law_535 : decode cL_law 535 = .ok (.goto 4, 3) := by decide +kernel
theorem dL_law_538 : decode cL_law 538 = .ok (.iconst 0, 1) := by decide +kernel
theorem dL_law_539 : decode cL_law 539 = .ok (.invokevirtual 56, 3) := by decide +kernel
theorem dL_law_542 : decode cL_law 542 = .ok (.if_icmp .eq 479, 3) := by decide +kernel
theorem dL_law_545 : decode cL_law 545 = .ok (.iconst 0, 1) := by decide +kernel
theorem dL_law_546 : decode cL_law 546 = .ok (.ireturn, 1) := by decide +kernel
theorem dL_law_547 : decode cL_law 547 = .ok (.aload_n 1, 1) := by decide +kernel
theorem dL_law_548 : decode cL_law 548 = .ok (.aload_n 0, 1) := by decide +kernel
theorem dL_law_549 : decode cL_law 549 = .ok (.iload_n 3, 1) := by decide +kernel
theorem dL_law_550 : decode cL_law 550 = .ok (.iconst 1, 1) := by decide +kernel
theorem dL_law_551 : decode cL_law 551 = .ok (.iadd, 1) := by decide +kernel
theorem dL_law_552 : decode cL_law 552 = .ok (.iaload, 1) := by decide +kernel
theorem dL_law_553 : decode cL_law 553 = .ok (.invokevirtual 57, 3) := by decide +kernel
theorem dL_law_556 : decode cL_law 556 = .ok (.aload_n 2, 1) := by decide +kernel
theorem dL_law_557 : decode cL_law 557 = .ok (.aload_n 0, 1) := by decide +kernel
theorem dL_law_558 : decode cL_law 558 = .ok (.iload_n 3, 1) := by decide +kernel
theorem dL_law_559 : decode cL_law 559 = .ok (.iconst 1, 1) := by decide +kernel
theorem dL_law_560 : decode cL_law 560 = .ok (.iadd, 1) := by decide +kernel
theorem dL_law_561 : decode cL_law 561 = .ok (.iaload, 1) := by decide +kernel
theorem dL_law_562 : decode cL_law 562 = .ok (.invokevirtual 61, 3) := by decide +kernel
theorem dL_law_565 : decode cL_law 565 = .ok (.if_icmp .eq 456, 3) := by decide +kernel
theorem dL_law_568 : decode cL_law 568 = .ok (.iconst 0, 1) := by decide +kernel
theorem dL_law_569 : decode cL_law 569 = .ok (.ireturn, 1) := by decide +kernel
theorem dL_law_570 : decode cL_law 570 = .ok (.aload_n 1, 1) := by decide +kernel
theorem dL_law_571 : decode cL_law 571 = .ok (.aload_n 0, 1) := by decide +kernel
theorem dL_law_572 : decode cL_law 572 = .ok (.iload_n 3, 1) := by decide +kernel
theorem dL_law_573 : decode cL_law 573 = .ok (.iconst 1, 1) := by decide +kernel
theorem dL_law_574 : decode cL_law 574 = .ok (.iadd, 1) := by decide +kernel
theorem dL_law_575 : decode cL_law 575 = .ok (.iaload, 1) := by decide +kernel
theorem dL_law_576 : decode cL_law 576 = .ok (.aload_n 0, 1) := by decide +kernel
theorem dL_law_577 : decode cL_law 577 = .ok (.iload_n 3, 1) := by decide +kernel
theorem dL_law_578 : decode cL_law 578 = .ok (.iconst 2, 1) := by decide +kernel
theorem dL_law_579 : decode cL_law 579 = .ok (.iadd, 1) := by decide +kernel
theorem dL_law_580 : decode cL_law 580 = .ok (.iaload, 1) := by decide +kernel
theorem dL_law_581 : decode cL_law 581 = .ok (.invokevirtual 62, 3) := by decide +kernel
theorem dL_law_584 : decode cL_law 584 = .ok (.aload_n 2, 1) := by decide +kernel
theorem dL_law_585 : decode cL_law 585 = .ok (.aload_n 0, 1) := by decide +kernel
theorem dL_law_586 : decode cL_law 586 = .ok (.iload_n 3, 1) := by decide +kernel
theorem dL_law_587 : decode cL_law 587 = .ok (.iconst 1, 1) := by decide +kernel
theorem dL_law_588 : decode cL_law 588 = .ok (.iadd, 1) := by decide +kernel
theorem dL_law_589 : decode cL_law 589 = .ok (.iaload, 1) := by decide +kernel
theorem dL_law_590 : decode cL_law 590 = .ok (.aload_n 0, 1) := by decide +kernel
theorem dL_law_591 : decode cL_law 591 = .ok (.iload_n 3, 1) := by decide +kernel
theorem dL_law_592 : decode cL_law 592 = .ok (.iconst 2, 1) := by decide +kernel
theorem dL_law_593 : decode cL_law 593 = .ok (.iadd, 1) := by decide +kernel
theorem dL_law_594 : decode cL_law 594 = .ok (.iaload, 1) := by decide +kernel
theorem dL_law_595 : decode cL_law 595 = .ok (.invokevirtual 66, 3) := by decide +kernel
theorem dL_law_598 : decode cL_law 598 = .ok (.if_icmp .eq 423, 3) := by decide +kernel
theorem dL_law_601 : decode cL_law 601 = .ok (.iconst 0, 1) := by decide +kernel
theorem dL_law_602 : decode cL_law 602 = .ok (.ireturn, 1) := by decide +kernel
theorem dL_law_603 : decode cL_law 603 = .ok (.aload_n 1, 1) := by decide +kernel
theorem dL_law_604 : decode cL_law 604 = .ok (.aload_n 0, 1) := by decide +kernel
theorem dL_law_605 : decode cL_law 605 = .ok (.iload_n 3, 1) := by decide +kernel
theorem dL_law_606 : decode cL_law 606 = .ok (.iconst 1, 1) := by decide +kernel
theorem dL_law_607 : decode cL_law 607 = .ok (.iadd, 1) := by decide +kernel
theorem dL_law_608 : decode cL_law 608 = .ok (.iaload, 1) := by decide +kernel
theorem dL_law_609 : decode cL_law 609 = .ok (.aload_n 0, 1) := by decide +kernel
theorem dL_law_610 : decode cL_law 610 = .ok (.iload_n 3, 1) := by decide +kernel
theorem dL_law_611 : decode cL_law 611 = .ok (.iconst 2, 1) := by decide +kernel
theorem dL_law_612 : decode cL_law 612 = .ok (.iadd, 1) := by decide +kernel
theorem dL_law_613 : decode cL_law 613 = .ok (.iaload, 1) := by decide +kernel
theorem dL_law_614 : decode cL_law 614 = .ok (.invokevirtual 67, 3) := by decide +kernel
theorem dL_law_617 : decode cL_law 617 = .ok (.aload_n 2, 1) := by decide +kernel
theorem dL_law_618 : decode cL_law 618 = .ok (.aload_n 0, 1) := by decide +kernel
theorem dL_law_619 : decode cL_law 619 = .ok (.iload_n 3, 1) := by decide +kernel
theorem dL_law_620 : decode cL_law 620 = .ok (.iconst 1, 1) := by decide +kernel
theorem dL_law_621 : decode cL_law 621 = .ok (.iadd, 1) := by decide +kernel
theorem dL_law_622 : decode cL_law 622 = .ok (.iaload, 1) := by decide +kernel
theorem dL_law_623 : decode cL_law 623 = .ok (.aload_n 0, 1) := by decide +kernel
theorem dL_law_624 : decode cL_law 624 = .ok (.iload_n 3, 1) := by decide +kernel
theorem dL_law_625 : decode cL_law 625 = .ok (.iconst 2, 1) := by decide +kernel
theorem dL_law_626 : decode cL_law 626 = .ok (.iadd, 1) := by decide +kernel
theorem dL_law_627 : decode cL_law 627 = .ok (.iaload, 1) := by decide +kernel
theorem dL_law_628 : decode cL_law 628 = .ok (.invokevirtual 70, 3) := by decide +kernel
theorem dL_law_631 : decode cL_law 631 = .ok (.if_icmp .eq 390, 3) := by decide +kernel
theorem dL_law_634 : decode cL_law 634 = .ok (.iconst 0, 1) := by decide +kernel
theorem dL_law_635 : decode cL_law 635 = .ok (.ireturn, 1) := by decide +kernel
theorem dL_law_636 : decode cL_law 636 = .ok (.aload_n 1, 1) := by decide +kernel
theorem dL_law_637 : decode cL_law 637 = .ok (.aload_n 0, 1) := by decide +kernel
theorem dL_law_638 : decode cL_law 638 = .ok (.iload_n 3, 1) := by decide +kernel
theorem dL_law_639 : decode cL_law 639 = .ok (.iconst 1, 1) := by decide +kernel
theorem dL_law_640 : decode cL_law 640 = .ok (.iadd, 1) := by decide +kernel
theorem dL_law_641 : decode cL_law 641 = .ok (.iaload, 1) := by decide +kernel
theorem dL_law_642 : decode cL_law 642 = .ok (.aload_n 0, 1) := by decide +kernel
theorem dL_law_643 : decode cL_law 643 = .ok (.iload_n 3, 1) := by decide +kernel
theorem dL_law_644 : decode cL_law 644 = .ok (.iconst 2, 1) := by decide +kernel
theorem dL_law_645 : decode cL_law 645 = .ok (.iadd, 1) := by decide +kernel
theorem dL_law_646 : decode cL_law 646 = .ok (.iaload, 1) := by decide +kernel
theorem dL_law_647 : decode cL_law 647 = .ok (.aload_n 0, 1) := by decide +kernel
theorem dL_law_648 : decode cL_law 648 = .ok (.iload_n 3, 1) := by decide +kernel
theorem dL_law_649 : decode cL_law 649 = .ok (.iconst 3, 1) := by decide +kernel
theorem dL_law_650 : decode cL_law 650 = .ok (.iadd, 1) := by decide +kernel
theorem dL_law_651 : decode cL_law 651 = .ok (.iaload, 1) := by decide +kernel
theorem dL_law_652 : decode cL_law 652 = .ok (.invokevirtual 71, 3) := by decide +kernel
theorem dL_law_655 : decode cL_law 655 = .ok (.aload_n 2, 1) := by decide +kernel
theorem dL_law_656 : decode cL_law 656 = .ok (.aload_n 0, 1) := by decide +kernel
theorem dL_law_657 : decode cL_law 657 = .ok (.iload_n 3, 1) := by decide +kernel
theorem dL_law_658 : decode cL_law 658 = .ok (.iconst 1, 1) := by decide +kernel
theorem dL_law_659 : decode cL_law 659 = .ok (.iadd, 1) := by decide +kernel
theorem dL_law_660 : decode cL_law 660 = .ok (.iaload, 1) := by decide +kernel
theorem dL_law_661 : decode cL_law 661 = .ok (.aload_n 0, 1) := by decide +kernel
theorem dL_law_662 : decode cL_law 662 = .ok (.iload_n 3, 1) := by decide +kernel
theorem dL_law_663 : decode cL_law 663 = .ok (.iconst 2, 1) := by decide +kernel
theorem dL_law_664 : decode cL_law 664 = .ok (.iadd, 1) := by decide +kernel
theorem dL_law_665 : decode cL_law 665 = .ok (.iaload, 1) := by decide +kernel
theorem dL_law_666 : decode cL_law 666 = .ok (.aload_n 0, 1) := by decide +kernel
theorem dL_law_667 : decode cL_law 667 = .ok (.iload_n 3, 1) := by decide +kernel
theorem dL_law_668 : decode cL_law 668 = .ok (.iconst 3, 1) := by decide +kernel
theorem dL_law_669 : decode cL_law 669 = .ok (.iadd, 1) := by decide +kernel
theorem dL_law_670 : decode cL_law 670 = .ok (.iaload, 1) := by decide +kernel
theorem dL_law_671 : decode cL_law 671 = .ok (.invokevirtual 74, 3) := by decide +kernel
theorem dL_law_674 : decode cL_law 674 = .ok (.if_icmp .eq 347, 3) := by decide +kernel
theorem dL_law_677 : decode cL_law 677 = .ok (.iconst 0, 1) := by decide +kernel
theorem dL_law_678 : decode cL_law 678 = .ok (.ireturn, 1) := by decide +kernel
theorem dL_law_679 : decode cL_law 679 = .ok (.aload_n 1, 1) := by decide +kernel
theorem dL_law_680 : decode cL_law 680 = .ok (.aload_n 0, 1) := by decide +kernel
theorem dL_law_681 : decode cL_law 681 = .ok (.iload_n 3, 1) := by decide +kernel
theorem dL_law_682 : decode cL_law 682 = .ok (.iconst 1, 1) := by decide +kernel
theorem dL_law_683 : decode cL_law 683 = .ok (.iadd, 1) := by decide +kernel
theorem dL_law_684 : decode cL_law 684 = .ok (.iaload, 1) := by decide +kernel
theorem dL_law_685 : decode cL_law 685 = .ok (.invokevirtual 75, 3) := by decide +kernel
theorem dL_law_688 : decode cL_law 688 = .ok (.aload_n 2, 1) := by decide +kernel
theorem dL_law_689 : decode cL_law 689 = .ok (.aload_n 0, 1) := by decide +kernel
theorem dL_law_690 : decode cL_law 690 = .ok (.iload_n 3, 1) := by decide +kernel
theorem dL_law_691 : decode cL_law 691 = .ok (.iconst 1, 1) := by decide +kernel
theorem dL_law_692 : decode cL_law 692 = .ok (.iadd, 1) := by decide +kernel
theorem dL_law_693 : decode cL_law 693 = .ok (.iaload, 1) := by decide +kernel
theorem dL_law_694 : decode cL_law 694 = .ok (.invokevirtual 78, 3) := by decide +kernel
theorem dL_law_697 : decode cL_law 697 = .ok (.if_icmp .eq 324, 3) := by decide +kernel
theorem dL_law_700 : decode cL_law 700 = .ok (.iconst 0, 1) := by decide +kernel
theorem dL_law_701 : decode cL_law 701 = .ok (.ireturn, 1) := by decide +kernel
theorem dL_law_702 : decode cL_law 702 = .ok (.aload_n 1, 1) := by decide +kernel
theorem dL_law_703 : decode cL_law 703 = .ok (.aload_n 0, 1) := by decide +kernel
theorem dL_law_704 : decode cL_law 704 = .ok (.iload_n 3, 1) := by decide +kernel
theorem dL_law_705 : decode cL_law 705 = .ok (.iconst 1, 1) := by decide +kernel
theorem dL_law_706 : decode cL_law 706 = .ok (.iadd, 1) := by decide +kernel
theorem dL_law_707 : decode cL_law 707 = .ok (.iaload, 1) := by decide +kernel
theorem dL_law_708 : decode cL_law 708 = .ok (.aload_n 0, 1) := by decide +kernel
theorem dL_law_709 : decode cL_law 709 = .ok (.iload_n 3, 1) := by decide +kernel
theorem dL_law_710 : decode cL_law 710 = .ok (.iconst 2, 1) := by decide +kernel
theorem dL_law_711 : decode cL_law 711 = .ok (.iadd, 1) := by decide +kernel
theorem dL_law_712 : decode cL_law 712 = .ok (.iaload, 1) := by decide +kernel
theorem dL_law_713 : decode cL_law 713 = .ok (.invokevirtual 79, 3) := by decide +kernel
theorem dL_law_716 : decode cL_law 716 = .ok (.aload_n 2, 1) := by decide +kernel
theorem dL_law_717 : decode cL_law 717 = .ok (.aload_n 0, 1) := by decide +kernel
theorem dL_law_718 : decode cL_law 718 = .ok (.iload_n 3, 1) := by decide +kernel
theorem dL_law_719 : decode cL_law 719 = .ok (.iconst 1, 1) := by decide +kernel
theorem dL_law_720 : decode cL_law 720 = .ok (.iadd, 1) := by decide +kernel
theorem dL_law_721 : decode cL_law 721 = .ok (.iaload, 1) := by decide +kernel
theorem dL_law_722 : decode cL_law 722 = .ok (.aload_n 0, 1) := by decide +kernel
theorem dL_law_723 : decode cL_law 723 = .ok (.iload_n 3, 1) := by decide +kernel
theorem dL_law_724 : decode cL_law 724 = .ok (.iconst 2, 1) := by decide +kernel
theorem dL_law_725 : decode cL_law 725 = .ok (.iadd, 1) := by decide +kernel
theorem dL_law_726 : decode cL_law 726 = .ok (.iaload, 1) := by decide +kernel
theorem dL_law_727 : decode cL_law 727 = .ok (.invokevirtual 82, 3) := by decide +kernel
theorem dL_law_730 : decode cL_law 730 = .ok (.if_icmp .eq 291, 3) := by decide +kernel
theorem dL_law_733 : decode cL_law 733 = .ok (.iconst 0, 1) := by decide +kernel
theorem dL_law_734 : decode cL_law 734 = .ok (.ireturn, 1) := by decide +kernel
theorem dL_law_735 : decode cL_law 735 = .ok (.aload_n 1, 1) := by decide +kernel
theorem dL_law_736 : decode cL_law 736 = .ok (.aload_n 0, 1) := by decide +kernel
theorem dL_law_737 : decode cL_law 737 = .ok (.iload_n 3, 1) := by decide +kernel
theorem dL_law_738 : decode cL_law 738 = .ok (.iconst 1, 1) := by decide +kernel
theorem dL_law_739 : decode cL_law 739 = .ok (.iadd, 1) := by decide +kernel
theorem dL_law_740 : decode cL_law 740 = .ok (.iaload, 1) := by decide +kernel
theorem dL_law_741 : decode cL_law 741 = .ok (.aload_n 0, 1) := by decide +kernel
theorem dL_law_742 : decode cL_law 742 = .ok (.iload_n 3, 1) := by decide +kernel
theorem dL_law_743 : decode cL_law 743 = .ok (.iconst 2, 1) := by decide +kernel
theorem dL_law_744 : decode cL_law 744 = .ok (.iadd, 1) := by decide +kernel
theorem dL_law_745 : decode cL_law 745 = .ok (.iaload, 1) := by decide +kernel
theorem dL_law_746 : decode cL_law 746 = .ok (.invokevirtual 83, 3) := by decide +kernel
theorem dL_law_749 : decode cL_law 749 = .ok (.aload_n 2, 1) := by decide +kernel
theorem dL_law_750 : decode cL_law 750 = .ok (.aload_n 0, 1) := by decide +kernel
theorem dL_law_751 : decode cL_law 751 = .ok (.iload_n 3, 1) := by decide +kernel
theorem dL_law_752 : decode cL_law 752 = .ok (.iconst 1, 1) := by decide +kernel
theorem dL_law_753 : decode cL_law 753 = .ok (.iadd, 1) := by decide +kernel
theorem dL_law_754 : decode cL_law 754 = .ok (.iaload, 1) := by decide +kernel
theorem dL_law_755 : decode cL_law 755 = .ok (.aload_n 0, 1) := by decide +kernel
theorem dL_law_756 : decode cL_law 756 = .ok (.iload_n 3, 1) := by decide +kernel
theorem dL_law_757 : decode cL_law 757 = .ok (.iconst 2, 1) := by decide +kernel
theorem dL_law_758 : decode cL_law 758 = .ok (.iadd, 1) := by decide +kernel
theorem dL_law_759 : decode cL_law 759 = .ok (.iaload, 1) := by decide +kernel
theorem dL_law_760 : decode cL_law 760 = .ok (.invokevirtual 86, 3) := by decide +kernel
theorem dL_law_763 : decode cL_law 763 = .ok (.if_icmp .eq 258, 3) := by decide +kernel
theorem dL_law_766 : decode cL_law 766 = .ok (.iconst 0, 1) := by decide +kernel
theorem dL_law_767 : decode cL_law 767 = .ok (.ireturn, 1) := by decide +kernel
theorem dL_law_768 : decode cL_law 768 = .ok (.aload_n 1, 1) := by decide +kernel
theorem dL_law_769 : decode cL_law 769 = .ok (.aload_n 0, 1) := by decide +kernel
theorem dL_law_770 : decode cL_law 770 = .ok (.iload_n 3, 1) := by decide +kernel
theorem dL_law_771 : decode cL_law 771 = .ok (.iconst 1, 1) := by decide +kernel
theorem dL_law_772 : decode cL_law 772 = .ok (.iadd, 1) := by decide +kernel
theorem dL_law_773 : decode cL_law 773 = .ok (.iaload, 1) := by decide +kernel
theorem dL_law_774 : decode cL_law 774 = .ok (.aload_n 0, 1) := by decide +kernel
theorem dL_law_775 : decode cL_law 775 = .ok (.iload_n 3, 1) := by decide +kernel
theorem dL_law_776 : decode cL_law 776 = .ok (.iconst 2, 1) := by decide +kernel
theorem dL_law_777 : decode cL_law 777 = .ok (.iadd, 1) := by decide +kernel
theorem dL_law_778 : decode cL_law 778 = .ok (.iaload, 1) := by decide +kernel
theorem dL_law_779 : decode cL_law 779 = .ok (.invokevirtual 87, 3) := by decide +kernel
theorem dL_law_782 : decode cL_law 782 = .ok (.aload_n 2, 1) := by decide +kernel
theorem dL_law_783 : decode cL_law 783 = .ok (.aload_n 0, 1) := by decide +kernel
theorem dL_law_784 : decode cL_law 784 = .ok (.iload_n 3, 1) := by decide +kernel
theorem dL_law_785 : decode cL_law 785 = .ok (.iconst 1, 1) := by decide +kernel
theorem dL_law_786 : decode cL_law 786 = .ok (.iadd, 1) := by decide +kernel
theorem dL_law_787 : decode cL_law 787 = .ok (.iaload, 1) := by decide +kernel
theorem dL_law_788 : decode cL_law 788 = .ok (.aload_n 0, 1) := by decide +kernel
theorem dL_law_789 : decode cL_law 789 = .ok (.iload_n 3, 1) := by decide +kernel
theorem dL_law_790 : decode cL_law 790 = .ok (.iconst 2, 1) := by decide +kernel
theorem dL_law_791 : decode cL_law 791 = .ok (.iadd, 1) := by decide +kernel
theorem dL_law_792 : decode cL_law 792 = .ok (.iaload, 1) := by decide +kernel
theorem dL_law_793 : decode cL_law 793 = .ok (.invokevirtual 90, 3) := by decide +kernel
theorem dL_law_796 : decode cL_law 796 = .ok (.if_icmp .eq 225, 3) := by decide +kernel
theorem dL_law_799 : decode cL_law 799 = .ok (.iconst 0, 1) := by decide +kernel
theorem dL_law_800 : decode cL_law 800 = .ok (.ireturn, 1) := by decide +kernel
theorem dL_law_801 : decode cL_law 801 = .ok (.aload_n 1, 1) := by decide +kernel
theorem dL_law_802 : decode cL_law 802 = .ok (.aload_n 0, 1) := by decide +kernel
theorem dL_law_803 : decode cL_law 803 = .ok (.iload_n 3, 1) := by decide +kernel
theorem dL_law_804 : decode cL_law 804 = .ok (.iconst 1, 1) := by decide +kernel
theorem dL_law_805 : decode cL_law 805 = .ok (.iadd, 1) := by decide +kernel
theorem dL_law_806 : decode cL_law 806 = .ok (.iaload, 1) := by decide +kernel
theorem dL_law_807 : decode cL_law 807 = .ok (.aload_n 0, 1) := by decide +kernel
theorem dL_law_808 : decode cL_law 808 = .ok (.iload_n 3, 1) := by decide +kernel
theorem dL_law_809 : decode cL_law 809 = .ok (.iconst 2, 1) := by decide +kernel
theorem dL_law_810 : decode cL_law 810 = .ok (.iadd, 1) := by decide +kernel
theorem dL_law_811 : decode cL_law 811 = .ok (.iaload, 1) := by decide +kernel
theorem dL_law_812 : decode cL_law 812 = .ok (.invokevirtual 91, 3) := by decide +kernel
theorem dL_law_815 : decode cL_law 815 = .ok (.aload_n 2, 1) := by decide +kernel
theorem dL_law_816 : decode cL_law 816 = .ok (.aload_n 0, 1) := by decide +kernel
theorem dL_law_817 : decode cL_law 817 = .ok (.iload_n 3, 1) := by decide +kernel
theorem dL_law_818 : decode cL_law 818 = .ok (.iconst 1, 1) := by decide +kernel
theorem dL_law_819 : decode cL_law 819 = .ok (.iadd, 1) := by decide +kernel
theorem dL_law_820 : decode cL_law 820 = .ok (.iaload, 1) := by decide +kernel
theorem dL_law_821 : decode cL_law 821 = .ok (.aload_n 0, 1) := by decide +kernel
theorem dL_law_822 : decode cL_law 822 = .ok (.iload_n 3, 1) := by decide +kernel
theorem dL_law_823 : decode cL_law 823 = .ok (.iconst 2, 1) := by decide +kernel
theorem dL_law_824 : decode cL_law 824 = .ok (.iadd, 1) := by decide +kernel
theorem dL_law_825 : decode cL_law 825 = .ok (.iaload, 1) := by decide +kernel
theorem dL_law_826 : decode cL_law 826 = .ok (.invokevirtual 94, 3) := by decide +kernel
theorem dL_law_829 : decode cL_law 829 = .ok (.if_icmp .eq 192, 3) := by decide +kernel
theorem dL_law_832 : decode cL_law 832 = .ok (.iconst 0, 1) := by decide +kernel
theorem dL_law_833 : decode cL_law 833 = .ok (.ireturn, 1) := by decide +kernel
theorem dL_law_834 : decode cL_law 834 = .ok (.aload_n 1, 1) := by decide +kernel
theorem dL_law_835 : decode cL_law 835 = .ok (.aload_n 0, 1) := by decide +kernel
theorem dL_law_836 : decode cL_law 836 = .ok (.iload_n 3, 1) := by decide +kernel
theorem dL_law_837 : decode cL_law 837 = .ok (.iconst 1, 1) := by decide +kernel
theorem dL_law_838 : decode cL_law 838 = .ok (.iadd, 1) := by decide +kernel
theorem dL_law_839 : decode cL_law 839 = .ok (.iaload, 1) := by decide +kernel
theorem dL_law_840 : decode cL_law 840 = .ok (.invokevirtual 95, 3) := by decide +kernel
theorem dL_law_843 : decode cL_law 843 = .ok (.aload_n 2, 1) := by decide +kernel
theorem dL_law_844 : decode cL_law 844 = .ok (.aload_n 0, 1) := by decide +kernel
theorem dL_law_845 : decode cL_law 845 = .ok (.iload_n 3, 1) := by decide +kernel
theorem dL_law_846 : decode cL_law 846 = .ok (.iconst 1, 1) := by decide +kernel
theorem dL_law_847 : decode cL_law 847 = .ok (.iadd, 1) := by decide +kernel
theorem dL_law_848 : decode cL_law 848 = .ok (.iaload, 1) := by decide +kernel
theorem dL_law_849 : decode cL_law 849 = .ok (.invokevirtual 98, 3) := by decide +kernel
theorem dL_law_852 : decode cL_law 852 = .ok (.if_icmp .eq 169, 3) := by decide +kernel
theorem dL_law_855 : decode cL_law 855 = .ok (.iconst 0, 1) := by decide +kernel
theorem dL_law_856 : decode cL_law 856 = .ok (.ireturn, 1) := by decide +kernel
theorem dL_law_857 : decode cL_law 857 = .ok (.aload_n 1, 1) := by decide +kernel
theorem dL_law_858 : decode cL_law 858 = .ok (.aload_n 0, 1) := by decide +kernel
theorem dL_law_859 : decode cL_law 859 = .ok (.iload_n 3, 1) := by decide +kernel
theorem dL_law_860 : decode cL_law 860 = .ok (.iconst 1, 1) := by decide +kernel
theorem dL_law_861 : decode cL_law 861 = .ok (.iadd, 1) := by decide +kernel
theorem dL_law_862 : decode cL_law 862 = .ok (.iaload, 1) := by decide +kernel
theorem dL_law_863 : decode cL_law 863 = .ok (.invokevirtual 99, 3) := by decide +kernel
theorem dL_law_866 : decode cL_law 866 = .ok (.aload_n 2, 1) := by decide +kernel
theorem dL_law_867 : decode cL_law 867 = .ok (.aload_n 0, 1) := by decide +kernel
theorem dL_law_868 : decode cL_law 868 = .ok (.iload_n 3, 1) := by decide +kernel
theorem dL_law_869 : decode cL_law 869 = .ok (.iconst 1, 1) := by decide +kernel
theorem dL_law_870 : decode cL_law 870 = .ok (.iadd, 1) := by decide +kernel
theorem dL_law_871 : decode cL_law 871 = .ok (.iaload, 1) := by decide +kernel
theorem dL_law_872 : decode cL_law 872 = .ok (.invokevirtual 102, 3) := by decide +kernel
theorem dL_law_875 : decode cL_law 875 = .ok (.if_icmp .eq 146, 3) := by decide +kernel
theorem dL_law_878 : decode cL_law 878 = .ok (.iconst 0, 1) := by decide +kernel
theorem dL_law_879 : decode cL_law 879 = .ok (.ireturn, 1) := by decide +kernel
theorem dL_law_880 : decode cL_law 880 = .ok (.aload_n 1, 1) := by decide +kernel
theorem dL_law_881 : decode cL_law 881 = .ok (.aload_n 0, 1) := by decide +kernel
theorem dL_law_882 : decode cL_law 882 = .ok (.iload_n 3, 1) := by decide +kernel
theorem dL_law_883 : decode cL_law 883 = .ok (.iconst 1, 1) := by decide +kernel
theorem dL_law_884 : decode cL_law 884 = .ok (.iadd, 1) := by decide +kernel
theorem dL_law_885 : decode cL_law 885 = .ok (.iaload, 1) := by decide +kernel
theorem dL_law_886 : decode cL_law 886 = .ok (.aload_n 0, 1) := by decide +kernel
theorem dL_law_887 : decode cL_law 887 = .ok (.iload_n 3, 1) := by decide +kernel
theorem dL_law_888 : decode cL_law 888 = .ok (.iconst 2, 1) := by decide +kernel
theorem dL_law_889 : decode cL_law 889 = .ok (.iadd, 1) := by decide +kernel
theorem dL_law_890 : decode cL_law 890 = .ok (.iaload, 1) := by decide +kernel
theorem dL_law_891 : decode cL_law 891 = .ok (.ifCond .eq 7, 3) := by decide +kernel
theorem dL_law_894 : decode cL_law 894 = .ok (.iconst 1, 1) := by decide +kernel
theorem dL_law_895 : decode cL_law 895 = .ok (.goto 4, 3) := by decide +kernel
theorem dL_law_898 : decode cL_law 898 = .ok (.iconst 0, 1) := by decide +kernel
theorem dL_law_899 : decode cL_law 899 = .ok (.invokevirtual 103, 3) := by decide +kernel
theorem dL_law_902 : decode cL_law 902 = .ok (.aload_n 2, 1) := by decide +kernel
theorem dL_law_903 : decode cL_law 903 = .ok (.aload_n 0, 1) := by decide +kernel
theorem dL_law_904 : decode cL_law 904 = .ok (.iload_n 3, 1) := by decide +kernel
theorem dL_law_905 : decode cL_law 905 = .ok (.iconst 1, 1) := by decide +kernel
theorem dL_law_906 : decode cL_law 906 = .ok (.iadd, 1) := by decide +kernel
theorem dL_law_907 : decode cL_law 907 = .ok (.iaload, 1) := by decide +kernel
theorem dL_law_908 : decode cL_law 908 = .ok (.aload_n 0, 1) := by decide +kernel
theorem dL_law_909 : decode cL_law 909 = .ok (.iload_n 3, 1) := by decide +kernel
theorem dL_law_910 : decode cL_law 910 = .ok (.iconst 2, 1) := by decide +kernel
theorem dL_law_911 : decode cL_law 911 = .ok (.iadd, 1) := by decide +kernel
theorem dL_law_912 : decode cL_law 912 = .ok (.iaload, 1) := by decide +kernel
theorem dL_law_913 : decode cL_law 913 = .ok (.ifCond .eq 7, 3) := by decide +kernel
theorem dL_law_916 : decode cL_law 916 = .ok (.iconst 1, 1) := by decide +kernel
theorem dL_law_917 : decode cL_law 917 = .ok (.goto 4, 3) := by decide +kernel
theorem dL_law_920 : decode cL_law 920 = .ok (.iconst 0, 1) := by decide +kernel
theorem dL_law_921 : decode cL_law 921 = .ok (.invokevirtual 107, 3) := by decide +kernel
theorem dL_law_924 : decode cL_law 924 = .ok (.if_icmp .eq 97, 3) := by decide +kernel
theorem dL_law_927 : decode cL_law 927 = .ok (.iconst 0, 1) := by decide +kernel
theorem dL_law_928 : decode cL_law 928 = .ok (.ireturn, 1) := by decide +kernel
theorem dL_law_929 : decode cL_law 929 = .ok (.aload_n 1, 1) := by decide +kernel
theorem dL_law_930 : decode cL_law 930 = .ok (.aload_n 0, 1) := by decide +kernel
theorem dL_law_931 : decode cL_law 931 = .ok (.iload_n 3, 1) := by decide +kernel
theorem dL_law_932 : decode cL_law 932 = .ok (.iconst 1, 1) := by decide +kernel
theorem dL_law_933 : decode cL_law 933 = .ok (.iadd, 1) := by decide +kernel
theorem dL_law_934 : decode cL_law 934 = .ok (.iaload, 1) := by decide +kernel
theorem dL_law_935 : decode cL_law 935 = .ok (.aload_n 0, 1) := by decide +kernel
theorem dL_law_936 : decode cL_law 936 = .ok (.iload_n 3, 1) := by decide +kernel
theorem dL_law_937 : decode cL_law 937 = .ok (.iconst 2, 1) := by decide +kernel
theorem dL_law_938 : decode cL_law 938 = .ok (.iadd, 1) := by decide +kernel
theorem dL_law_939 : decode cL_law 939 = .ok (.iaload, 1) := by decide +kernel
theorem dL_law_940 : decode cL_law 940 = .ok (.invokevirtual 108, 3) := by decide +kernel
theorem dL_law_943 : decode cL_law 943 = .ok (.aload_n 2, 1) := by decide +kernel
theorem dL_law_944 : decode cL_law 944 = .ok (.aload_n 0, 1) := by decide +kernel
theorem dL_law_945 : decode cL_law 945 = .ok (.iload_n 3, 1) := by decide +kernel
theorem dL_law_946 : decode cL_law 946 = .ok (.iconst 1, 1) := by decide +kernel
theorem dL_law_947 : decode cL_law 947 = .ok (.iadd, 1) := by decide +kernel
theorem dL_law_948 : decode cL_law 948 = .ok (.iaload, 1) := by decide +kernel
theorem dL_law_949 : decode cL_law 949 = .ok (.aload_n 0, 1) := by decide +kernel
theorem dL_law_950 : decode cL_law 950 = .ok (.iload_n 3, 1) := by decide +kernel
theorem dL_law_951 : decode cL_law 951 = .ok (.iconst 2, 1) := by decide +kernel
theorem dL_law_952 : decode cL_law 952 = .ok (.iadd, 1) := by decide +kernel
theorem dL_law_953 : decode cL_law 953 = .ok (.iaload, 1) := by decide +kernel
theorem dL_law_954 : decode cL_law 954 = .ok (.invokevirtual 111, 3) := by decide +kernel
theorem dL_law_957 : decode cL_law 957 = .ok (.if_icmp .eq 64, 3) := by decide +kernel
theorem dL_law_960 : decode cL_law 960 = .ok (.iconst 0, 1) := by decide +kernel
theorem dL_law_961 : decode cL_law 961 = .ok (.ireturn, 1) := by decide +kernel
theorem dL_law_962 : decode cL_law 962 = .ok (.aload_n 1, 1) := by decide +kernel
theorem dL_law_963 : decode cL_law 963 = .ok (.invokevirtual 112, 3) := by decide +kernel
theorem dL_law_966 : decode cL_law 966 = .ok (.aload_n 2, 1) := by decide +kernel
theorem dL_law_967 : decode cL_law 967 = .ok (.invokevirtual 115, 3) := by decide +kernel
theorem dL_law_970 : decode cL_law 970 = .ok (.if_icmp .eq 51, 3) := by decide +kernel
theorem dL_law_973 : decode cL_law 973 = .ok (.iconst 0, 1) := by decide +kernel
theorem dL_law_974 : decode cL_law 974 = .ok (.ireturn, 1) := by decide +kernel
theorem dL_law_975 : decode cL_law 975 = .ok (.aload_n 1, 1) := by decide +kernel
theorem dL_law_976 : decode cL_law 976 = .ok (.aload_n 0, 1) := by decide +kernel
theorem dL_law_977 : decode cL_law 977 = .ok (.iload_n 3, 1) := by decide +kernel
theorem dL_law_978 : decode cL_law 978 = .ok (.iconst 1, 1) := by decide +kernel
theorem dL_law_979 : decode cL_law 979 = .ok (.iadd, 1) := by decide +kernel
theorem dL_law_980 : decode cL_law 980 = .ok (.iaload, 1) := by decide +kernel
theorem dL_law_981 : decode cL_law 981 = .ok (.invokevirtual 116, 3) := by decide +kernel
theorem dL_law_984 : decode cL_law 984 = .ok (.aload_n 2, 1) := by decide +kernel
theorem dL_law_985 : decode cL_law 985 = .ok (.aload_n 0, 1) := by decide +kernel
theorem dL_law_986 : decode cL_law 986 = .ok (.iload_n 3, 1) := by decide +kernel
theorem dL_law_987 : decode cL_law 987 = .ok (.iconst 1, 1) := by decide +kernel
theorem dL_law_988 : decode cL_law 988 = .ok (.iadd, 1) := by decide +kernel
theorem dL_law_989 : decode cL_law 989 = .ok (.iaload, 1) := by decide +kernel
theorem dL_law_990 : decode cL_law 990 = .ok (.invokevirtual 119, 3) := by decide +kernel
theorem dL_law_993 : decode cL_law 993 = .ok (.if_icmp .eq 28, 3) := by decide +kernel
theorem dL_law_996 : decode cL_law 996 = .ok (.iconst 0, 1) := by decide +kernel
theorem dL_law_997 : decode cL_law 997 = .ok (.ireturn, 1) := by decide +kernel
theorem dL_law_998 : decode cL_law 998 = .ok (.aload_n 1, 1) := by decide +kernel
theorem dL_law_999 : decode cL_law 999 = .ok (.aload_n 0, 1) := by decide +kernel
theorem dL_law_1000 : decode cL_law 1000 = .ok (.iload_n 3, 1) := by decide +kernel
theorem dL_law_1001 : decode cL_law 1001 = .ok (.iconst 1, 1) := by decide +kernel
theorem dL_law_1002 : decode cL_law 1002 = .ok (.iadd, 1) := by decide +kernel
theorem dL_law_1003 : decode cL_law 1003 = .ok (.iaload, 1) := by decide +kernel
theorem dL_law_1004 : decode cL_law 1004 = .ok (.invokevirtual 120, 3) := by decide +kernel
theorem dL_law_1007 : decode cL_law 1007 = .ok (.aload_n 2, 1) := by decide +kernel
theorem dL_law_1008 : decode cL_law 1008 = .ok (.aload_n 0, 1) := by decide +kernel
theorem dL_law_1009 : decode cL_law 1009 = .ok (.iload_n 3, 1) := by decide +kernel
theorem dL_law_1010 : decode cL_law 1010 = .ok (.iconst 1, 1) := by decide +kernel
theorem dL_law_1011 : decode cL_law 1011 = .ok (.iadd, 1) := by decide +kernel
theorem dL_law_1012 : decode cL_law 1012 = .ok (.iaload, 1) := by decide +kernel
theorem dL_law_1013 : decode cL_law 1013 = .ok (.invokevirtual 123, 3) := by decide +kernel
theorem dL_law_1016 : decode cL_law 1016 = .ok (.if_icmp .eq 5, 3) := by decide +kernel
theorem dL_law_1019 : decode cL_law 1019 = .ok (.iconst 0, 1) := by decide +kernel
theorem dL_law_1020 : decode cL_law 1020 = .ok (.ireturn, 1) := by decide +kernel
theorem dL_law_1021 : decode cL_law 1021 = .ok (.iinc 3 6, 3) := by decide +kernel
theorem dL_law_1024 : decode cL_law 1024 = .ok (.goto (-1006), 3) := by decide +kernel
theorem dL_law_1027 : decode cL_law 1027 = .ok (.iconst 1, 1) := by decide +kernel
theorem dL_law_1028 : decode cL_law 1028 = .ok (.ireturn, 1) := by decide +kernel
end
section
/-! the words that every method has: the good ones of the tables -/
def WT : List Cond := lw_tbl.filter goodWord
theorem wt_in {w : Cond} (h : w ∈ lw_tbl) (g : goodWord w = true) : w ∈ WT := List.mem_filter.mpr ⟨h, g⟩
theorem wt_at {w : Cond} (k : Nat) (h : tables_1[k]? = some w) (g : goodWord w = true) : w ∈ WT := wt_in (List.mem_append_right _ (List.mem_of_getElem? h)) g
theorem wt_sel {w : Cond} (k : Nat) (h : (k2_sels lw_privs)[k]? = some w) (g : goodWord w = true) : w ∈ WT := wt_in (List.mem_append_left _ (List.mem_of_getElem? h)) g
theorem wt_good : GoodIn WT WT := fun w h => ⟨h, good_of_word (List.mem_filter.mp h).2⟩
/-! the memory: numbers by kind of cell, which of two, and place -/
abbrev Mm : Type := (Nat → Bool → Nat → Int32) × (Nat → Bool → Nat → Int64)
def gI (σ : Mm) (r : Nat) (i : Bool) (j : Nat) : Int32 := σ.1 r i j
def gL (σ : Mm) (r : Nat) (i : Bool) (j : Nat) : Int64 := σ.2 r i j
def sI (σ : Mm) (r : Nat) (i : Bool) (j : Nat) (v : Int32) : Mm := (fun r' i' j' => if r' = r ∧ i' = i ∧ j' = j then v else σ.1 r' i' j', σ.2)
def sL (σ : Mm) (r : Nat) (i : Bool) (j : Nat) (v : Int64) : Mm := (σ.1, fun r' i' j' => if r' = r ∧ i' = i ∧ j' = j then v else σ.2 r' i' j')
theorem gI_sI (σ : Mm) (r : Nat) (i : Bool) (j : Nat) (v : Int32) (r' : Nat) (i' : Bool) (j' : Nat) : gI (sI σ r i j v) r' i' j' = if r' = r ∧ i' = i ∧ j' = j then v else gI σ r' i' j' := rfl
theorem gI_sL (σ : Mm) (r : Nat) (i : Bool) (j : Nat) (v : Int64) (r' : Nat) (i' : Bool) (j' : Nat) : gI (sL σ r i j v) r' i' j' = gI σ r' i' j' := rfl
theorem gL_sI (σ : Mm) (r : Nat) (i : Bool) (j : Nat) (v : Int32) (r' : Nat) (i' : Bool) (j' : Nat) : gL (sI σ r i j v) r' i' j' = gL σ r' i' j' := rfl
theorem gL_sL (σ : Mm) (r : Nat) (i : Bool) (j : Nat) (v : Int64) (r' : Nat) (i' : Bool) (j' : Nat) : gL (sL σ r i j v) r' i' j' = if r' = r ∧ i' = i ∧ j' = j then v else gL σ r' i' j' := rfl
theorem Mm_ext {σ τ : Mm} (h1 : ∀ r i j, gI σ r i j = gI τ r i j) (h2 : ∀ r i j, gL σ r i j = gL τ r i j) : σ = τ := by
  obtain ⟨a, b⟩ := σ
  obtain ⟨c, d⟩ := τ
  have e1 : a = c := funext fun r => funext fun i => funext fun j => h1 r i j
  have e2 : b = d := funext fun r => funext fun i => funext fun j => h2 r i j
  rw [e1, e2]
/-! the places: addresses, tables, array classes, texts -/
abbrev Cx : Type := (Nat → Bool → Nat) × va_G × (Nat → ClassId) × (Nat → Nat) × (Nat → Nat)
def rf (G : Cx) (r : Nat) (i : Bool) : Value := .ref (G.1 r i)
def sf (G : Cx) (k : Nat) : Value := .ref (G.2.2.2.1 k)
abbrev vwCl : List vw_C := [(RX0, TX0, 14), (RX1, TX1, 8), (RX2, TX2, 11), (RX3, TX3, 10), (RX4, TX4, 13), (RX5, TX5, 6), (RX6, TX6, 8), (RX7, TX7, 50)]
def NR : Nat := 75
def dblL : List Bool := [true, true, true, false, true, false, false, false, false, false, true, true, true, true, true, true, true, true, true, true, true, true, true, true, true, true, true, true, true, true, false, false, false, true, true, true, true, false, false, false, false, false, false, false, false, false, false, false, false, false, false, false, false, false, false, false, false, false, false, false, false, false, false, false, false, false, false, false, false, false, false, false, false, false, false]
def arKL : List Nat := [0, 0, 0, 0, 0, 0, 0, 0, 0, 0, 1, 1, 1, 1, 1, 1, 1, 1, 2, 1, 1, 1, 1, 1, 1, 1, 1, 1, 2, 2, 4, 4, 1, 1, 1, 1, 1, 1, 1, 1, 2, 3, 3, 4, 1, 4, 1, 1, 1, 1, 1, 1, 1, 1, 1, 1, 1, 1, 1, 1, 1, 1, 2, 1, 1, 1, 1, 1, 1, 1, 1, 1, 2, 1, 2]
def arNL : List Nat := [0, 0, 0, 0, 0, 0, 0, 0, 0, 0, 4, 8, 8, 16, 16, 16, 16, 16, 16, 16, 16, 97, 4, 96, 8, 8, 8, 8, 8, 8, 4, 8, 53504, 256, 97, 6, 2, 20, 20, 97, 97, 500, 500, 4, 4, 8, 8, 8, 96, 4, 8, 8, 96, 2, 2, 2, 2, 16, 16, 16, 16, 16, 16, 20, 20, 6, 97, 2, 2, 2, 108640, 108640, 108640, 97, 97]
def dbl (r : Nat) : Bool := dblL.getD r false
def arK (r : Nat) : Nat := arKL.getD r 0
def arN (r : Nat) : Nat := arNL.getD r 0
def okC (r : Nat) (i : Bool) : Bool := decide (r < NR) && (decide (r < 8) || decide (10 ≤ r)) && (dbl r || !i)
def cls0 : List (Nat × Bool) := [(0, false), (0, true), (1, false), (1, true), (2, false), (2, true), (3, false), (4, false), (4, true), (5, false), (6, false), (7, false), (10, false), (10, true), (11, false), (11, true), (12, false), (12, true), (13, false), (13, true), (14, false), (14, true), (15, false), (15, true), (16, false), (16, true), (17, false), (17, true), (18, false), (18, true), (19, false), (19, true), (20, false), (20, true), (21, false), (21, true), (22, false), (22, true), (23, false), (23, true), (24, false), (24, true), (25, false), (25, true), (26, false), (26, true), (27, false), (27, true), (28, false), (28, true), (29, false), (29, true), (30, false), (31, false), (32, false), (33, false), (33, true), (34, false), (34, true), (35, false), (35, true), (36, false), (36, true), (37, false), (38, false), (39, false), (40, false), (41, false), (42, false), (43, false), (44, false), (45, false), (46, false), (47, false), (48, false), (49, false), (50, false), (51, false), (52, false), (53, false), (54, false), (55, false), (56, false), (57, false), (58, false), (59, false), (60, false), (61, false), (62, false), (63, false), (64, false), (65, false), (66, false), (67, false), (68, false), (69, false), (70, false), (71, false), (72, false), (73, false), (74, false)]
theorem cls0_all : ∀ r, r < NR → ∀ i : Bool, okC r i = true → (r, i) ∈ cls0 := by decide +kernel
theorem cls0_ok : ∀ q ∈ cls0, okC q.1 q.2 = true := by decide +kernel
theorem cls0_nd : cls0.Nodup := by decide +kernel
theorem okC_at {r : Nat} {i : Bool} (h : okC r i = true) : ∃ k : Nat, cls0[k]? = some (r, i) := by
  have h1 : r < NR := by
    simp only [okC, Bool.and_eq_true, decide_eq_true_eq] at h
    exact h.1.1
  exact List.getElem?_of_mem (cls0_all r h1 i h)
theorem cls0_inj {j k : Nat} {q : Nat × Bool} (h1 : cls0[j]? = some q) (h2 : cls0[k]? = some q) : j = k := by
  obtain ⟨a1, e1⟩ := List.getElem?_eq_some_iff.mp h1
  obtain ⟨a2, e2⟩ := List.getElem?_eq_some_iff.mp h2
  have hp := List.pairwise_iff_getElem.mp cls0_nd
  rcases Nat.lt_trichotomy j k with h | h | h
  · exact absurd (e1.trans e2.symm) (hp j k a1 a2 h)
  · exact h
  · exact absurd (e2.trans e1.symm) (hp k j a2 a1 h)
def enO (G : Cx) (f : Nat → Int32) (g : Nat → Int64) (r : Nat) (i : Bool) : Nat × List Value := match r with
  | 0 => (0, [.int (f 0), .int (f 1), .int (f 2), rf G 10 i, rf G 11 i, rf G 12 i, rf G 13 i, rf G 14 i, rf G 15 i, rf G 16 i, rf G 17 i, rf G 18 i, rf G 19 i, rf G 20 i])
  | 1 => (1, [.int (f 0), .int (f 1), .int (f 2), .int (f 3), .int (f 4), rf G 21 i, rf G 22 i, rf G 23 i])
  | 2 => (2, [.int (f 0), .int (f 1), .int (f 2), .int (f 3), .int (f 4), rf G 24 i, rf G 25 i, rf G 26 i, rf G 27 i, rf G 28 i, rf G 29 i])
  | 3 => (3, [rf G 41 false, rf G 0 true, rf G 30 false, rf G 31 false, .int (f 4), .int (f 5), .int (f 6), .int (f 7), .int (f 8), .long (g 9)])
  | 4 => (4, [rf G 2 i, rf G 0 false, rf G 32 false, rf G 1 i, rf G 33 i, rf G 34 i, rf G 35 i, rf G 36 i, .int (f 8), .int (f 9), .int (f 10), .int (f 11), .int (f 12)])
  | 5 => (5, [.int (f 0), rf G 0 false, rf G 37 false, rf G 38 false, rf G 39 false, rf G 40 false])
  | 6 => (6, [rf G 41 false, .int (f 1), rf G 0 false, rf G 0 true, rf G 3 false, rf G 4 false, rf G 4 true, rf G 5 false])
  | _ => (7, [rf G 42 false, .int (f 1), .int (f 2), .int (f 3), .int (f 4), .long (g 5), .int (f 6), rf G 43 false, rf G 44 false, .int (f 9), rf G 45 false, rf G 46 false, rf G 47 false, .int (f 13), rf G 48 false, .int (f 15), rf G 49 false, .int (f 17), rf G 50 false, rf G 51 false, .int (f 20), rf G 52 false, rf G 53 false, rf G 54 false, rf G 55 false, rf G 56 false, rf G 57 false, rf G 58 false, rf G 59 false, rf G 60 false, rf G 61 false, rf G 62 false, .int (f 32), rf G 63 false, rf G 64 false, .int (f 35), .int (f 36), .int (f 37), rf G 65 false, rf G 66 false, .int (f 40), rf G 67 false, rf G 68 false, rf G 69 false, .int (f 44), rf G 70 false, rf G 71 false, rf G 72 false, rf G 73 false, rf G 74 false])
def en (G : Cx) (f : Nat → Int32) (g : Nat → Int64) (r : Nat) (i : Bool) : va_E := if arK r = 0 then .inr (enO G f g r i) else if arK r = 4 then .inl (G.2.2.1 4, (arN r, .inr (.inl g))) else .inl (G.2.2.1 (arK r), (arN r, .inl f))
def wW (G : Cx) (σ : Mm) : va_W := cls0.map fun q => (G.1 q.1 q.2, en G (gI σ q.1 q.2) (gL σ q.1 q.2) q.1 q.2)
theorem wW_at {G : Cx} {σ : Mm} {k r : Nat} {i : Bool} (h : cls0[k]? = some (r, i)) : (wW G σ)[k]? = some (G.1 r i, en G (gI σ r i) (gL σ r i) r i) := by
  rw [wW, List.getElem?_map, h]
  rfl
theorem wW_of {G : Cx} {σ : Mm} {k : Nat} {q : Nat × va_E} (h : (wW G σ)[k]? = some q) : ∃ r i, cls0[k]? = some (r, i) ∧ q = (G.1 r i, en G (gI σ r i) (gL σ r i) r i) := by
  rw [wW, List.getElem?_map] at h
  cases hk : cls0[k]? with
  | none => rw [hk] at h; cases h
  | some z =>
    obtain ⟨r, i⟩ := z
    rw [hk] at h
    cases h
    exact ⟨r, i, rfl, rfl⟩
theorem wW_set {G : Cx} {σ τ : Mm} {k r : Nat} {i : Bool} (h : cls0[k]? = some (r, i)) (hI : ∀ r' i', ¬ (r' = r ∧ i' = i) → gI τ r' i' = gI σ r' i') (hL : ∀ r' i', ¬ (r' = r ∧ i' = i) → gL τ r' i' = gL σ r' i') : (wW G σ).set k (G.1 r i, en G (gI τ r i) (gL τ r i) r i) = wW G τ := by
  refine List.ext_getElem? fun j => ?_
  have hlen : k < (wW G σ).length := (List.getElem?_eq_some_iff.mp (wW_at (G := G) (σ := σ) h)).1
  by_cases hj : j = k
  · subst hj
    rw [List.getElem?_set_self hlen, wW_at h]
  · rw [List.getElem?_set_ne (Ne.symm hj)]
    cases hc : cls0[j]? with
    | none => rw [wW, wW, List.getElem?_map, List.getElem?_map, hc]; rfl
    | some z =>
      obtain ⟨r', i'⟩ := z
      have hne : ¬ (r' = r ∧ i' = i) := by
        rintro ⟨rfl, rfl⟩
        exact hj (cls0_inj hc h)
      rw [wW_at hc, wW_at hc, hI r' i' hne, hL r' i' hne]
def wA (G : Cx) : Nat → Prop := fun q => ∃ r i, okC r i = true ∧ G.1 r i = q
def inj (G : Cx) : Prop := ∀ r i r' i', okC r i = true → okC r' i' = true → G.1 r i = G.1 r' i' → r = r' ∧ i = i'
def tyG (G : Cx) : List (ClassId × FieldType) := [(G.2.2.1 0, .int), (G.2.2.1 1, .int), (G.2.2.1 2, .boolean), (G.2.2.1 3, .byte), (G.2.2.1 4, .long)]
theorem wW_D {G : Cx} {σ : Mm} {A : Nat → Prop} (h : inj G) (hA : ∀ q, wA G q → A q) : va_D A (wW G σ) := by
  refine ⟨fun a b x y hx hy e => ?_, fun k q hk => ?_⟩
  · obtain ⟨r, i, h1, rfl⟩ := wW_of hx
    obtain ⟨r', i', h2, rfl⟩ := wW_of hy
    obtain ⟨rfl, rfl⟩ := h r i r' i' (cls0_ok _ (List.mem_of_getElem? h1)) (cls0_ok _ (List.mem_of_getElem? h2)) e
    exact cls0_inj h1 h2
  · obtain ⟨r, i, h1, rfl⟩ := wW_of hk
    exact hA _ ⟨r, i, cls0_ok _ (List.mem_of_getElem? h1), rfl⟩
def stL : List (List Int32) := [[108, 97, 110, 100], [116, 111, 119, 110], [105, 110], [111, 117, 116], [98, 111, 116, 104], [110, 111, 110, 101], [111, 102], [112, 108, 117, 115], [109, 105, 110, 117, 115], [114, 117, 110], [115, 97, 105, 108], [97, 116], [102, 111, 114], [99, 111, 115, 116]]
def stB (k : Nat) : List Int32 := stL.getD k []
def stN (k : Nat) : Nat := (stB k).length
def stW : List (String × Nat × String × Nat) := [(RX3, 60, "land", 0), (RX3, 139, "in", 2), (RX3, 141, "out", 3), (RX3, 143, "both", 4), (RX3, 145, "none", 5), (RX3, 69, "town", 1), (RX3, 100, "of", 6), (RX3, 108, "plus", 7), (RX3, 110, "minus", 8), (RX3, 74, "run", 9), (RX3, 80, "sail", 10), (RX3, 129, "at", 11), (RX3, 131, "for", 12), (RX3, 133, "cost", 13), (RX7, 161, "land", 0), (RX7, 167, "town", 1), (RX7, 169, "in", 2), (RX7, 170, "out", 3), (RX7, 172, "both", 4), (RX7, 174, "none", 5), (RX7, 176, "of", 6), (RX7, 178, "plus", 7), (RX7, 180, "minus", 8), (RX7, 182, "run", 9), (RX7, 184, "sail", 10), (RX7, 186, "at", 11), (RX7, 187, "for", 12), (RX7, 189, "cost", 13)]
def Sg (G : Cx) (A : Nat → Prop) (U : State) (H : Heap) : Prop :=
  (∀ k : Nat, k < 14 → va_O "java/lang/String" (G.2.2.2.1 k) A U H ∧ va_OF "java/lang/String" "coder" "B" (.int 0) (G.2.2.2.1 k) A U H ∧ va_OF "java/lang/String" "value" "[B" (.ref (G.2.2.2.2 k)) (G.2.2.2.1 k) A U H ∧ va_T .byte (G.2.2.2.2 k) (stN k) (fun j => .int ((stB k).getD j 0)) A U H) ∧
  va_Z "java/lang/String" "COMPACT_STRINGS" "Z" (.int 1) A U H ∧ ∀ q ∈ stW, vk_R q.1 q.2.1 q.2.2.1 (G.2.2.2.1 q.2.2.2) U
theorem Sg.warm {G : Cx} {A B : Nat → Prop} {s U : State} {H H1 : Heap} (hW : s.WarmedH U.vm) (hq : ∀ a : Nat, a < H.size → ¬ A a → H1[a]? = H[a]?) (hAB : ∀ q, B q → A q) (h : Sg G A s H) : Sg G B U H1 := by
  have hv : s.vm.Alike U.vm := hW.alike
  refine ⟨fun k hk => ?_, ?_, fun q hm => (h.2.2 q hm).warm hW⟩
  · obtain ⟨h1, h2, h3, h4⟩ := h.1 k hk
    exact ⟨((va_O.moved hv h1).kept hq).narrow hAB, ((va_OF.moved hv h2).kept hq).narrow hAB, ((va_OF.moved hv h3).kept hq).narrow hAB, ((va_T.moved hv h4).kept hq).narrow hAB⟩
  · exact ((va_Z.moved hv h.2.1).kept hq).narrow hAB
theorem Sg.same {G : Cx} {A : Nat → Prop} {s U : State} {H : Heap} (hv : U.vm = s.vm) (h : Sg G A s H) : Sg G A U H := by
  have hw : s.vm.Alike U.vm := by rw [hv]; exact Vm.Alike.refl _
  refine ⟨fun k hk => ?_, va_Z.moved hw h.2.1, fun q hm => (h.2.2 q hm).same hv⟩
  obtain ⟨h1, h2, h3, h4⟩ := h.1 k hk
  exact ⟨va_O.moved hw h1, va_OF.moved hw h2, va_OF.moved hw h3, va_T.moved hw h4⟩
def Wd (G : Cx) (σ : Mm) (U : State) : Prop := va_P G.2.1 vwCl (wW G σ) U.heap ∧ va_K G.2.1 vwCl (tyG G) U ∧ inj G ∧ Sg G (wA G) U U.heap
/-! a method, an activation -/
abbrev Yd : Type := String × MethodName × ByteArray × Nat × Option FieldType × Nat × Nat
abbrev Ab : Type := Program × Launch × Env × Room × State × MethodId × Array Value × List Frame × Method × Code × (Nat × Nat) × (State → Prop) × (Nat → Prop)
abbrev yO (y : Yd) : String := y.1
abbrev yN (y : Yd) : MethodName := y.2.1
abbrev yC (y : Yd) : ByteArray := y.2.2.1
abbrev yL (y : Yd) : Nat := y.2.2.2.1
abbrev yT (y : Yd) : Option FieldType := y.2.2.2.2.1
abbrev yF (y : Yd) : Nat := y.2.2.2.2.2.1
abbrev yW (y : Yd) : Nat := y.2.2.2.2.2.2
abbrev yR (y : Yd) : Room := { frames := yF y, cells := 0, slots := 0, locals := yW y }
abbrev yWs (y : Yd) : List Cond := Cond.code (yN y) (yC y) (yL y) (yT y) :: WT
abbrev bR (b : Ab) : Room := b.2.2.2.1
abbrev bS (b : Ab) : State := b.2.2.2.2.1
abbrev bM (b : Ab) : MethodId := b.2.2.2.2.2.1
abbrev bX (b : Ab) : Array Value := b.2.2.2.2.2.2.1
abbrev bW (b : Ab) : List Frame := b.2.2.2.2.2.2.2.1
abbrev bT (b : Ab) : Method := b.2.2.2.2.2.2.2.2.1
abbrev bC (b : Ab) : Code := b.2.2.2.2.2.2.2.2.2.1
abbrev bN (b : Ab) : Nat × Nat := b.2.2.2.2.2.2.2.2.2.2.1
abbrev bQ (b : Ab) : State → Prop := b.2.2.2.2.2.2.2.2.2.2.2.1
abbrev bA (b : Ab) : Nat → Prop := b.2.2.2.2.2.2.2.2.2.2.2.2
abbrev Wb (b : Ab) (H : Heap) (locs : List Loc) (g : JFrame) : Prop := W b.1 b.2.1 b.2.2.1 (bR b) (bS b) (bM b) (bX b) (bW b) (bT b) (bC b) H locs (bN b).1 (bN b).2 (bQ b) g
def Gd (y : Yd) (G : Cx) (b : Ab) : Prop :=
  b.1.tables.exec = Jvm.exec ∧ (bC b).code = yC y ∧ (bC b).maxLocals = yL y ∧ (bS b).vm.findClass (yO y) = some (bM b).cls ∧ (∀ w ∈ WT, w.before (bX b) (bS b) = true) ∧ va_K G.2.1 vwCl (tyG G) (bS b) ∧ inj G ∧ (∀ q, wA G q → bA b q) ∧ Sg G (bA b) (bS b) (bS b).heap ∧ (bT b).locks = false ∧ yF y ≤ (bR b).frames ∧ yW y ≤ (bR b).locals
def Lc (la : Array Slot) (n : Nat) (ls : List (Option Value)) : Prop := la.size = n ∧ lv_wf la ∧ ∀ (k : Nat) (v : Value), ls[k]? = some (some v) → la[k]? = some (.val v)
def At (y : Yd) (G : Cx) (b : Ab) (pc : Nat) (ls : List (Option Value)) (st : List Value) (σ : Mm) : Prop :=
  Gd y G b → ∀ (H : Heap) (locs : List Loc) (la : Array Slot), va_P G.2.1 vwCl (wW G σ) H → va_S (bA b) (bS b).heap H locs → Lc la (yL y) ls → Wb b H locs (F0 (bM b) pc la st)
def Qc (G : Cx) (r : Option Value) (σ : Mm) : Array Value → State → Outcome → State → Prop := fun _ st oc t => oc = .returned r ∧ va_P G.2.1 vwCl (wW G σ) t.heap ∧ va_F (wA G) st t
def Spec (y : Yd) (G : Cx) (av : List Value) (σ : Mm) (r : Option Value) (τ : Mm) : Prop := ∀ l : Launch, Met l (yN y) (yWs y) (yR y) (va_Pc av (Wd G σ)) (Qc G r τ) 0 0 (wA G)
/-- the end that is wanted of an activation -/
def Fi (y : Yd) (G : Cx) (b : Ab) (r : Option Value) (τ : Mm) : Prop := bQ b = MQ (bW b) (Qc G r τ) (bX b) (bS b) 0 0 (wA G) ∧ bA b = wA G ∧ bN b = (0, 0) ∧ (bT b).sig.returnType = yT y
end
section
section Rules
variable {y : Yd} {G : Cx} {b : Ab} {pc : Nat} {ls : List (Option Value)} {st : List Value} {σ : Mm}
theorem At.eq {σ' : Mm} {st' : List Value} {ls' : List (Option Value)} (k : At y G b pc ls' st' σ') (h1 : ls = ls') (h2 : st = st') (h3 : σ = σ') : At y G b pc ls st σ := by
  subst h1; subst h2; subst h3; exact k
def al : Nat → List (Option Value) → List (Nat × Value)
  | _, [] => []
  | k, none :: t => al (k + 1) t
  | k, some v :: t => (k, v) :: al (k + 1) t
theorem al_mem : ∀ (l : List (Option Value)) (k j : Nat) (v : Value), (j, v) ∈ al k l ↔ ∃ q, j = k + q ∧ l[q]? = some (some v)
  | [], k, j, v => by simp [al]
  | none :: t, k, j, v => by
    rw [al, al_mem t (k + 1) j v]
    constructor
    · rintro ⟨q, rfl, h⟩
      exact ⟨q + 1, by omega, by simpa using h⟩
    · rintro ⟨q, rfl, h⟩
      cases q with
      | zero => simp at h
      | succ q => exact ⟨q, by omega, by simpa using h⟩
  | some w :: t, k, j, v => by
    rw [al, List.mem_cons, al_mem t (k + 1) j v]
    constructor
    · rintro (h | ⟨q, rfl, h⟩)
      · cases h
        exact ⟨0, by omega, by simp⟩
      · exact ⟨q + 1, by omega, by simpa using h⟩
    · rintro ⟨q, rfl, h⟩
      cases q with
      | zero =>
        simp at h
        exact Or.inl (by rw [h]; simp)
      | succ q => exact Or.inr ⟨q, by omega, by simpa using h⟩
theorem Lc.has {la : Array Slot} {n : Nat} (h : Lc la n ls) : lv_has la n (al 0 ls) := ⟨h.1, h.2.1, fun q hq => by
  obtain ⟨k, e, hk⟩ := (al_mem ls 0 q.1 q.2).mp hq
  have e2 : q.1 = k := by omega
  rw [e2]
  exact h.2.2 k q.2 hk⟩
def okp (ls : List (Option Value)) (k : Nat) : Bool := match k with
  | 0 => true
  | q + 1 => match ls[q]? with
    | some (some v) => v.category == 1
    | _ => true
theorem Lc.store1 {la' : Array Slot} {n k : Nat} {v : Value} (hk : okp ls k = true) (h' : lv_has la' n ((k, v) :: (al 0 ls).filter (fun q => !(q.1 == k) && !(q.1 + 1 == k && q.2.category == 2)))) : Lc la' n (ls.set k (some v)) := by
  refine ⟨h'.1, h'.2.1, fun j w hj => h'.2.2 (j, w) ?_⟩
  by_cases e : j = k
  · subst e
    rw [List.getElem?_set] at hj
    split at hj
    · split at hj
      · cases hj
        exact List.mem_cons_self
      · cases hj
    · contradiction
  · rw [List.getElem?_set_ne (Ne.symm e)] at hj
    refine List.mem_cons_of_mem _ (List.mem_filter.mpr ⟨(al_mem ls 0 j w).mpr ⟨j, by omega, hj⟩, ?_⟩)
    by_cases e2 : j + 1 = k
    · subst e2
      simp only [okp, hj] at hk
      have : w.category = 1 := by simpa using hk
      simp [this]
    · simp [e, e2]
theorem Lc.store2 {la' : Array Slot} {n k : Nat} {v : Value} (hk : okp ls k = true) (h' : lv_has la' n ((k, v) :: (al 0 ls).filter (fun q => !(q.1 == k) && (!(q.1 == k + 1) && !(q.1 + 1 == k && q.2.category == 2))))) : Lc la' n ((ls.set k (some v)).set (k + 1) none) := by
  refine ⟨h'.1, h'.2.1, fun j w hj => h'.2.2 (j, w) ?_⟩
  by_cases e1 : j = k + 1
  · subst e1
    rw [List.getElem?_set] at hj
    split at hj
    · split at hj
      · cases hj
      · cases hj
    · contradiction
  · rw [List.getElem?_set_ne (Ne.symm e1)] at hj
    by_cases e : j = k
    · subst e
      rw [List.getElem?_set] at hj
      split at hj
      · split at hj
        · cases hj
          exact List.mem_cons_self
        · cases hj
      · contradiction
    · rw [List.getElem?_set_ne (Ne.symm e)] at hj
      refine List.mem_cons_of_mem _ (List.mem_filter.mpr ⟨(al_mem ls 0 j w).mpr ⟨j, by omega, hj⟩, ?_⟩)
      by_cases e2 : j + 1 = k
      · subst e2
        simp only [okp, hj] at hk
        have : w.category = 1 := by simpa using hk
        simp [this, e1]
      · simp [e, e1, e2]
def isR : Value → Bool
  | .ref _ => true
  | _ => false
theorem isR_of {v : Value} (h : isR v = true) : ∃ q, v = .ref q := by
  cases v <;> simp [isR] at h ⊢
theorem st_iconst (n : Nat) {z : Int} {v : Int32} (hd : decode (yC y) pc = .ok (.iconst z, 1)) (hv : Int32.ofInt z = v) (hp : pc + 1 = n) (k : At y G b n ls (.int v :: st) σ) : At y G b pc ls (st) σ := by
  subst hp
  exact fun g H locs la hP hS hL => lv_iconst g.1 g.2.1 hd hv (k g H locs la hP hS hL)
theorem st_bipush (n : Nat) {z : Int} {v : Int32} (hd : decode (yC y) pc = .ok (.bipush z, 2)) (hv : (Int8.ofInt z).toInt32 = v) (hp : pc + 2 = n) (k : At y G b n ls (.int v :: st) σ) : At y G b pc ls (st) σ := by
  subst hp
  exact fun g H locs la hP hS hL => lv_bipush g.1 g.2.1 hd hv (k g H locs la hP hS hL)
theorem st_sipush (n : Nat) {z : Int} {v : Int32} (hd : decode (yC y) pc = .ok (.sipush z, 3)) (hv : (Int16.ofInt z).toInt32 = v) (hp : pc + 3 = n) (k : At y G b n ls (.int v :: st) σ) : At y G b pc ls (st) σ := by
  subst hp
  exact fun g H locs la hP hS hL => lv_sipush g.1 g.2.1 hd hv (k g H locs la hP hS hL)
theorem st_iadd (n : Nat) {x x2 : Int32} (hd : decode (yC y) pc = .ok (.iadd, 1))  (hp : pc + 1 = n) (k : At y G b n ls (.int (x + x2) :: st) σ) : At y G b pc ls (.int x2 :: .int x :: st) σ := by
  subst hp
  exact fun g H locs la hP hS hL => lv_iadd g.1 g.2.1 hd  (k g H locs la hP hS hL)
theorem st_isub (n : Nat) {x x2 : Int32} (hd : decode (yC y) pc = .ok (.isub, 1))  (hp : pc + 1 = n) (k : At y G b n ls (.int (x - x2) :: st) σ) : At y G b pc ls (.int x2 :: .int x :: st) σ := by
  subst hp
  exact fun g H locs la hP hS hL => lv_isub g.1 g.2.1 hd  (k g H locs la hP hS hL)
theorem st_imul (n : Nat) {x x2 : Int32} (hd : decode (yC y) pc = .ok (.imul, 1))  (hp : pc + 1 = n) (k : At y G b n ls (.int (x * x2) :: st) σ) : At y G b pc ls (.int x2 :: .int x :: st) σ := by
  subst hp
  exact fun g H locs la hP hS hL => lv_imul g.1 g.2.1 hd  (k g H locs la hP hS hL)
theorem st_iand (n : Nat) {x x2 : Int32} (hd : decode (yC y) pc = .ok (.iand, 1))  (hp : pc + 1 = n) (k : At y G b n ls (.int (x &&& x2) :: st) σ) : At y G b pc ls (.int x2 :: .int x :: st) σ := by
  subst hp
  exact fun g H locs la hP hS hL => lv_iand g.1 g.2.1 hd  (k g H locs la hP hS hL)
theorem st_ior (n : Nat) {x x2 : Int32} (hd : decode (yC y) pc = .ok (.ior, 1))  (hp : pc + 1 = n) (k : At y G b n ls (.int (x ||| x2) :: st) σ) : At y G b pc ls (.int x2 :: .int x :: st) σ := by
  subst hp
  exact fun g H locs la hP hS hL => lv_ior g.1 g.2.1 hd  (k g H locs la hP hS hL)
theorem st_ixor (n : Nat) {x x2 : Int32} (hd : decode (yC y) pc = .ok (.ixor, 1))  (hp : pc + 1 = n) (k : At y G b n ls (.int (x ^^^ x2) :: st) σ) : At y G b pc ls (.int x2 :: .int x :: st) σ := by
  subst hp
  exact fun g H locs la hP hS hL => lv_ixor g.1 g.2.1 hd  (k g H locs la hP hS hL)
theorem st_ishl (n : Nat) {x x2 : Int32} (hd : decode (yC y) pc = .ok (.ishl, 1))  (hp : pc + 1 = n) (k : At y G b n ls (.int (x <<< (x2 &&& 31)) :: st) σ) : At y G b pc ls (.int x2 :: .int x :: st) σ := by
  subst hp
  exact fun g H locs la hP hS hL => lv_ishl g.1 g.2.1 hd  (k g H locs la hP hS hL)
theorem st_ishr (n : Nat) {x x2 : Int32} (hd : decode (yC y) pc = .ok (.ishr, 1))  (hp : pc + 1 = n) (k : At y G b n ls (.int (x >>> (x2 &&& 31)) :: st) σ) : At y G b pc ls (.int x2 :: .int x :: st) σ := by
  subst hp
  exact fun g H locs la hP hS hL => lv_ishr g.1 g.2.1 hd  (k g H locs la hP hS hL)
theorem st_idiv (n : Nat) {x x2 : Int32} (hd : decode (yC y) pc = .ok (.idiv, 1)) (hne : ¬ x2 = 0) (hp : pc + 1 = n) (k : At y G b n ls (.int (x / x2) :: st) σ) : At y G b pc ls (.int x2 :: .int x :: st) σ := by
  subst hp
  exact fun g H locs la hP hS hL => lv_idiv g.1 g.2.1 hd hne (k g H locs la hP hS hL)
theorem st_irem (n : Nat) {x x2 : Int32} (hd : decode (yC y) pc = .ok (.irem, 1)) (hne : ¬ x2 = 0) (hp : pc + 1 = n) (k : At y G b n ls (.int (x - x / x2 * x2) :: st) σ) : At y G b pc ls (.int x2 :: .int x :: st) σ := by
  subst hp
  exact fun g H locs la hP hS hL => lv_irem g.1 g.2.1 hd hne (k g H locs la hP hS hL)
theorem st_ineg (n : Nat) {x : Int32} (hd : decode (yC y) pc = .ok (.ineg, 1))  (hp : pc + 1 = n) (k : At y G b n ls (.int (-x) :: st) σ) : At y G b pc ls (.int x :: st) σ := by
  subst hp
  exact fun g H locs la hP hS hL => lv_ineg g.1 g.2.1 hd  (k g H locs la hP hS hL)
theorem st_iushr (n : Nat) {x x2 : Int32} (hd : decode (yC y) pc = .ok (.iushr, 1))  (hp : pc + 1 = n) (k : At y G b n ls (.int (x.toUInt32 >>> (x2.toUInt32 &&& Int32.toUInt32 31)).toInt32 :: st) σ) : At y G b pc ls (.int x2 :: .int x :: st) σ := by
  subst hp
  exact fun g H locs la hP hS hL => lv_iushr g.1 g.2.1 hd rfl (k g H locs la hP hS hL)
theorem st_ladd (n : Nat) {x x2 : Int64} (hd : decode (yC y) pc = .ok (.ladd, 1))  (hp : pc + 1 = n) (k : At y G b n ls (.long (x + x2) :: st) σ) : At y G b pc ls (.long x2 :: .long x :: st) σ := by
  subst hp
  exact fun g H locs la hP hS hL => lv_ladd g.1 g.2.1 hd  (k g H locs la hP hS hL)
theorem st_lsub (n : Nat) {x x2 : Int64} (hd : decode (yC y) pc = .ok (.lsub, 1))  (hp : pc + 1 = n) (k : At y G b n ls (.long (x - x2) :: st) σ) : At y G b pc ls (.long x2 :: .long x :: st) σ := by
  subst hp
  exact fun g H locs la hP hS hL => lv_lsub g.1 g.2.1 hd  (k g H locs la hP hS hL)
theorem st_lmul (n : Nat) {x x2 : Int64} (hd : decode (yC y) pc = .ok (.lmul, 1))  (hp : pc + 1 = n) (k : At y G b n ls (.long (x * x2) :: st) σ) : At y G b pc ls (.long x2 :: .long x :: st) σ := by
  subst hp
  exact fun g H locs la hP hS hL => lv_lmul g.1 g.2.1 hd  (k g H locs la hP hS hL)
theorem st_land (n : Nat) {x x2 : Int64} (hd : decode (yC y) pc = .ok (.land, 1))  (hp : pc + 1 = n) (k : At y G b n ls (.long (x &&& x2) :: st) σ) : At y G b pc ls (.long x2 :: .long x :: st) σ := by
  subst hp
  exact fun g H locs la hP hS hL => lv_land g.1 g.2.1 hd  (k g H locs la hP hS hL)
theorem st_lor (n : Nat) {x x2 : Int64} (hd : decode (yC y) pc = .ok (.lor, 1))  (hp : pc + 1 = n) (k : At y G b n ls (.long (x ||| x2) :: st) σ) : At y G b pc ls (.long x2 :: .long x :: st) σ := by
  subst hp
  exact fun g H locs la hP hS hL => lv_lor g.1 g.2.1 hd  (k g H locs la hP hS hL)
theorem st_i2l (n : Nat) {x : Int32} (hd : decode (yC y) pc = .ok (.i2l, 1))  (hp : pc + 1 = n) (k : At y G b n ls (.long x.toInt64 :: st) σ) : At y G b pc ls (.int x :: st) σ := by
  subst hp
  exact fun g H locs la hP hS hL => lv_i2l g.1 g.2.1 hd rfl (k g H locs la hP hS hL)
theorem st_l2i (n : Nat) {x : Int64} (hd : decode (yC y) pc = .ok (.l2i, 1))  (hp : pc + 1 = n) (k : At y G b n ls (.int x.toInt32 :: st) σ) : At y G b pc ls (.long x :: st) σ := by
  subst hp
  exact fun g H locs la hP hS hL => lv_l2i g.1 g.2.1 hd rfl (k g H locs la hP hS hL)
theorem st_i2b (n : Nat) {x : Int32} (hd : decode (yC y) pc = .ok (.i2b, 1))  (hp : pc + 1 = n) (k : At y G b n ls (.int x.toInt8.toInt32 :: st) σ) : At y G b pc ls (.int x :: st) σ := by
  subst hp
  exact fun g H locs la hP hS hL => lv_i2b g.1 g.2.1 hd rfl (k g H locs la hP hS hL)
theorem st_dup (n : Nat) {v : Value} (hd : decode (yC y) pc = .ok (.dup, 1)) (hc : v.category = 1) (hp : pc + 1 = n) (k : At y G b n ls (v :: v :: st) σ) : At y G b pc ls (v :: st) σ := by
  subst hp
  exact fun g H locs la hP hS hL => lv_dup g.1 g.2.1 hd hc (k g H locs la hP hS hL)
theorem st_pop (n : Nat) {v : Value} (hd : decode (yC y) pc = .ok (.pop, 1)) (hc : v.category = 1) (hp : pc + 1 = n) (k : At y G b n ls (st) σ) : At y G b pc ls (v :: st) σ := by
  subst hp
  exact fun g H locs la hP hS hL => lv_pop g.1 g.2.1 hd hc (k g H locs la hP hS hL)
theorem st_dup2 (n : Nat) {v u : Value} (hd : decode (yC y) pc = .ok (.dup2, 1)) (hc : v.category = 1) (hc2 : u.category = 1) (hp : pc + 1 = n) (k : At y G b n ls (v :: u :: v :: u :: st) σ) : At y G b pc ls (v :: u :: st) σ := by
  subst hp
  exact fun g H locs la hP hS hL => lv_dup2_11 g.1 g.2.1 hd hc hc2 (k g H locs la hP hS hL)
theorem st_if_eq (n tgt : Nat) {x : Int32} {off : Int} (hd : decode (yC y) pc = .ok (.ifCond .eq off, 3)) (hp : pc + 3 = n) (ht : (pc : Int) + off = (tgt : Int)) (kt : x = 0 → At y G b tgt ls st σ) (kf : ¬ x = 0 → At y G b n ls st σ) : At y G b pc ls (.int x :: st) σ := by
  subst hp
  exact fun g H locs la hP hS hL => lv_if_eq g.1 g.2.1 hd ht (fun c => kt c g H locs la hP hS hL) (fun c => kf c g H locs la hP hS hL)
theorem st_if_ne (n tgt : Nat) {x : Int32} {off : Int} (hd : decode (yC y) pc = .ok (.ifCond .ne off, 3)) (hp : pc + 3 = n) (ht : (pc : Int) + off = (tgt : Int)) (kt : ¬ x = 0 → At y G b tgt ls st σ) (kf : x = 0 → At y G b n ls st σ) : At y G b pc ls (.int x :: st) σ := by
  subst hp
  exact fun g H locs la hP hS hL => lv_if_ne g.1 g.2.1 hd ht (fun c => kt c g H locs la hP hS hL) (fun c => kf c g H locs la hP hS hL)
theorem st_if_lt (n tgt : Nat) {x : Int32} {off : Int} (hd : decode (yC y) pc = .ok (.ifCond .lt off, 3)) (hp : pc + 3 = n) (ht : (pc : Int) + off = (tgt : Int)) (kt : x < 0 → At y G b tgt ls st σ) (kf : ¬ x < 0 → At y G b n ls st σ) : At y G b pc ls (.int x :: st) σ := by
  subst hp
  exact fun g H locs la hP hS hL => lv_if_lt g.1 g.2.1 hd ht (fun c => kt c g H locs la hP hS hL) (fun c => kf c g H locs la hP hS hL)
theorem st_if_ge (n tgt : Nat) {x : Int32} {off : Int} (hd : decode (yC y) pc = .ok (.ifCond .ge off, 3)) (hp : pc + 3 = n) (ht : (pc : Int) + off = (tgt : Int)) (kt : 0 ≤ x → At y G b tgt ls st σ) (kf : ¬ 0 ≤ x → At y G b n ls st σ) : At y G b pc ls (.int x :: st) σ := by
  subst hp
  exact fun g H locs la hP hS hL => lv_if_ge g.1 g.2.1 hd ht (fun c => kt c g H locs la hP hS hL) (fun c => kf c g H locs la hP hS hL)
theorem st_if_gt (n tgt : Nat) {x : Int32} {off : Int} (hd : decode (yC y) pc = .ok (.ifCond .gt off, 3)) (hp : pc + 3 = n) (ht : (pc : Int) + off = (tgt : Int)) (kt : 0 < x → At y G b tgt ls st σ) (kf : ¬ 0 < x → At y G b n ls st σ) : At y G b pc ls (.int x :: st) σ := by
  subst hp
  exact fun g H locs la hP hS hL => lv_if_gt g.1 g.2.1 hd ht (fun c => kt c g H locs la hP hS hL) (fun c => kf c g H locs la hP hS hL)
theorem st_if_le (n tgt : Nat) {x : Int32} {off : Int} (hd : decode (yC y) pc = .ok (.ifCond .le off, 3)) (hp : pc + 3 = n) (ht : (pc : Int) + off = (tgt : Int)) (kt : x ≤ 0 → At y G b tgt ls st σ) (kf : ¬ x ≤ 0 → At y G b n ls st σ) : At y G b pc ls (.int x :: st) σ := by
  subst hp
  exact fun g H locs la hP hS hL => lv_if_le g.1 g.2.1 hd ht (fun c => kt c g H locs la hP hS hL) (fun c => kf c g H locs la hP hS hL)
theorem st_icmp_eq (n tgt : Nat) {x x2 : Int32} {off : Int} (hd : decode (yC y) pc = .ok (.if_icmp .eq off, 3)) (hp : pc + 3 = n) (ht : (pc : Int) + off = (tgt : Int)) (kt : x = x2 → At y G b tgt ls st σ) (kf : ¬ x = x2 → At y G b n ls st σ) : At y G b pc ls (.int x2 :: .int x :: st) σ := by
  subst hp
  exact fun g H locs la hP hS hL => lv_icmp_eq g.1 g.2.1 hd ht (fun c => kt c g H locs la hP hS hL) (fun c => kf c g H locs la hP hS hL)
theorem st_icmp_ne (n tgt : Nat) {x x2 : Int32} {off : Int} (hd : decode (yC y) pc = .ok (.if_icmp .ne off, 3)) (hp : pc + 3 = n) (ht : (pc : Int) + off = (tgt : Int)) (kt : ¬ x = x2 → At y G b tgt ls st σ) (kf : x = x2 → At y G b n ls st σ) : At y G b pc ls (.int x2 :: .int x :: st) σ := by
  subst hp
  exact fun g H locs la hP hS hL => lv_icmp_ne g.1 g.2.1 hd ht (fun c => kt c g H locs la hP hS hL) (fun c => kf c g H locs la hP hS hL)
theorem st_icmp_lt (n tgt : Nat) {x x2 : Int32} {off : Int} (hd : decode (yC y) pc = .ok (.if_icmp .lt off, 3)) (hp : pc + 3 = n) (ht : (pc : Int) + off = (tgt : Int)) (kt : x < x2 → At y G b tgt ls st σ) (kf : ¬ x < x2 → At y G b n ls st σ) : At y G b pc ls (.int x2 :: .int x :: st) σ := by
  subst hp
  exact fun g H locs la hP hS hL => lv_icmp_lt g.1 g.2.1 hd ht (fun c => kt c g H locs la hP hS hL) (fun c => kf c g H locs la hP hS hL)
theorem st_icmp_ge (n tgt : Nat) {x x2 : Int32} {off : Int} (hd : decode (yC y) pc = .ok (.if_icmp .ge off, 3)) (hp : pc + 3 = n) (ht : (pc : Int) + off = (tgt : Int)) (kt : x2 ≤ x → At y G b tgt ls st σ) (kf : ¬ x2 ≤ x → At y G b n ls st σ) : At y G b pc ls (.int x2 :: .int x :: st) σ := by
  subst hp
  exact fun g H locs la hP hS hL => lv_icmp_ge g.1 g.2.1 hd ht (fun c => kt c g H locs la hP hS hL) (fun c => kf c g H locs la hP hS hL)
theorem st_icmp_gt (n tgt : Nat) {x x2 : Int32} {off : Int} (hd : decode (yC y) pc = .ok (.if_icmp .gt off, 3)) (hp : pc + 3 = n) (ht : (pc : Int) + off = (tgt : Int)) (kt : x2 < x → At y G b tgt ls st σ) (kf : ¬ x2 < x → At y G b n ls st σ) : At y G b pc ls (.int x2 :: .int x :: st) σ := by
  subst hp
  exact fun g H locs la hP hS hL => lv_icmp_gt g.1 g.2.1 hd ht (fun c => kt c g H locs la hP hS hL) (fun c => kf c g H locs la hP hS hL)
theorem st_icmp_le (n tgt : Nat) {x x2 : Int32} {off : Int} (hd : decode (yC y) pc = .ok (.if_icmp .le off, 3)) (hp : pc + 3 = n) (ht : (pc : Int) + off = (tgt : Int)) (kt : x ≤ x2 → At y G b tgt ls st σ) (kf : ¬ x ≤ x2 → At y G b n ls st σ) : At y G b pc ls (.int x2 :: .int x :: st) σ := by
  subst hp
  exact fun g H locs la hP hS hL => lv_icmp_le g.1 g.2.1 hd ht (fun c => kt c g H locs la hP hS hL) (fun c => kf c g H locs la hP hS hL)
theorem st_goto (tgt : Nat) {off : Int} (hd : decode (yC y) pc = .ok (.goto off, 3)) (ht : (pc : Int) + off = (tgt : Int)) (k : At y G b tgt ls st σ) : At y G b pc ls st σ := fun g H locs la hP hS hL => lv_goto g.1 g.2.1 hd ht (k g H locs la hP hS hL)
theorem st_ldc (n : Nat) {own : String} {ix : Nat} {v : Int32} (ho : yO y = own) (hw : Cond.constant own ix v ∈ WT) (hd : decode (yC y) pc = .ok (.ldc ix, 2)) (hp : pc + 2 = n) (k : At y G b n ls (.int v :: st) σ) : At y G b pc ls st σ := by
  subst hp; subst ho
  exact fun g H locs la hP hS hL => lv_ldc g.1 g.2.1 g.2.2.2.1 (g.2.2.2.2.1 _ hw) hd (k g H locs la hP hS hL)
theorem st_ldc2 (n : Nat) {own : String} {ix : Nat} {v : Int64} (ho : yO y = own) (hw : Cond.constantLong own ix v ∈ WT) (hd : decode (yC y) pc = .ok (.ldc2_w ix, 3)) (hp : pc + 3 = n) (k : At y G b n ls (.long v :: st) σ) : At y G b pc ls st σ := by
  subst hp; subst ho
  exact fun g H locs la hP hS hL => lv_ldc2 g.1 g.2.1 g.2.2.2.1 (g.2.2.2.2.1 _ hw) hd (k g H locs la hP hS hL)
theorem st_ldcS (n : Nat) {own tx : String} {ix q : Nat} (ho : yO y = own) (hw : (own, ix, tx, q) ∈ stW) (hd : decode (yC y) pc = .ok (.ldc ix, 2)) (hp : pc + 2 = n) (k : At y G b n ls (sf G q :: st) σ) : At y G b pc ls st σ := by
  subst hp; subst ho
  intro g H locs la hP hS hL
  have hs := g.2.2.2.2.2.2.2.2.1
  exact va_ldcS g.1 g.2.1 g.2.2.2.1 (hs.2.2 _ hw) hd (k g H locs la hP hS hL)
theorem st_tableIn (tgt : Nat) {dflt lo hi : Int} {offs : Array Int} {len : Nat} {x : Int32} {off : Int} (hd : decode (yC y) pc = .ok (.tableswitch dflt lo hi offs, len)) (h1 : ¬ x.toInt < lo) (h2 : ¬ hi < x.toInt) (ho : offs[(x.toInt - lo).toNat]? = some off) (ht : (pc : Int) + off = (tgt : Int)) (k : At y G b tgt ls st σ) : At y G b pc ls (.int x :: st) σ := fun g H locs la hP hS hL => lv_tableIn g.1 g.2.1 hd h1 h2 ho ht (k g H locs la hP hS hL)
theorem st_tableOut (tgt : Nat) {dflt lo hi : Int} {offs : Array Int} {len : Nat} {x : Int32} (hd : decode (yC y) pc = .ok (.tableswitch dflt lo hi offs, len)) (h : x.toInt < lo ∨ hi < x.toInt) (ht : (pc : Int) + dflt = (tgt : Int)) (k : At y G b tgt ls st σ) : At y G b pc ls (.int x :: st) σ := fun g H locs la hP hS hL => lv_tableOut g.1 g.2.1 hd h ht (k g H locs la hP hS hL)
end Rules
section Shapes
variable {y : Yd} {G : Cx} {b : Ab} {pc : Nat} {st : List Value} {σ : Mm}
theorem ald_1_0 (n : Nat) {v : Value} (hr : isR v = true) (hd : decode (yC y) pc = .ok (.aload_n 0, 1)) (hp : pc + 1 = n) (k : At y G b n [some (v)] (v :: st) σ) : At y G b pc [some (v)] st σ := by
  subst hp
  intro g H locs la hP hS hL
  obtain ⟨q, rfl⟩ := isR_of hr
  exact lv_aload_n g.1 g.2.1 hd rfl (hL.2.2 0 _ rfl) (k g H locs la hP hS hL)
theorem ald_2_0 (n : Nat) {a1 : Option Value} {v : Value} (hr : isR v = true) (hd : decode (yC y) pc = .ok (.aload_n 0, 1)) (hp : pc + 1 = n) (k : At y G b n [some (v), a1] (v :: st) σ) : At y G b pc [some (v), a1] st σ := by
  subst hp
  intro g H locs la hP hS hL
  obtain ⟨q, rfl⟩ := isR_of hr
  exact lv_aload_n g.1 g.2.1 hd rfl (hL.2.2 0 _ rfl) (k g H locs la hP hS hL)
theorem ald_2_1 (n : Nat) {a0 : Option Value} {v : Value} (hr : isR v = true) (hd : decode (yC y) pc = .ok (.aload_n 1, 1)) (hp : pc + 1 = n) (k : At y G b n [a0, some (v)] (v :: st) σ) : At y G b pc [a0, some (v)] st σ := by
  subst hp
  intro g H locs la hP hS hL
  obtain ⟨q, rfl⟩ := isR_of hr
  exact lv_aload_n g.1 g.2.1 hd rfl (hL.2.2 1 _ rfl) (k g H locs la hP hS hL)
theorem ald_3_0 (n : Nat) {a1 a2 : Option Value} {v : Value} (hr : isR v = true) (hd : decode (yC y) pc = .ok (.aload_n 0, 1)) (hp : pc + 1 = n) (k : At y G b n [some (v), a1, a2] (v :: st) σ) : At y G b pc [some (v), a1, a2] st σ := by
  subst hp
  intro g H locs la hP hS hL
  obtain ⟨q, rfl⟩ := isR_of hr
  exact lv_aload_n g.1 g.2.1 hd rfl (hL.2.2 0 _ rfl) (k g H locs la hP hS hL)
theorem ald_3_1 (n : Nat) {a0 a2 : Option Value} {v : Value} (hr : isR v = true) (hd : decode (yC y) pc = .ok (.aload_n 1, 1)) (hp : pc + 1 = n) (k : At y G b n [a0, some (v), a2] (v :: st) σ) : At y G b pc [a0, some (v), a2] st σ := by
  subst hp
  intro g H locs la hP hS hL
  obtain ⟨q, rfl⟩ := isR_of hr
  exact lv_aload_n g.1 g.2.1 hd rfl (hL.2.2 1 _ rfl) (k g H locs la hP hS hL)
theorem ald_3_2 (n : Nat) {a0 a1 : Option Value} {v : Value} (hr : isR v = true) (hd : decode (yC y) pc = .ok (.aload_n 2, 1)) (hp : pc + 1 = n) (k : At y G b n [a0, a1, some (v)] (v :: st) σ) : At y G b pc [a0, a1, some (v)] st σ := by
  subst hp
  intro g H locs la hP hS hL
  obtain ⟨q, rfl⟩ := isR_of hr
  exact lv_aload_n g.1 g.2.1 hd rfl (hL.2.2 2 _ rfl) (k g H locs la hP hS hL)
theorem ald_4_0 (n : Nat) {a1 a2 a3 : Option Value} {v : Value} (hr : isR v = true) (hd : decode (yC y) pc = .ok (.aload_n 0, 1)) (hp : pc + 1 = n) (k : At y G b n [some (v), a1, a2, a3] (v :: st) σ) : At y G b pc [some (v), a1, a2, a3] st σ := by
  subst hp
  intro g H locs la hP hS hL
  obtain ⟨q, rfl⟩ := isR_of hr
  exact lv_aload_n g.1 g.2.1 hd rfl (hL.2.2 0 _ rfl) (k g H locs la hP hS hL)
theorem ald_4_1 (n : Nat) {a0 a2 a3 : Option Value} {v : Value} (hr : isR v = true) (hd : decode (yC y) pc = .ok (.aload_n 1, 1)) (hp : pc + 1 = n) (k : At y G b n [a0, some (v), a2, a3] (v :: st) σ) : At y G b pc [a0, some (v), a2, a3] st σ := by
  subst hp
  intro g H locs la hP hS hL
  obtain ⟨q, rfl⟩ := isR_of hr
  exact lv_aload_n g.1 g.2.1 hd rfl (hL.2.2 1 _ rfl) (k g H locs la hP hS hL)
theorem ald_4_2 (n : Nat) {a0 a1 a3 : Option Value} {v : Value} (hr : isR v = true) (hd : decode (yC y) pc = .ok (.aload_n 2, 1)) (hp : pc + 1 = n) (k : At y G b n [a0, a1, some (v), a3] (v :: st) σ) : At y G b pc [a0, a1, some (v), a3] st σ := by
  subst hp
  intro g H locs la hP hS hL
  obtain ⟨q, rfl⟩ := isR_of hr
  exact lv_aload_n g.1 g.2.1 hd rfl (hL.2.2 2 _ rfl) (k g H locs la hP hS hL)
theorem ald_4_3 (n : Nat) {a0 a1 a2 : Option Value} {v : Value} (hr : isR v = true) (hd : decode (yC y) pc = .ok (.aload_n 3, 1)) (hp : pc + 1 = n) (k : At y G b n [a0, a1, a2, some (v)] (v :: st) σ) : At y G b pc [a0, a1, a2, some (v)] st σ := by
  subst hp
  intro g H locs la hP hS hL
  obtain ⟨q, rfl⟩ := isR_of hr
  exact lv_aload_n g.1 g.2.1 hd rfl (hL.2.2 3 _ rfl) (k g H locs la hP hS hL)
theorem ald_5_0 (n : Nat) {a1 a2 a3 a4 : Option Value} {v : Value} (hr : isR v = true) (hd : decode (yC y) pc = .ok (.aload_n 0, 1)) (hp : pc + 1 = n) (k : At y G b n [some (v), a1, a2, a3, a4] (v :: st) σ) : At y G b pc [some (v), a1, a2, a3, a4] st σ := by
  subst hp
  intro g H locs la hP hS hL
  obtain ⟨q, rfl⟩ := isR_of hr
  exact lv_aload_n g.1 g.2.1 hd rfl (hL.2.2 0 _ rfl) (k g H locs la hP hS hL)
theorem ald_5_1 (n : Nat) {a0 a2 a3 a4 : Option Value} {v : Value} (hr : isR v = true) (hd : decode (yC y) pc = .ok (.aload_n 1, 1)) (hp : pc + 1 = n) (k : At y G b n [a0, some (v), a2, a3, a4] (v :: st) σ) : At y G b pc [a0, some (v), a2, a3, a4] st σ := by
  subst hp
  intro g H locs la hP hS hL
  obtain ⟨q, rfl⟩ := isR_of hr
  exact lv_aload_n g.1 g.2.1 hd rfl (hL.2.2 1 _ rfl) (k g H locs la hP hS hL)
theorem ald_5_4 (n : Nat) {a0 a1 a2 a3 : Option Value} {v : Value} (hr : isR v = true) (hd : decode (yC y) pc = .ok (.aload 4, 2)) (hp : pc + 2 = n) (k : At y G b n [a0, a1, a2, a3, some (v)] (v :: st) σ) : At y G b pc [a0, a1, a2, a3, some (v)] st σ := by
  subst hp
  intro g H locs la hP hS hL
  obtain ⟨q, rfl⟩ := isR_of hr
  exact lv_aload g.1 g.2.1 hd (hL.2.2 4 _ rfl) (k g H locs la hP hS hL)
theorem ald_6_0 (n : Nat) {a1 a2 a3 a4 a5 : Option Value} {v : Value} (hr : isR v = true) (hd : decode (yC y) pc = .ok (.aload_n 0, 1)) (hp : pc + 1 = n) (k : At y G b n [some (v), a1, a2, a3, a4, a5] (v :: st) σ) : At y G b pc [some (v), a1, a2, a3, a4, a5] st σ := by
  subst hp
  intro g H locs la hP hS hL
  obtain ⟨q, rfl⟩ := isR_of hr
  exact lv_aload_n g.1 g.2.1 hd rfl (hL.2.2 0 _ rfl) (k g H locs la hP hS hL)
theorem ald_7_0 (n : Nat) {a1 a2 a3 a4 a5 a6 : Option Value} {v : Value} (hr : isR v = true) (hd : decode (yC y) pc = .ok (.aload_n 0, 1)) (hp : pc + 1 = n) (k : At y G b n [some (v), a1, a2, a3, a4, a5, a6] (v :: st) σ) : At y G b pc [some (v), a1, a2, a3, a4, a5, a6] st σ := by
  subst hp
  intro g H locs la hP hS hL
  obtain ⟨q, rfl⟩ := isR_of hr
  exact lv_aload_n g.1 g.2.1 hd rfl (hL.2.2 0 _ rfl) (k g H locs la hP hS hL)
theorem ald_8_0 (n : Nat) {a1 a2 a3 a4 a5 a6 a7 : Option Value} {v : Value} (hr : isR v = true) (hd : decode (yC y) pc = .ok (.aload_n 0, 1)) (hp : pc + 1 = n) (k : At y G b n [some (v), a1, a2, a3, a4, a5, a6, a7] (v :: st) σ) : At y G b pc [some (v), a1, a2, a3, a4, a5, a6, a7] st σ := by
  subst hp
  intro g H locs la hP hS hL
  obtain ⟨q, rfl⟩ := isR_of hr
  exact lv_aload_n g.1 g.2.1 hd rfl (hL.2.2 0 _ rfl) (k g H locs la hP hS hL)
theorem ald_8_1 (n : Nat) {a0 a2 a3 a4 a5 a6 a7 : Option Value} {v : Value} (hr : isR v = true) (hd : decode (yC y) pc = .ok (.aload_n 1, 1)) (hp : pc + 1 = n) (k : At y G b n [a0, some (v), a2, a3, a4, a5, a6, a7] (v :: st) σ) : At y G b pc [a0, some (v), a2, a3, a4, a5, a6, a7] st σ := by
  subst hp
  intro g H locs la hP hS hL
  obtain ⟨q, rfl⟩ := isR_of hr
  exact lv_aload_n g.1 g.2.1 hd rfl (hL.2.2 1 _ rfl) (k g H locs la hP hS hL)
theorem ald_8_6 (n : Nat) {a0 a1 a2 a3 a4 a5 a7 : Option Value} {v : Value} (hr : isR v = true) (hd : decode (yC y) pc = .ok (.aload 6, 2)) (hp : pc + 2 = n) (k : At y G b n [a0, a1, a2, a3, a4, a5, some (v), a7] (v :: st) σ) : At y G b pc [a0, a1, a2, a3, a4, a5, some (v), a7] st σ := by
  subst hp
  intro g H locs la hP hS hL
  obtain ⟨q, rfl⟩ := isR_of hr
  exact lv_aload g.1 g.2.1 hd (hL.2.2 6 _ rfl) (k g H locs la hP hS hL)
theorem ald_9_0 (n : Nat) {a1 a2 a3 a4 a5 a6 a7 a8 : Option Value} {v : Value} (hr : isR v = true) (hd : decode (yC y) pc = .ok (.aload_n 0, 1)) (hp : pc + 1 = n) (k : At y G b n [some (v), a1, a2, a3, a4, a5, a6, a7, a8] (v :: st) σ) : At y G b pc [some (v), a1, a2, a3, a4, a5, a6, a7, a8] st σ := by
  subst hp
  intro g H locs la hP hS hL
  obtain ⟨q, rfl⟩ := isR_of hr
  exact lv_aload_n g.1 g.2.1 hd rfl (hL.2.2 0 _ rfl) (k g H locs la hP hS hL)
theorem ald_9_1 (n : Nat) {a0 a2 a3 a4 a5 a6 a7 a8 : Option Value} {v : Value} (hr : isR v = true) (hd : decode (yC y) pc = .ok (.aload_n 1, 1)) (hp : pc + 1 = n) (k : At y G b n [a0, some (v), a2, a3, a4, a5, a6, a7, a8] (v :: st) σ) : At y G b pc [a0, some (v), a2, a3, a4, a5, a6, a7, a8] st σ := by
  subst hp
  intro g H locs la hP hS hL
  obtain ⟨q, rfl⟩ := isR_of hr
  exact lv_aload_n g.1 g.2.1 hd rfl (hL.2.2 1 _ rfl) (k g H locs la hP hS hL)
theorem ald_10_0 (n : Nat) {a1 a2 a3 a4 a5 a6 a7 a8 a9 : Option Value} {v : Value} (hr : isR v = true) (hd : decode (yC y) pc = .ok (.aload_n 0, 1)) (hp : pc + 1 = n) (k : At y G b n [some (v), a1, a2, a3, a4, a5, a6, a7, a8, a9] (v :: st) σ) : At y G b pc [some (v), a1, a2, a3, a4, a5, a6, a7, a8, a9] st σ := by
  subst hp
  intro g H locs la hP hS hL
  obtain ⟨q, rfl⟩ := isR_of hr
  exact lv_aload_n g.1 g.2.1 hd rfl (hL.2.2 0 _ rfl) (k g H locs la hP hS hL)
theorem ald_11_0 (n : Nat) {a1 a2 a3 a4 a5 a6 a7 a8 a9 a10 : Option Value} {v : Value} (hr : isR v = true) (hd : decode (yC y) pc = .ok (.aload_n 0, 1)) (hp : pc + 1 = n) (k : At y G b n [some (v), a1, a2, a3, a4, a5, a6, a7, a8, a9, a10] (v :: st) σ) : At y G b pc [some (v), a1, a2, a3, a4, a5, a6, a7, a8, a9, a10] st σ := by
  subst hp
  intro g H locs la hP hS hL
  obtain ⟨q, rfl⟩ := isR_of hr
  exact lv_aload_n g.1 g.2.1 hd rfl (hL.2.2 0 _ rfl) (k g H locs la hP hS hL)
theorem ast_2_1 (n : Nat) {a0 a1 : Option Value} {v : Value} (hr : isR v = true) (hd : decode (yC y) pc = .ok (.astore_n 1, 1)) (hn : yL y = 2) (ho : okp [a0, a1] 1 = true) (hp : pc + 1 = n) (k : At y G b n [a0, some (v)] st σ) : At y G b pc [a0, a1] (v :: st) σ := by
  subst hp
  intro g H locs la hP hS hL
  obtain ⟨q, rfl⟩ := isR_of hr
  exact lv_astore_n g.1 g.2.1 hd rfl hL.has (by rw [hn]; decide) rfl (fun la2 h2 => k g H locs la2 hP hS (Lc.store1 ho h2))
theorem ast_4_1 (n : Nat) {a0 a1 a2 a3 : Option Value} {v : Value} (hr : isR v = true) (hd : decode (yC y) pc = .ok (.astore_n 1, 1)) (hn : yL y = 4) (ho : okp [a0, a1, a2, a3] 1 = true) (hp : pc + 1 = n) (k : At y G b n [a0, some (v), a2, a3] st σ) : At y G b pc [a0, a1, a2, a3] (v :: st) σ := by
  subst hp
  intro g H locs la hP hS hL
  obtain ⟨q, rfl⟩ := isR_of hr
  exact lv_astore_n g.1 g.2.1 hd rfl hL.has (by rw [hn]; decide) rfl (fun la2 h2 => k g H locs la2 hP hS (Lc.store1 ho h2))
theorem ast_4_2 (n : Nat) {a0 a1 a2 a3 : Option Value} {v : Value} (hr : isR v = true) (hd : decode (yC y) pc = .ok (.astore_n 2, 1)) (hn : yL y = 4) (ho : okp [a0, a1, a2, a3] 2 = true) (hp : pc + 1 = n) (k : At y G b n [a0, a1, some (v), a3] st σ) : At y G b pc [a0, a1, a2, a3] (v :: st) σ := by
  subst hp
  intro g H locs la hP hS hL
  obtain ⟨q, rfl⟩ := isR_of hr
  exact lv_astore_n g.1 g.2.1 hd rfl hL.has (by rw [hn]; decide) rfl (fun la2 h2 => k g H locs la2 hP hS (Lc.store1 ho h2))
theorem ast_5_4 (n : Nat) {a0 a1 a2 a3 a4 : Option Value} {v : Value} (hr : isR v = true) (hd : decode (yC y) pc = .ok (.astore 4, 2)) (hn : yL y = 5) (ho : okp [a0, a1, a2, a3, a4] 4 = true) (hp : pc + 2 = n) (k : At y G b n [a0, a1, a2, a3, some (v)] st σ) : At y G b pc [a0, a1, a2, a3, a4] (v :: st) σ := by
  subst hp
  intro g H locs la hP hS hL
  obtain ⟨q, rfl⟩ := isR_of hr
  exact lv_astore g.1 g.2.1 hd hL.has (by rw [hn]; decide) rfl (fun la2 h2 => k g H locs la2 hP hS (Lc.store1 ho h2))
theorem ast_8_6 (n : Nat) {a0 a1 a2 a3 a4 a5 a6 a7 : Option Value} {v : Value} (hr : isR v = true) (hd : decode (yC y) pc = .ok (.astore 6, 2)) (hn : yL y = 8) (ho : okp [a0, a1, a2, a3, a4, a5, a6, a7] 6 = true) (hp : pc + 2 = n) (k : At y G b n [a0, a1, a2, a3, a4, a5, some (v), a7] st σ) : At y G b pc [a0, a1, a2, a3, a4, a5, a6, a7] (v :: st) σ := by
  subst hp
  intro g H locs la hP hS hL
  obtain ⟨q, rfl⟩ := isR_of hr
  exact lv_astore g.1 g.2.1 hd hL.has (by rw [hn]; decide) rfl (fun la2 h2 => k g H locs la2 hP hS (Lc.store1 ho h2))
theorem inc_2_1 (n : Nat) {a0 : Option Value} {x w : Int32} {z : Int} (hd : decode (yC y) pc = .ok (.iinc 1 z, 3)) (hw : Int32.ofInt z = w) (hn : yL y = 2) (ho : okp [a0, some (.int x)] 1 = true) (hp : pc + 3 = n) (k : At y G b n [a0, some (.int (x + w))] st σ) : At y G b pc [a0, some (.int x)] st σ := by
  subst hp; subst hw
  intro g H locs la hP hS hL
  obtain ⟨j, hj⟩ := List.getElem?_of_mem ((al_mem [a0, some (.int x)] 0 1 (.int x)).mpr ⟨1, rfl, rfl⟩)
  exact lv_iinc g.1 g.2.1 hd hL.has hj rfl (by rw [hn]; decide) rfl (fun la2 h2 => k g H locs la2 hP hS (Lc.store1 ho h2))
theorem inc_3_2 (n : Nat) {a0 a1 : Option Value} {x w : Int32} {z : Int} (hd : decode (yC y) pc = .ok (.iinc 2 z, 3)) (hw : Int32.ofInt z = w) (hn : yL y = 3) (ho : okp [a0, a1, some (.int x)] 2 = true) (hp : pc + 3 = n) (k : At y G b n [a0, a1, some (.int (x + w))] st σ) : At y G b pc [a0, a1, some (.int x)] st σ := by
  subst hp; subst hw
  intro g H locs la hP hS hL
  obtain ⟨j, hj⟩ := List.getElem?_of_mem ((al_mem [a0, a1, some (.int x)] 0 2 (.int x)).mpr ⟨2, rfl, rfl⟩)
  exact lv_iinc g.1 g.2.1 hd hL.has hj rfl (by rw [hn]; decide) rfl (fun la2 h2 => k g H locs la2 hP hS (Lc.store1 ho h2))
theorem inc_4_1 (n : Nat) {a0 a2 a3 : Option Value} {x w : Int32} {z : Int} (hd : decode (yC y) pc = .ok (.iinc 1 z, 3)) (hw : Int32.ofInt z = w) (hn : yL y = 4) (ho : okp [a0, some (.int x), a2, a3] 1 = true) (hp : pc + 3 = n) (k : At y G b n [a0, some (.int (x + w)), a2, a3] st σ) : At y G b pc [a0, some (.int x), a2, a3] st σ := by
  subst hp; subst hw
  intro g H locs la hP hS hL
  obtain ⟨j, hj⟩ := List.getElem?_of_mem ((al_mem [a0, some (.int x), a2, a3] 0 1 (.int x)).mpr ⟨1, rfl, rfl⟩)
  exact lv_iinc g.1 g.2.1 hd hL.has hj rfl (by rw [hn]; decide) rfl (fun la2 h2 => k g H locs la2 hP hS (Lc.store1 ho h2))
theorem inc_4_2 (n : Nat) {a0 a1 a3 : Option Value} {x w : Int32} {z : Int} (hd : decode (yC y) pc = .ok (.iinc 2 z, 3)) (hw : Int32.ofInt z = w) (hn : yL y = 4) (ho : okp [a0, a1, some (.int x), a3] 2 = true) (hp : pc + 3 = n) (k : At y G b n [a0, a1, some (.int (x + w)), a3] st σ) : At y G b pc [a0, a1, some (.int x), a3] st σ := by
  subst hp; subst hw
  intro g H locs la hP hS hL
  obtain ⟨j, hj⟩ := List.getElem?_of_mem ((al_mem [a0, a1, some (.int x), a3] 0 2 (.int x)).mpr ⟨2, rfl, rfl⟩)
  exact lv_iinc g.1 g.2.1 hd hL.has hj rfl (by rw [hn]; decide) rfl (fun la2 h2 => k g H locs la2 hP hS (Lc.store1 ho h2))
theorem inc_4_3 (n : Nat) {a0 a1 a2 : Option Value} {x w : Int32} {z : Int} (hd : decode (yC y) pc = .ok (.iinc 3 z, 3)) (hw : Int32.ofInt z = w) (hn : yL y = 4) (ho : okp [a0, a1, a2, some (.int x)] 3 = true) (hp : pc + 3 = n) (k : At y G b n [a0, a1, a2, some (.int (x + w))] st σ) : At y G b pc [a0, a1, a2, some (.int x)] st σ := by
  subst hp; subst hw
  intro g H locs la hP hS hL
  obtain ⟨j, hj⟩ := List.getElem?_of_mem ((al_mem [a0, a1, a2, some (.int x)] 0 3 (.int x)).mpr ⟨3, rfl, rfl⟩)
  exact lv_iinc g.1 g.2.1 hd hL.has hj rfl (by rw [hn]; decide) rfl (fun la2 h2 => k g H locs la2 hP hS (Lc.store1 ho h2))
theorem inc_5_2 (n : Nat) {a0 a1 a3 a4 : Option Value} {x w : Int32} {z : Int} (hd : decode (yC y) pc = .ok (.iinc 2 z, 3)) (hw : Int32.ofInt z = w) (hn : yL y = 5) (ho : okp [a0, a1, some (.int x), a3, a4] 2 = true) (hp : pc + 3 = n) (k : At y G b n [a0, a1, some (.int (x + w)), a3, a4] st σ) : At y G b pc [a0, a1, some (.int x), a3, a4] st σ := by
  subst hp; subst hw
  intro g H locs la hP hS hL
  obtain ⟨j, hj⟩ := List.getElem?_of_mem ((al_mem [a0, a1, some (.int x), a3, a4] 0 2 (.int x)).mpr ⟨2, rfl, rfl⟩)
  exact lv_iinc g.1 g.2.1 hd hL.has hj rfl (by rw [hn]; decide) rfl (fun la2 h2 => k g H locs la2 hP hS (Lc.store1 ho h2))
theorem inc_5_3 (n : Nat) {a0 a1 a2 a4 : Option Value} {x w : Int32} {z : Int} (hd : decode (yC y) pc = .ok (.iinc 3 z, 3)) (hw : Int32.ofInt z = w) (hn : yL y = 5) (ho : okp [a0, a1, a2, some (.int x), a4] 3 = true) (hp : pc + 3 = n) (k : At y G b n [a0, a1, a2, some (.int (x + w)), a4] st σ) : At y G b pc [a0, a1, a2, some (.int x), a4] st σ := by
  subst hp; subst hw
  intro g H locs la hP hS hL
  obtain ⟨j, hj⟩ := List.getElem?_of_mem ((al_mem [a0, a1, a2, some (.int x), a4] 0 3 (.int x)).mpr ⟨3, rfl, rfl⟩)
  exact lv_iinc g.1 g.2.1 hd hL.has hj rfl (by rw [hn]; decide) rfl (fun la2 h2 => k g H locs la2 hP hS (Lc.store1 ho h2))
theorem inc_5_4 (n : Nat) {a0 a1 a2 a3 : Option Value} {x w : Int32} {z : Int} (hd : decode (yC y) pc = .ok (.iinc 4 z, 3)) (hw : Int32.ofInt z = w) (hn : yL y = 5) (ho : okp [a0, a1, a2, a3, some (.int x)] 4 = true) (hp : pc + 3 = n) (k : At y G b n [a0, a1, a2, a3, some (.int (x + w))] st σ) : At y G b pc [a0, a1, a2, a3, some (.int x)] st σ := by
  subst hp; subst hw
  intro g H locs la hP hS hL
  obtain ⟨j, hj⟩ := List.getElem?_of_mem ((al_mem [a0, a1, a2, a3, some (.int x)] 0 4 (.int x)).mpr ⟨4, rfl, rfl⟩)
  exact lv_iinc g.1 g.2.1 hd hL.has hj rfl (by rw [hn]; decide) rfl (fun la2 h2 => k g H locs la2 hP hS (Lc.store1 ho h2))
theorem inc_6_1 (n : Nat) {a0 a2 a3 a4 a5 : Option Value} {x w : Int32} {z : Int} (hd : decode (yC y) pc = .ok (.iinc 1 z, 3)) (hw : Int32.ofInt z = w) (hn : yL y = 6) (ho : okp [a0, some (.int x), a2, a3, a4, a5] 1 = true) (hp : pc + 3 = n) (k : At y G b n [a0, some (.int (x + w)), a2, a3, a4, a5] st σ) : At y G b pc [a0, some (.int x), a2, a3, a4, a5] st σ := by
  subst hp; subst hw
  intro g H locs la hP hS hL
  obtain ⟨j, hj⟩ := List.getElem?_of_mem ((al_mem [a0, some (.int x), a2, a3, a4, a5] 0 1 (.int x)).mpr ⟨1, rfl, rfl⟩)
  exact lv_iinc g.1 g.2.1 hd hL.has hj rfl (by rw [hn]; decide) rfl (fun la2 h2 => k g H locs la2 hP hS (Lc.store1 ho h2))
theorem inc_6_2 (n : Nat) {a0 a1 a3 a4 a5 : Option Value} {x w : Int32} {z : Int} (hd : decode (yC y) pc = .ok (.iinc 2 z, 3)) (hw : Int32.ofInt z = w) (hn : yL y = 6) (ho : okp [a0, a1, some (.int x), a3, a4, a5] 2 = true) (hp : pc + 3 = n) (k : At y G b n [a0, a1, some (.int (x + w)), a3, a4, a5] st σ) : At y G b pc [a0, a1, some (.int x), a3, a4, a5] st σ := by
  subst hp; subst hw
  intro g H locs la hP hS hL
  obtain ⟨j, hj⟩ := List.getElem?_of_mem ((al_mem [a0, a1, some (.int x), a3, a4, a5] 0 2 (.int x)).mpr ⟨2, rfl, rfl⟩)
  exact lv_iinc g.1 g.2.1 hd hL.has hj rfl (by rw [hn]; decide) rfl (fun la2 h2 => k g H locs la2 hP hS (Lc.store1 ho h2))
theorem inc_6_3 (n : Nat) {a0 a1 a2 a4 a5 : Option Value} {x w : Int32} {z : Int} (hd : decode (yC y) pc = .ok (.iinc 3 z, 3)) (hw : Int32.ofInt z = w) (hn : yL y = 6) (ho : okp [a0, a1, a2, some (.int x), a4, a5] 3 = true) (hp : pc + 3 = n) (k : At y G b n [a0, a1, a2, some (.int (x + w)), a4, a5] st σ) : At y G b pc [a0, a1, a2, some (.int x), a4, a5] st σ := by
  subst hp; subst hw
  intro g H locs la hP hS hL
  obtain ⟨j, hj⟩ := List.getElem?_of_mem ((al_mem [a0, a1, a2, some (.int x), a4, a5] 0 3 (.int x)).mpr ⟨3, rfl, rfl⟩)
  exact lv_iinc g.1 g.2.1 hd hL.has hj rfl (by rw [hn]; decide) rfl (fun la2 h2 => k g H locs la2 hP hS (Lc.store1 ho h2))
theorem inc_6_4 (n : Nat) {a0 a1 a2 a3 a5 : Option Value} {x w : Int32} {z : Int} (hd : decode (yC y) pc = .ok (.iinc 4 z, 3)) (hw : Int32.ofInt z = w) (hn : yL y = 6) (ho : okp [a0, a1, a2, a3, some (.int x), a5] 4 = true) (hp : pc + 3 = n) (k : At y G b n [a0, a1, a2, a3, some (.int (x + w)), a5] st σ) : At y G b pc [a0, a1, a2, a3, some (.int x), a5] st σ := by
  subst hp; subst hw
  intro g H locs la hP hS hL
  obtain ⟨j, hj⟩ := List.getElem?_of_mem ((al_mem [a0, a1, a2, a3, some (.int x), a5] 0 4 (.int x)).mpr ⟨4, rfl, rfl⟩)
  exact lv_iinc g.1 g.2.1 hd hL.has hj rfl (by rw [hn]; decide) rfl (fun la2 h2 => k g H locs la2 hP hS (Lc.store1 ho h2))
theorem inc_6_5 (n : Nat) {a0 a1 a2 a3 a4 : Option Value} {x w : Int32} {z : Int} (hd : decode (yC y) pc = .ok (.iinc 5 z, 3)) (hw : Int32.ofInt z = w) (hn : yL y = 6) (ho : okp [a0, a1, a2, a3, a4, some (.int x)] 5 = true) (hp : pc + 3 = n) (k : At y G b n [a0, a1, a2, a3, a4, some (.int (x + w))] st σ) : At y G b pc [a0, a1, a2, a3, a4, some (.int x)] st σ := by
  subst hp; subst hw
  intro g H locs la hP hS hL
  obtain ⟨j, hj⟩ := List.getElem?_of_mem ((al_mem [a0, a1, a2, a3, a4, some (.int x)] 0 5 (.int x)).mpr ⟨5, rfl, rfl⟩)
  exact lv_iinc g.1 g.2.1 hd hL.has hj rfl (by rw [hn]; decide) rfl (fun la2 h2 => k g H locs la2 hP hS (Lc.store1 ho h2))
theorem inc_7_1 (n : Nat) {a0 a2 a3 a4 a5 a6 : Option Value} {x w : Int32} {z : Int} (hd : decode (yC y) pc = .ok (.iinc 1 z, 3)) (hw : Int32.ofInt z = w) (hn : yL y = 7) (ho : okp [a0, some (.int x), a2, a3, a4, a5, a6] 1 = true) (hp : pc + 3 = n) (k : At y G b n [a0, some (.int (x + w)), a2, a3, a4, a5, a6] st σ) : At y G b pc [a0, some (.int x), a2, a3, a4, a5, a6] st σ := by
  subst hp; subst hw
  intro g H locs la hP hS hL
  obtain ⟨j, hj⟩ := List.getElem?_of_mem ((al_mem [a0, some (.int x), a2, a3, a4, a5, a6] 0 1 (.int x)).mpr ⟨1, rfl, rfl⟩)
  exact lv_iinc g.1 g.2.1 hd hL.has hj rfl (by rw [hn]; decide) rfl (fun la2 h2 => k g H locs la2 hP hS (Lc.store1 ho h2))
theorem inc_7_2 (n : Nat) {a0 a1 a3 a4 a5 a6 : Option Value} {x w : Int32} {z : Int} (hd : decode (yC y) pc = .ok (.iinc 2 z, 3)) (hw : Int32.ofInt z = w) (hn : yL y = 7) (ho : okp [a0, a1, some (.int x), a3, a4, a5, a6] 2 = true) (hp : pc + 3 = n) (k : At y G b n [a0, a1, some (.int (x + w)), a3, a4, a5, a6] st σ) : At y G b pc [a0, a1, some (.int x), a3, a4, a5, a6] st σ := by
  subst hp; subst hw
  intro g H locs la hP hS hL
  obtain ⟨j, hj⟩ := List.getElem?_of_mem ((al_mem [a0, a1, some (.int x), a3, a4, a5, a6] 0 2 (.int x)).mpr ⟨2, rfl, rfl⟩)
  exact lv_iinc g.1 g.2.1 hd hL.has hj rfl (by rw [hn]; decide) rfl (fun la2 h2 => k g H locs la2 hP hS (Lc.store1 ho h2))
theorem inc_7_3 (n : Nat) {a0 a1 a2 a4 a5 a6 : Option Value} {x w : Int32} {z : Int} (hd : decode (yC y) pc = .ok (.iinc 3 z, 3)) (hw : Int32.ofInt z = w) (hn : yL y = 7) (ho : okp [a0, a1, a2, some (.int x), a4, a5, a6] 3 = true) (hp : pc + 3 = n) (k : At y G b n [a0, a1, a2, some (.int (x + w)), a4, a5, a6] st σ) : At y G b pc [a0, a1, a2, some (.int x), a4, a5, a6] st σ := by
  subst hp; subst hw
  intro g H locs la hP hS hL
  obtain ⟨j, hj⟩ := List.getElem?_of_mem ((al_mem [a0, a1, a2, some (.int x), a4, a5, a6] 0 3 (.int x)).mpr ⟨3, rfl, rfl⟩)
  exact lv_iinc g.1 g.2.1 hd hL.has hj rfl (by rw [hn]; decide) rfl (fun la2 h2 => k g H locs la2 hP hS (Lc.store1 ho h2))
theorem inc_7_4 (n : Nat) {a0 a1 a2 a3 a5 a6 : Option Value} {x w : Int32} {z : Int} (hd : decode (yC y) pc = .ok (.iinc 4 z, 3)) (hw : Int32.ofInt z = w) (hn : yL y = 7) (ho : okp [a0, a1, a2, a3, some (.int x), a5, a6] 4 = true) (hp : pc + 3 = n) (k : At y G b n [a0, a1, a2, a3, some (.int (x + w)), a5, a6] st σ) : At y G b pc [a0, a1, a2, a3, some (.int x), a5, a6] st σ := by
  subst hp; subst hw
  intro g H locs la hP hS hL
  obtain ⟨j, hj⟩ := List.getElem?_of_mem ((al_mem [a0, a1, a2, a3, some (.int x), a5, a6] 0 4 (.int x)).mpr ⟨4, rfl, rfl⟩)
  exact lv_iinc g.1 g.2.1 hd hL.has hj rfl (by rw [hn]; decide) rfl (fun la2 h2 => k g H locs la2 hP hS (Lc.store1 ho h2))
theorem inc_7_5 (n : Nat) {a0 a1 a2 a3 a4 a6 : Option Value} {x w : Int32} {z : Int} (hd : decode (yC y) pc = .ok (.iinc 5 z, 3)) (hw : Int32.ofInt z = w) (hn : yL y = 7) (ho : okp [a0, a1, a2, a3, a4, some (.int x), a6] 5 = true) (hp : pc + 3 = n) (k : At y G b n [a0, a1, a2, a3, a4, some (.int (x + w)), a6] st σ) : At y G b pc [a0, a1, a2, a3, a4, some (.int x), a6] st σ := by
  subst hp; subst hw
  intro g H locs la hP hS hL
  obtain ⟨j, hj⟩ := List.getElem?_of_mem ((al_mem [a0, a1, a2, a3, a4, some (.int x), a6] 0 5 (.int x)).mpr ⟨5, rfl, rfl⟩)
  exact lv_iinc g.1 g.2.1 hd hL.has hj rfl (by rw [hn]; decide) rfl (fun la2 h2 => k g H locs la2 hP hS (Lc.store1 ho h2))
theorem inc_8_2 (n : Nat) {a0 a1 a3 a4 a5 a6 a7 : Option Value} {x w : Int32} {z : Int} (hd : decode (yC y) pc = .ok (.iinc 2 z, 3)) (hw : Int32.ofInt z = w) (hn : yL y = 8) (ho : okp [a0, a1, some (.int x), a3, a4, a5, a6, a7] 2 = true) (hp : pc + 3 = n) (k : At y G b n [a0, a1, some (.int (x + w)), a3, a4, a5, a6, a7] st σ) : At y G b pc [a0, a1, some (.int x), a3, a4, a5, a6, a7] st σ := by
  subst hp; subst hw
  intro g H locs la hP hS hL
  obtain ⟨j, hj⟩ := List.getElem?_of_mem ((al_mem [a0, a1, some (.int x), a3, a4, a5, a6, a7] 0 2 (.int x)).mpr ⟨2, rfl, rfl⟩)
  exact lv_iinc g.1 g.2.1 hd hL.has hj rfl (by rw [hn]; decide) rfl (fun la2 h2 => k g H locs la2 hP hS (Lc.store1 ho h2))
theorem inc_8_3 (n : Nat) {a0 a1 a2 a4 a5 a6 a7 : Option Value} {x w : Int32} {z : Int} (hd : decode (yC y) pc = .ok (.iinc 3 z, 3)) (hw : Int32.ofInt z = w) (hn : yL y = 8) (ho : okp [a0, a1, a2, some (.int x), a4, a5, a6, a7] 3 = true) (hp : pc + 3 = n) (k : At y G b n [a0, a1, a2, some (.int (x + w)), a4, a5, a6, a7] st σ) : At y G b pc [a0, a1, a2, some (.int x), a4, a5, a6, a7] st σ := by
  subst hp; subst hw
  intro g H locs la hP hS hL
  obtain ⟨j, hj⟩ := List.getElem?_of_mem ((al_mem [a0, a1, a2, some (.int x), a4, a5, a6, a7] 0 3 (.int x)).mpr ⟨3, rfl, rfl⟩)
  exact lv_iinc g.1 g.2.1 hd hL.has hj rfl (by rw [hn]; decide) rfl (fun la2 h2 => k g H locs la2 hP hS (Lc.store1 ho h2))
theorem inc_8_4 (n : Nat) {a0 a1 a2 a3 a5 a6 a7 : Option Value} {x w : Int32} {z : Int} (hd : decode (yC y) pc = .ok (.iinc 4 z, 3)) (hw : Int32.ofInt z = w) (hn : yL y = 8) (ho : okp [a0, a1, a2, a3, some (.int x), a5, a6, a7] 4 = true) (hp : pc + 3 = n) (k : At y G b n [a0, a1, a2, a3, some (.int (x + w)), a5, a6, a7] st σ) : At y G b pc [a0, a1, a2, a3, some (.int x), a5, a6, a7] st σ := by
  subst hp; subst hw
  intro g H locs la hP hS hL
  obtain ⟨j, hj⟩ := List.getElem?_of_mem ((al_mem [a0, a1, a2, a3, some (.int x), a5, a6, a7] 0 4 (.int x)).mpr ⟨4, rfl, rfl⟩)
  exact lv_iinc g.1 g.2.1 hd hL.has hj rfl (by rw [hn]; decide) rfl (fun la2 h2 => k g H locs la2 hP hS (Lc.store1 ho h2))
theorem inc_8_5 (n : Nat) {a0 a1 a2 a3 a4 a6 a7 : Option Value} {x w : Int32} {z : Int} (hd : decode (yC y) pc = .ok (.iinc 5 z, 3)) (hw : Int32.ofInt z = w) (hn : yL y = 8) (ho : okp [a0, a1, a2, a3, a4, some (.int x), a6, a7] 5 = true) (hp : pc + 3 = n) (k : At y G b n [a0, a1, a2, a3, a4, some (.int (x + w)), a6, a7] st σ) : At y G b pc [a0, a1, a2, a3, a4, some (.int x), a6, a7] st σ := by
  subst hp; subst hw
  intro g H locs la hP hS hL
  obtain ⟨j, hj⟩ := List.getElem?_of_mem ((al_mem [a0, a1, a2, a3, a4, some (.int x), a6, a7] 0 5 (.int x)).mpr ⟨5, rfl, rfl⟩)
  exact lv_iinc g.1 g.2.1 hd hL.has hj rfl (by rw [hn]; decide) rfl (fun la2 h2 => k g H locs la2 hP hS (Lc.store1 ho h2))
theorem inc_8_6 (n : Nat) {a0 a1 a2 a3 a4 a5 a7 : Option Value} {x w : Int32} {z : Int} (hd : decode (yC y) pc = .ok (.iinc 6 z, 3)) (hw : Int32.ofInt z = w) (hn : yL y = 8) (ho : okp [a0, a1, a2, a3, a4, a5, some (.int x), a7] 6 = true) (hp : pc + 3 = n) (k : At y G b n [a0, a1, a2, a3, a4, a5, some (.int (x + w)), a7] st σ) : At y G b pc [a0, a1, a2, a3, a4, a5, some (.int x), a7] st σ := by
  subst hp; subst hw
  intro g H locs la hP hS hL
  obtain ⟨j, hj⟩ := List.getElem?_of_mem ((al_mem [a0, a1, a2, a3, a4, a5, some (.int x), a7] 0 6 (.int x)).mpr ⟨6, rfl, rfl⟩)
  exact lv_iinc g.1 g.2.1 hd hL.has hj rfl (by rw [hn]; decide) rfl (fun la2 h2 => k g H locs la2 hP hS (Lc.store1 ho h2))
theorem inc_8_7 (n : Nat) {a0 a1 a2 a3 a4 a5 a6 : Option Value} {x w : Int32} {z : Int} (hd : decode (yC y) pc = .ok (.iinc 7 z, 3)) (hw : Int32.ofInt z = w) (hn : yL y = 8) (ho : okp [a0, a1, a2, a3, a4, a5, a6, some (.int x)] 7 = true) (hp : pc + 3 = n) (k : At y G b n [a0, a1, a2, a3, a4, a5, a6, some (.int (x + w))] st σ) : At y G b pc [a0, a1, a2, a3, a4, a5, a6, some (.int x)] st σ := by
  subst hp; subst hw
  intro g H locs la hP hS hL
  obtain ⟨j, hj⟩ := List.getElem?_of_mem ((al_mem [a0, a1, a2, a3, a4, a5, a6, some (.int x)] 0 7 (.int x)).mpr ⟨7, rfl, rfl⟩)
  exact lv_iinc g.1 g.2.1 hd hL.has hj rfl (by rw [hn]; decide) rfl (fun la2 h2 => k g H locs la2 hP hS (Lc.store1 ho h2))
theorem inc_9_3 (n : Nat) {a0 a1 a2 a4 a5 a6 a7 a8 : Option Value} {x w : Int32} {z : Int} (hd : decode (yC y) pc = .ok (.iinc 3 z, 3)) (hw : Int32.ofInt z = w) (hn : yL y = 9) (ho : okp [a0, a1, a2, some (.int x), a4, a5, a6, a7, a8] 3 = true) (hp : pc + 3 = n) (k : At y G b n [a0, a1, a2, some (.int (x + w)), a4, a5, a6, a7, a8] st σ) : At y G b pc [a0, a1, a2, some (.int x), a4, a5, a6, a7, a8] st σ := by
  subst hp; subst hw
  intro g H locs la hP hS hL
  obtain ⟨j, hj⟩ := List.getElem?_of_mem ((al_mem [a0, a1, a2, some (.int x), a4, a5, a6, a7, a8] 0 3 (.int x)).mpr ⟨3, rfl, rfl⟩)
  exact lv_iinc g.1 g.2.1 hd hL.has hj rfl (by rw [hn]; decide) rfl (fun la2 h2 => k g H locs la2 hP hS (Lc.store1 ho h2))
theorem inc_9_4 (n : Nat) {a0 a1 a2 a3 a5 a6 a7 a8 : Option Value} {x w : Int32} {z : Int} (hd : decode (yC y) pc = .ok (.iinc 4 z, 3)) (hw : Int32.ofInt z = w) (hn : yL y = 9) (ho : okp [a0, a1, a2, a3, some (.int x), a5, a6, a7, a8] 4 = true) (hp : pc + 3 = n) (k : At y G b n [a0, a1, a2, a3, some (.int (x + w)), a5, a6, a7, a8] st σ) : At y G b pc [a0, a1, a2, a3, some (.int x), a5, a6, a7, a8] st σ := by
  subst hp; subst hw
  intro g H locs la hP hS hL
  obtain ⟨j, hj⟩ := List.getElem?_of_mem ((al_mem [a0, a1, a2, a3, some (.int x), a5, a6, a7, a8] 0 4 (.int x)).mpr ⟨4, rfl, rfl⟩)
  exact lv_iinc g.1 g.2.1 hd hL.has hj rfl (by rw [hn]; decide) rfl (fun la2 h2 => k g H locs la2 hP hS (Lc.store1 ho h2))
theorem inc_9_6 (n : Nat) {a0 a1 a2 a3 a4 a5 a7 a8 : Option Value} {x w : Int32} {z : Int} (hd : decode (yC y) pc = .ok (.iinc 6 z, 3)) (hw : Int32.ofInt z = w) (hn : yL y = 9) (ho : okp [a0, a1, a2, a3, a4, a5, some (.int x), a7, a8] 6 = true) (hp : pc + 3 = n) (k : At y G b n [a0, a1, a2, a3, a4, a5, some (.int (x + w)), a7, a8] st σ) : At y G b pc [a0, a1, a2, a3, a4, a5, some (.int x), a7, a8] st σ := by
  subst hp; subst hw
  intro g H locs la hP hS hL
  obtain ⟨j, hj⟩ := List.getElem?_of_mem ((al_mem [a0, a1, a2, a3, a4, a5, some (.int x), a7, a8] 0 6 (.int x)).mpr ⟨6, rfl, rfl⟩)
  exact lv_iinc g.1 g.2.1 hd hL.has hj rfl (by rw [hn]; decide) rfl (fun la2 h2 => k g H locs la2 hP hS (Lc.store1 ho h2))
theorem inc_9_7 (n : Nat) {a0 a1 a2 a3 a4 a5 a6 a8 : Option Value} {x w : Int32} {z : Int} (hd : decode (yC y) pc = .ok (.iinc 7 z, 3)) (hw : Int32.ofInt z = w) (hn : yL y = 9) (ho : okp [a0, a1, a2, a3, a4, a5, a6, some (.int x), a8] 7 = true) (hp : pc + 3 = n) (k : At y G b n [a0, a1, a2, a3, a4, a5, a6, some (.int (x + w)), a8] st σ) : At y G b pc [a0, a1, a2, a3, a4, a5, a6, some (.int x), a8] st σ := by
  subst hp; subst hw
  intro g H locs la hP hS hL
  obtain ⟨j, hj⟩ := List.getElem?_of_mem ((al_mem [a0, a1, a2, a3, a4, a5, a6, some (.int x), a8] 0 7 (.int x)).mpr ⟨7, rfl, rfl⟩)
  exact lv_iinc g.1 g.2.1 hd hL.has hj rfl (by rw [hn]; decide) rfl (fun la2 h2 => k g H locs la2 hP hS (Lc.store1 ho h2))
theorem inc_9_8 (n : Nat) {a0 a1 a2 a3 a4 a5 a6 a7 : Option Value} {x w : Int32} {z : Int} (hd : decode (yC y) pc = .ok (.iinc 8 z, 3)) (hw : Int32.ofInt z = w) (hn : yL y = 9) (ho : okp [a0, a1, a2, a3, a4, a5, a6, a7, some (.int x)] 8 = true) (hp : pc + 3 = n) (k : At y G b n [a0, a1, a2, a3, a4, a5, a6, a7, some (.int (x + w))] st σ) : At y G b pc [a0, a1, a2, a3, a4, a5, a6, a7, some (.int x)] st σ := by
  subst hp; subst hw
  intro g H locs la hP hS hL
  obtain ⟨j, hj⟩ := List.getElem?_of_mem ((al_mem [a0, a1, a2, a3, a4, a5, a6, a7, some (.int x)] 0 8 (.int x)).mpr ⟨8, rfl, rfl⟩)
  exact lv_iinc g.1 g.2.1 hd hL.has hj rfl (by rw [hn]; decide) rfl (fun la2 h2 => k g H locs la2 hP hS (Lc.store1 ho h2))
theorem inc_10_8 (n : Nat) {a0 a1 a2 a3 a4 a5 a6 a7 a9 : Option Value} {x w : Int32} {z : Int} (hd : decode (yC y) pc = .ok (.iinc 8 z, 3)) (hw : Int32.ofInt z = w) (hn : yL y = 10) (ho : okp [a0, a1, a2, a3, a4, a5, a6, a7, some (.int x), a9] 8 = true) (hp : pc + 3 = n) (k : At y G b n [a0, a1, a2, a3, a4, a5, a6, a7, some (.int (x + w)), a9] st σ) : At y G b pc [a0, a1, a2, a3, a4, a5, a6, a7, some (.int x), a9] st σ := by
  subst hp; subst hw
  intro g H locs la hP hS hL
  obtain ⟨j, hj⟩ := List.getElem?_of_mem ((al_mem [a0, a1, a2, a3, a4, a5, a6, a7, some (.int x), a9] 0 8 (.int x)).mpr ⟨8, rfl, rfl⟩)
  exact lv_iinc g.1 g.2.1 hd hL.has hj rfl (by rw [hn]; decide) rfl (fun la2 h2 => k g H locs la2 hP hS (Lc.store1 ho h2))
theorem inc_11_4 (n : Nat) {a0 a1 a2 a3 a5 a6 a7 a8 a9 a10 : Option Value} {x w : Int32} {z : Int} (hd : decode (yC y) pc = .ok (.iinc 4 z, 3)) (hw : Int32.ofInt z = w) (hn : yL y = 11) (ho : okp [a0, a1, a2, a3, some (.int x), a5, a6, a7, a8, a9, a10] 4 = true) (hp : pc + 3 = n) (k : At y G b n [a0, a1, a2, a3, some (.int (x + w)), a5, a6, a7, a8, a9, a10] st σ) : At y G b pc [a0, a1, a2, a3, some (.int x), a5, a6, a7, a8, a9, a10] st σ := by
  subst hp; subst hw
  intro g H locs la hP hS hL
  obtain ⟨j, hj⟩ := List.getElem?_of_mem ((al_mem [a0, a1, a2, a3, some (.int x), a5, a6, a7, a8, a9, a10] 0 4 (.int x)).mpr ⟨4, rfl, rfl⟩)
  exact lv_iinc g.1 g.2.1 hd hL.has hj rfl (by rw [hn]; decide) rfl (fun la2 h2 => k g H locs la2 hP hS (Lc.store1 ho h2))
theorem inc_11_10 (n : Nat) {a0 a1 a2 a3 a4 a5 a6 a7 a8 a9 : Option Value} {x w : Int32} {z : Int} (hd : decode (yC y) pc = .ok (.iinc 10 z, 3)) (hw : Int32.ofInt z = w) (hn : yL y = 11) (ho : okp [a0, a1, a2, a3, a4, a5, a6, a7, a8, a9, some (.int x)] 10 = true) (hp : pc + 3 = n) (k : At y G b n [a0, a1, a2, a3, a4, a5, a6, a7, a8, a9, some (.int (x + w))] st σ) : At y G b pc [a0, a1, a2, a3, a4, a5, a6, a7, a8, a9, some (.int x)] st σ := by
  subst hp; subst hw
  intro g H locs la hP hS hL
  obtain ⟨j, hj⟩ := List.getElem?_of_mem ((al_mem [a0, a1, a2, a3, a4, a5, a6, a7, a8, a9, some (.int x)] 0 10 (.int x)).mpr ⟨10, rfl, rfl⟩)
  exact lv_iinc g.1 g.2.1 hd hL.has hj rfl (by rw [hn]; decide) rfl (fun la2 h2 => k g H locs la2 hP hS (Lc.store1 ho h2))
theorem ild_1_0 (n : Nat) {x : Int32} (hd : decode (yC y) pc = .ok (.iload_n 0, 1)) (hp : pc + 1 = n) (k : At y G b n [some (.int x)] (.int x :: st) σ) : At y G b pc [some (.int x)] st σ := by
  subst hp
  intro g H locs la hP hS hL
  exact lv_iload_n g.1 g.2.1 hd rfl (hL.2.2 0 _ rfl) (k g H locs la hP hS hL)
theorem ild_2_0 (n : Nat) {a1 : Option Value} {x : Int32} (hd : decode (yC y) pc = .ok (.iload_n 0, 1)) (hp : pc + 1 = n) (k : At y G b n [some (.int x), a1] (.int x :: st) σ) : At y G b pc [some (.int x), a1] st σ := by
  subst hp
  intro g H locs la hP hS hL
  exact lv_iload_n g.1 g.2.1 hd rfl (hL.2.2 0 _ rfl) (k g H locs la hP hS hL)
theorem ild_2_1 (n : Nat) {a0 : Option Value} {x : Int32} (hd : decode (yC y) pc = .ok (.iload_n 1, 1)) (hp : pc + 1 = n) (k : At y G b n [a0, some (.int x)] (.int x :: st) σ) : At y G b pc [a0, some (.int x)] st σ := by
  subst hp
  intro g H locs la hP hS hL
  exact lv_iload_n g.1 g.2.1 hd rfl (hL.2.2 1 _ rfl) (k g H locs la hP hS hL)
theorem ild_3_0 (n : Nat) {a1 a2 : Option Value} {x : Int32} (hd : decode (yC y) pc = .ok (.iload_n 0, 1)) (hp : pc + 1 = n) (k : At y G b n [some (.int x), a1, a2] (.int x :: st) σ) : At y G b pc [some (.int x), a1, a2] st σ := by
  subst hp
  intro g H locs la hP hS hL
  exact lv_iload_n g.1 g.2.1 hd rfl (hL.2.2 0 _ rfl) (k g H locs la hP hS hL)
theorem ild_3_1 (n : Nat) {a0 a2 : Option Value} {x : Int32} (hd : decode (yC y) pc = .ok (.iload_n 1, 1)) (hp : pc + 1 = n) (k : At y G b n [a0, some (.int x), a2] (.int x :: st) σ) : At y G b pc [a0, some (.int x), a2] st σ := by
  subst hp
  intro g H locs la hP hS hL
  exact lv_iload_n g.1 g.2.1 hd rfl (hL.2.2 1 _ rfl) (k g H locs la hP hS hL)
theorem ild_3_2 (n : Nat) {a0 a1 : Option Value} {x : Int32} (hd : decode (yC y) pc = .ok (.iload_n 2, 1)) (hp : pc + 1 = n) (k : At y G b n [a0, a1, some (.int x)] (.int x :: st) σ) : At y G b pc [a0, a1, some (.int x)] st σ := by
  subst hp
  intro g H locs la hP hS hL
  exact lv_iload_n g.1 g.2.1 hd rfl (hL.2.2 2 _ rfl) (k g H locs la hP hS hL)
theorem ild_4_0 (n : Nat) {a1 a2 a3 : Option Value} {x : Int32} (hd : decode (yC y) pc = .ok (.iload_n 0, 1)) (hp : pc + 1 = n) (k : At y G b n [some (.int x), a1, a2, a3] (.int x :: st) σ) : At y G b pc [some (.int x), a1, a2, a3] st σ := by
  subst hp
  intro g H locs la hP hS hL
  exact lv_iload_n g.1 g.2.1 hd rfl (hL.2.2 0 _ rfl) (k g H locs la hP hS hL)
theorem ild_4_1 (n : Nat) {a0 a2 a3 : Option Value} {x : Int32} (hd : decode (yC y) pc = .ok (.iload_n 1, 1)) (hp : pc + 1 = n) (k : At y G b n [a0, some (.int x), a2, a3] (.int x :: st) σ) : At y G b pc [a0, some (.int x), a2, a3] st σ := by
  subst hp
  intro g H locs la hP hS hL
  exact lv_iload_n g.1 g.2.1 hd rfl (hL.2.2 1 _ rfl) (k g H locs la hP hS hL)
theorem ild_4_2 (n : Nat) {a0 a1 a3 : Option Value} {x : Int32} (hd : decode (yC y) pc = .ok (.iload_n 2, 1)) (hp : pc + 1 = n) (k : At y G b n [a0, a1, some (.int x), a3] (.int x :: st) σ) : At y G b pc [a0, a1, some (.int x), a3] st σ := by
  subst hp
  intro g H locs la hP hS hL
  exact lv_iload_n g.1 g.2.1 hd rfl (hL.2.2 2 _ rfl) (k g H locs la hP hS hL)
theorem ild_4_3 (n : Nat) {a0 a1 a2 : Option Value} {x : Int32} (hd : decode (yC y) pc = .ok (.iload_n 3, 1)) (hp : pc + 1 = n) (k : At y G b n [a0, a1, a2, some (.int x)] (.int x :: st) σ) : At y G b pc [a0, a1, a2, some (.int x)] st σ := by
  subst hp
  intro g H locs la hP hS hL
  exact lv_iload_n g.1 g.2.1 hd rfl (hL.2.2 3 _ rfl) (k g H locs la hP hS hL)
theorem ild_5_1 (n : Nat) {a0 a2 a3 a4 : Option Value} {x : Int32} (hd : decode (yC y) pc = .ok (.iload_n 1, 1)) (hp : pc + 1 = n) (k : At y G b n [a0, some (.int x), a2, a3, a4] (.int x :: st) σ) : At y G b pc [a0, some (.int x), a2, a3, a4] st σ := by
  subst hp
  intro g H locs la hP hS hL
  exact lv_iload_n g.1 g.2.1 hd rfl (hL.2.2 1 _ rfl) (k g H locs la hP hS hL)
theorem ild_5_2 (n : Nat) {a0 a1 a3 a4 : Option Value} {x : Int32} (hd : decode (yC y) pc = .ok (.iload_n 2, 1)) (hp : pc + 1 = n) (k : At y G b n [a0, a1, some (.int x), a3, a4] (.int x :: st) σ) : At y G b pc [a0, a1, some (.int x), a3, a4] st σ := by
  subst hp
  intro g H locs la hP hS hL
  exact lv_iload_n g.1 g.2.1 hd rfl (hL.2.2 2 _ rfl) (k g H locs la hP hS hL)
theorem ild_5_3 (n : Nat) {a0 a1 a2 a4 : Option Value} {x : Int32} (hd : decode (yC y) pc = .ok (.iload_n 3, 1)) (hp : pc + 1 = n) (k : At y G b n [a0, a1, a2, some (.int x), a4] (.int x :: st) σ) : At y G b pc [a0, a1, a2, some (.int x), a4] st σ := by
  subst hp
  intro g H locs la hP hS hL
  exact lv_iload_n g.1 g.2.1 hd rfl (hL.2.2 3 _ rfl) (k g H locs la hP hS hL)
theorem ild_5_4 (n : Nat) {a0 a1 a2 a3 : Option Value} {x : Int32} (hd : decode (yC y) pc = .ok (.iload 4, 2)) (hp : pc + 2 = n) (k : At y G b n [a0, a1, a2, a3, some (.int x)] (.int x :: st) σ) : At y G b pc [a0, a1, a2, a3, some (.int x)] st σ := by
  subst hp
  intro g H locs la hP hS hL
  exact lv_iload g.1 g.2.1 hd (hL.2.2 4 _ rfl) (k g H locs la hP hS hL)
theorem ild_6_1 (n : Nat) {a0 a2 a3 a4 a5 : Option Value} {x : Int32} (hd : decode (yC y) pc = .ok (.iload_n 1, 1)) (hp : pc + 1 = n) (k : At y G b n [a0, some (.int x), a2, a3, a4, a5] (.int x :: st) σ) : At y G b pc [a0, some (.int x), a2, a3, a4, a5] st σ := by
  subst hp
  intro g H locs la hP hS hL
  exact lv_iload_n g.1 g.2.1 hd rfl (hL.2.2 1 _ rfl) (k g H locs la hP hS hL)
theorem ild_6_2 (n : Nat) {a0 a1 a3 a4 a5 : Option Value} {x : Int32} (hd : decode (yC y) pc = .ok (.iload_n 2, 1)) (hp : pc + 1 = n) (k : At y G b n [a0, a1, some (.int x), a3, a4, a5] (.int x :: st) σ) : At y G b pc [a0, a1, some (.int x), a3, a4, a5] st σ := by
  subst hp
  intro g H locs la hP hS hL
  exact lv_iload_n g.1 g.2.1 hd rfl (hL.2.2 2 _ rfl) (k g H locs la hP hS hL)
theorem ild_6_3 (n : Nat) {a0 a1 a2 a4 a5 : Option Value} {x : Int32} (hd : decode (yC y) pc = .ok (.iload_n 3, 1)) (hp : pc + 1 = n) (k : At y G b n [a0, a1, a2, some (.int x), a4, a5] (.int x :: st) σ) : At y G b pc [a0, a1, a2, some (.int x), a4, a5] st σ := by
  subst hp
  intro g H locs la hP hS hL
  exact lv_iload_n g.1 g.2.1 hd rfl (hL.2.2 3 _ rfl) (k g H locs la hP hS hL)
theorem ild_6_4 (n : Nat) {a0 a1 a2 a3 a5 : Option Value} {x : Int32} (hd : decode (yC y) pc = .ok (.iload 4, 2)) (hp : pc + 2 = n) (k : At y G b n [a0, a1, a2, a3, some (.int x), a5] (.int x :: st) σ) : At y G b pc [a0, a1, a2, a3, some (.int x), a5] st σ := by
  subst hp
  intro g H locs la hP hS hL
  exact lv_iload g.1 g.2.1 hd (hL.2.2 4 _ rfl) (k g H locs la hP hS hL)
theorem ild_6_5 (n : Nat) {a0 a1 a2 a3 a4 : Option Value} {x : Int32} (hd : decode (yC y) pc = .ok (.iload 5, 2)) (hp : pc + 2 = n) (k : At y G b n [a0, a1, a2, a3, a4, some (.int x)] (.int x :: st) σ) : At y G b pc [a0, a1, a2, a3, a4, some (.int x)] st σ := by
  subst hp
  intro g H locs la hP hS hL
  exact lv_iload g.1 g.2.1 hd (hL.2.2 5 _ rfl) (k g H locs la hP hS hL)
theorem ild_7_1 (n : Nat) {a0 a2 a3 a4 a5 a6 : Option Value} {x : Int32} (hd : decode (yC y) pc = .ok (.iload_n 1, 1)) (hp : pc + 1 = n) (k : At y G b n [a0, some (.int x), a2, a3, a4, a5, a6] (.int x :: st) σ) : At y G b pc [a0, some (.int x), a2, a3, a4, a5, a6] st σ := by
  subst hp
  intro g H locs la hP hS hL
  exact lv_iload_n g.1 g.2.1 hd rfl (hL.2.2 1 _ rfl) (k g H locs la hP hS hL)
theorem ild_7_2 (n : Nat) {a0 a1 a3 a4 a5 a6 : Option Value} {x : Int32} (hd : decode (yC y) pc = .ok (.iload_n 2, 1)) (hp : pc + 1 = n) (k : At y G b n [a0, a1, some (.int x), a3, a4, a5, a6] (.int x :: st) σ) : At y G b pc [a0, a1, some (.int x), a3, a4, a5, a6] st σ := by
  subst hp
  intro g H locs la hP hS hL
  exact lv_iload_n g.1 g.2.1 hd rfl (hL.2.2 2 _ rfl) (k g H locs la hP hS hL)
theorem ild_7_3 (n : Nat) {a0 a1 a2 a4 a5 a6 : Option Value} {x : Int32} (hd : decode (yC y) pc = .ok (.iload_n 3, 1)) (hp : pc + 1 = n) (k : At y G b n [a0, a1, a2, some (.int x), a4, a5, a6] (.int x :: st) σ) : At y G b pc [a0, a1, a2, some (.int x), a4, a5, a6] st σ := by
  subst hp
  intro g H locs la hP hS hL
  exact lv_iload_n g.1 g.2.1 hd rfl (hL.2.2 3 _ rfl) (k g H locs la hP hS hL)
theorem ild_7_4 (n : Nat) {a0 a1 a2 a3 a5 a6 : Option Value} {x : Int32} (hd : decode (yC y) pc = .ok (.iload 4, 2)) (hp : pc + 2 = n) (k : At y G b n [a0, a1, a2, a3, some (.int x), a5, a6] (.int x :: st) σ) : At y G b pc [a0, a1, a2, a3, some (.int x), a5, a6] st σ := by
  subst hp
  intro g H locs la hP hS hL
  exact lv_iload g.1 g.2.1 hd (hL.2.2 4 _ rfl) (k g H locs la hP hS hL)
theorem ild_7_5 (n : Nat) {a0 a1 a2 a3 a4 a6 : Option Value} {x : Int32} (hd : decode (yC y) pc = .ok (.iload 5, 2)) (hp : pc + 2 = n) (k : At y G b n [a0, a1, a2, a3, a4, some (.int x), a6] (.int x :: st) σ) : At y G b pc [a0, a1, a2, a3, a4, some (.int x), a6] st σ := by
  subst hp
  intro g H locs la hP hS hL
  exact lv_iload g.1 g.2.1 hd (hL.2.2 5 _ rfl) (k g H locs la hP hS hL)
theorem ild_7_6 (n : Nat) {a0 a1 a2 a3 a4 a5 : Option Value} {x : Int32} (hd : decode (yC y) pc = .ok (.iload 6, 2)) (hp : pc + 2 = n) (k : At y G b n [a0, a1, a2, a3, a4, a5, some (.int x)] (.int x :: st) σ) : At y G b pc [a0, a1, a2, a3, a4, a5, some (.int x)] st σ := by
  subst hp
  intro g H locs la hP hS hL
  exact lv_iload g.1 g.2.1 hd (hL.2.2 6 _ rfl) (k g H locs la hP hS hL)
theorem ild_8_1 (n : Nat) {a0 a2 a3 a4 a5 a6 a7 : Option Value} {x : Int32} (hd : decode (yC y) pc = .ok (.iload_n 1, 1)) (hp : pc + 1 = n) (k : At y G b n [a0, some (.int x), a2, a3, a4, a5, a6, a7] (.int x :: st) σ) : At y G b pc [a0, some (.int x), a2, a3, a4, a5, a6, a7] st σ := by
  subst hp
  intro g H locs la hP hS hL
  exact lv_iload_n g.1 g.2.1 hd rfl (hL.2.2 1 _ rfl) (k g H locs la hP hS hL)
theorem ild_8_2 (n : Nat) {a0 a1 a3 a4 a5 a6 a7 : Option Value} {x : Int32} (hd : decode (yC y) pc = .ok (.iload_n 2, 1)) (hp : pc + 1 = n) (k : At y G b n [a0, a1, some (.int x), a3, a4, a5, a6, a7] (.int x :: st) σ) : At y G b pc [a0, a1, some (.int x), a3, a4, a5, a6, a7] st σ := by
  subst hp
  intro g H locs la hP hS hL
  exact lv_iload_n g.1 g.2.1 hd rfl (hL.2.2 2 _ rfl) (k g H locs la hP hS hL)
theorem ild_8_3 (n : Nat) {a0 a1 a2 a4 a5 a6 a7 : Option Value} {x : Int32} (hd : decode (yC y) pc = .ok (.iload_n 3, 1)) (hp : pc + 1 = n) (k : At y G b n [a0, a1, a2, some (.int x), a4, a5, a6, a7] (.int x :: st) σ) : At y G b pc [a0, a1, a2, some (.int x), a4, a5, a6, a7] st σ := by
  subst hp
  intro g H locs la hP hS hL
  exact lv_iload_n g.1 g.2.1 hd rfl (hL.2.2 3 _ rfl) (k g H locs la hP hS hL)
theorem ild_8_4 (n : Nat) {a0 a1 a2 a3 a5 a6 a7 : Option Value} {x : Int32} (hd : decode (yC y) pc = .ok (.iload 4, 2)) (hp : pc + 2 = n) (k : At y G b n [a0, a1, a2, a3, some (.int x), a5, a6, a7] (.int x :: st) σ) : At y G b pc [a0, a1, a2, a3, some (.int x), a5, a6, a7] st σ := by
  subst hp
  intro g H locs la hP hS hL
  exact lv_iload g.1 g.2.1 hd (hL.2.2 4 _ rfl) (k g H locs la hP hS hL)
theorem ild_8_5 (n : Nat) {a0 a1 a2 a3 a4 a6 a7 : Option Value} {x : Int32} (hd : decode (yC y) pc = .ok (.iload 5, 2)) (hp : pc + 2 = n) (k : At y G b n [a0, a1, a2, a3, a4, some (.int x), a6, a7] (.int x :: st) σ) : At y G b pc [a0, a1, a2, a3, a4, some (.int x), a6, a7] st σ := by
  subst hp
  intro g H locs la hP hS hL
  exact lv_iload g.1 g.2.1 hd (hL.2.2 5 _ rfl) (k g H locs la hP hS hL)
theorem ild_8_6 (n : Nat) {a0 a1 a2 a3 a4 a5 a7 : Option Value} {x : Int32} (hd : decode (yC y) pc = .ok (.iload 6, 2)) (hp : pc + 2 = n) (k : At y G b n [a0, a1, a2, a3, a4, a5, some (.int x), a7] (.int x :: st) σ) : At y G b pc [a0, a1, a2, a3, a4, a5, some (.int x), a7] st σ := by
  subst hp
  intro g H locs la hP hS hL
  exact lv_iload g.1 g.2.1 hd (hL.2.2 6 _ rfl) (k g H locs la hP hS hL)
theorem ild_8_7 (n : Nat) {a0 a1 a2 a3 a4 a5 a6 : Option Value} {x : Int32} (hd : decode (yC y) pc = .ok (.iload 7, 2)) (hp : pc + 2 = n) (k : At y G b n [a0, a1, a2, a3, a4, a5, a6, some (.int x)] (.int x :: st) σ) : At y G b pc [a0, a1, a2, a3, a4, a5, a6, some (.int x)] st σ := by
  subst hp
  intro g H locs la hP hS hL
  exact lv_iload g.1 g.2.1 hd (hL.2.2 7 _ rfl) (k g H locs la hP hS hL)
theorem ild_9_1 (n : Nat) {a0 a2 a3 a4 a5 a6 a7 a8 : Option Value} {x : Int32} (hd : decode (yC y) pc = .ok (.iload_n 1, 1)) (hp : pc + 1 = n) (k : At y G b n [a0, some (.int x), a2, a3, a4, a5, a6, a7, a8] (.int x :: st) σ) : At y G b pc [a0, some (.int x), a2, a3, a4, a5, a6, a7, a8] st σ := by
  subst hp
  intro g H locs la hP hS hL
  exact lv_iload_n g.1 g.2.1 hd rfl (hL.2.2 1 _ rfl) (k g H locs la hP hS hL)
theorem ild_9_2 (n : Nat) {a0 a1 a3 a4 a5 a6 a7 a8 : Option Value} {x : Int32} (hd : decode (yC y) pc = .ok (.iload_n 2, 1)) (hp : pc + 1 = n) (k : At y G b n [a0, a1, some (.int x), a3, a4, a5, a6, a7, a8] (.int x :: st) σ) : At y G b pc [a0, a1, some (.int x), a3, a4, a5, a6, a7, a8] st σ := by
  subst hp
  intro g H locs la hP hS hL
  exact lv_iload_n g.1 g.2.1 hd rfl (hL.2.2 2 _ rfl) (k g H locs la hP hS hL)
theorem ild_9_3 (n : Nat) {a0 a1 a2 a4 a5 a6 a7 a8 : Option Value} {x : Int32} (hd : decode (yC y) pc = .ok (.iload_n 3, 1)) (hp : pc + 1 = n) (k : At y G b n [a0, a1, a2, some (.int x), a4, a5, a6, a7, a8] (.int x :: st) σ) : At y G b pc [a0, a1, a2, some (.int x), a4, a5, a6, a7, a8] st σ := by
  subst hp
  intro g H locs la hP hS hL
  exact lv_iload_n g.1 g.2.1 hd rfl (hL.2.2 3 _ rfl) (k g H locs la hP hS hL)
theorem ild_9_4 (n : Nat) {a0 a1 a2 a3 a5 a6 a7 a8 : Option Value} {x : Int32} (hd : decode (yC y) pc = .ok (.iload 4, 2)) (hp : pc + 2 = n) (k : At y G b n [a0, a1, a2, a3, some (.int x), a5, a6, a7, a8] (.int x :: st) σ) : At y G b pc [a0, a1, a2, a3, some (.int x), a5, a6, a7, a8] st σ := by
  subst hp
  intro g H locs la hP hS hL
  exact lv_iload g.1 g.2.1 hd (hL.2.2 4 _ rfl) (k g H locs la hP hS hL)
theorem ild_9_5 (n : Nat) {a0 a1 a2 a3 a4 a6 a7 a8 : Option Value} {x : Int32} (hd : decode (yC y) pc = .ok (.iload 5, 2)) (hp : pc + 2 = n) (k : At y G b n [a0, a1, a2, a3, a4, some (.int x), a6, a7, a8] (.int x :: st) σ) : At y G b pc [a0, a1, a2, a3, a4, some (.int x), a6, a7, a8] st σ := by
  subst hp
  intro g H locs la hP hS hL
  exact lv_iload g.1 g.2.1 hd (hL.2.2 5 _ rfl) (k g H locs la hP hS hL)
theorem ild_9_6 (n : Nat) {a0 a1 a2 a3 a4 a5 a7 a8 : Option Value} {x : Int32} (hd : decode (yC y) pc = .ok (.iload 6, 2)) (hp : pc + 2 = n) (k : At y G b n [a0, a1, a2, a3, a4, a5, some (.int x), a7, a8] (.int x :: st) σ) : At y G b pc [a0, a1, a2, a3, a4, a5, some (.int x), a7, a8] st σ := by
  subst hp
  intro g H locs la hP hS hL
  exact lv_iload g.1 g.2.1 hd (hL.2.2 6 _ rfl) (k g H locs la hP hS hL)
theorem ild_9_7 (n : Nat) {a0 a1 a2 a3 a4 a5 a6 a8 : Option Value} {x : Int32} (hd : decode (yC y) pc = .ok (.iload 7, 2)) (hp : pc + 2 = n) (k : At y G b n [a0, a1, a2, a3, a4, a5, a6, some (.int x), a8] (.int x :: st) σ) : At y G b pc [a0, a1, a2, a3, a4, a5, a6, some (.int x), a8] st σ := by
  subst hp
  intro g H locs la hP hS hL
  exact lv_iload g.1 g.2.1 hd (hL.2.2 7 _ rfl) (k g H locs la hP hS hL)
theorem ild_9_8 (n : Nat) {a0 a1 a2 a3 a4 a5 a6 a7 : Option Value} {x : Int32} (hd : decode (yC y) pc = .ok (.iload 8, 2)) (hp : pc + 2 = n) (k : At y G b n [a0, a1, a2, a3, a4, a5, a6, a7, some (.int x)] (.int x :: st) σ) : At y G b pc [a0, a1, a2, a3, a4, a5, a6, a7, some (.int x)] st σ := by
  subst hp
  intro g H locs la hP hS hL
  exact lv_iload g.1 g.2.1 hd (hL.2.2 8 _ rfl) (k g H locs la hP hS hL)
theorem ild_10_1 (n : Nat) {a0 a2 a3 a4 a5 a6 a7 a8 a9 : Option Value} {x : Int32} (hd : decode (yC y) pc = .ok (.iload_n 1, 1)) (hp : pc + 1 = n) (k : At y G b n [a0, some (.int x), a2, a3, a4, a5, a6, a7, a8, a9] (.int x :: st) σ) : At y G b pc [a0, some (.int x), a2, a3, a4, a5, a6, a7, a8, a9] st σ := by
  subst hp
  intro g H locs la hP hS hL
  exact lv_iload_n g.1 g.2.1 hd rfl (hL.2.2 1 _ rfl) (k g H locs la hP hS hL)
theorem ild_10_2 (n : Nat) {a0 a1 a3 a4 a5 a6 a7 a8 a9 : Option Value} {x : Int32} (hd : decode (yC y) pc = .ok (.iload_n 2, 1)) (hp : pc + 1 = n) (k : At y G b n [a0, a1, some (.int x), a3, a4, a5, a6, a7, a8, a9] (.int x :: st) σ) : At y G b pc [a0, a1, some (.int x), a3, a4, a5, a6, a7, a8, a9] st σ := by
  subst hp
  intro g H locs la hP hS hL
  exact lv_iload_n g.1 g.2.1 hd rfl (hL.2.2 2 _ rfl) (k g H locs la hP hS hL)
theorem ild_10_3 (n : Nat) {a0 a1 a2 a4 a5 a6 a7 a8 a9 : Option Value} {x : Int32} (hd : decode (yC y) pc = .ok (.iload_n 3, 1)) (hp : pc + 1 = n) (k : At y G b n [a0, a1, a2, some (.int x), a4, a5, a6, a7, a8, a9] (.int x :: st) σ) : At y G b pc [a0, a1, a2, some (.int x), a4, a5, a6, a7, a8, a9] st σ := by
  subst hp
  intro g H locs la hP hS hL
  exact lv_iload_n g.1 g.2.1 hd rfl (hL.2.2 3 _ rfl) (k g H locs la hP hS hL)
theorem ild_10_4 (n : Nat) {a0 a1 a2 a3 a5 a6 a7 a8 a9 : Option Value} {x : Int32} (hd : decode (yC y) pc = .ok (.iload 4, 2)) (hp : pc + 2 = n) (k : At y G b n [a0, a1, a2, a3, some (.int x), a5, a6, a7, a8, a9] (.int x :: st) σ) : At y G b pc [a0, a1, a2, a3, some (.int x), a5, a6, a7, a8, a9] st σ := by
  subst hp
  intro g H locs la hP hS hL
  exact lv_iload g.1 g.2.1 hd (hL.2.2 4 _ rfl) (k g H locs la hP hS hL)
theorem ild_10_5 (n : Nat) {a0 a1 a2 a3 a4 a6 a7 a8 a9 : Option Value} {x : Int32} (hd : decode (yC y) pc = .ok (.iload 5, 2)) (hp : pc + 2 = n) (k : At y G b n [a0, a1, a2, a3, a4, some (.int x), a6, a7, a8, a9] (.int x :: st) σ) : At y G b pc [a0, a1, a2, a3, a4, some (.int x), a6, a7, a8, a9] st σ := by
  subst hp
  intro g H locs la hP hS hL
  exact lv_iload g.1 g.2.1 hd (hL.2.2 5 _ rfl) (k g H locs la hP hS hL)
theorem ild_10_6 (n : Nat) {a0 a1 a2 a3 a4 a5 a7 a8 a9 : Option Value} {x : Int32} (hd : decode (yC y) pc = .ok (.iload 6, 2)) (hp : pc + 2 = n) (k : At y G b n [a0, a1, a2, a3, a4, a5, some (.int x), a7, a8, a9] (.int x :: st) σ) : At y G b pc [a0, a1, a2, a3, a4, a5, some (.int x), a7, a8, a9] st σ := by
  subst hp
  intro g H locs la hP hS hL
  exact lv_iload g.1 g.2.1 hd (hL.2.2 6 _ rfl) (k g H locs la hP hS hL)
theorem ild_10_7 (n : Nat) {a0 a1 a2 a3 a4 a5 a6 a8 a9 : Option Value} {x : Int32} (hd : decode (yC y) pc = .ok (.iload 7, 2)) (hp : pc + 2 = n) (k : At y G b n [a0, a1, a2, a3, a4, a5, a6, some (.int x), a8, a9] (.int x :: st) σ) : At y G b pc [a0, a1, a2, a3, a4, a5, a6, some (.int x), a8, a9] st σ := by
  subst hp
  intro g H locs la hP hS hL
  exact lv_iload g.1 g.2.1 hd (hL.2.2 7 _ rfl) (k g H locs la hP hS hL)
theorem ild_10_8 (n : Nat) {a0 a1 a2 a3 a4 a5 a6 a7 a9 : Option Value} {x : Int32} (hd : decode (yC y) pc = .ok (.iload 8, 2)) (hp : pc + 2 = n) (k : At y G b n [a0, a1, a2, a3, a4, a5, a6, a7, some (.int x), a9] (.int x :: st) σ) : At y G b pc [a0, a1, a2, a3, a4, a5, a6, a7, some (.int x), a9] st σ := by
  subst hp
  intro g H locs la hP hS hL
  exact lv_iload g.1 g.2.1 hd (hL.2.2 8 _ rfl) (k g H locs la hP hS hL)
theorem ild_10_9 (n : Nat) {a0 a1 a2 a3 a4 a5 a6 a7 a8 : Option Value} {x : Int32} (hd : decode (yC y) pc = .ok (.iload 9, 2)) (hp : pc + 2 = n) (k : At y G b n [a0, a1, a2, a3, a4, a5, a6, a7, a8, some (.int x)] (.int x :: st) σ) : At y G b pc [a0, a1, a2, a3, a4, a5, a6, a7, a8, some (.int x)] st σ := by
  subst hp
  intro g H locs la hP hS hL
  exact lv_iload g.1 g.2.1 hd (hL.2.2 9 _ rfl) (k g H locs la hP hS hL)
theorem ild_11_1 (n : Nat) {a0 a2 a3 a4 a5 a6 a7 a8 a9 a10 : Option Value} {x : Int32} (hd : decode (yC y) pc = .ok (.iload_n 1, 1)) (hp : pc + 1 = n) (k : At y G b n [a0, some (.int x), a2, a3, a4, a5, a6, a7, a8, a9, a10] (.int x :: st) σ) : At y G b pc [a0, some (.int x), a2, a3, a4, a5, a6, a7, a8, a9, a10] st σ := by
  subst hp
  intro g H locs la hP hS hL
  exact lv_iload_n g.1 g.2.1 hd rfl (hL.2.2 1 _ rfl) (k g H locs la hP hS hL)
theorem ild_11_2 (n : Nat) {a0 a1 a3 a4 a5 a6 a7 a8 a9 a10 : Option Value} {x : Int32} (hd : decode (yC y) pc = .ok (.iload_n 2, 1)) (hp : pc + 1 = n) (k : At y G b n [a0, a1, some (.int x), a3, a4, a5, a6, a7, a8, a9, a10] (.int x :: st) σ) : At y G b pc [a0, a1, some (.int x), a3, a4, a5, a6, a7, a8, a9, a10] st σ := by
  subst hp
  intro g H locs la hP hS hL
  exact lv_iload_n g.1 g.2.1 hd rfl (hL.2.2 2 _ rfl) (k g H locs la hP hS hL)
theorem ild_11_3 (n : Nat) {a0 a1 a2 a4 a5 a6 a7 a8 a9 a10 : Option Value} {x : Int32} (hd : decode (yC y) pc = .ok (.iload_n 3, 1)) (hp : pc + 1 = n) (k : At y G b n [a0, a1, a2, some (.int x), a4, a5, a6, a7, a8, a9, a10] (.int x :: st) σ) : At y G b pc [a0, a1, a2, some (.int x), a4, a5, a6, a7, a8, a9, a10] st σ := by
  subst hp
  intro g H locs la hP hS hL
  exact lv_iload_n g.1 g.2.1 hd rfl (hL.2.2 3 _ rfl) (k g H locs la hP hS hL)
theorem ild_11_4 (n : Nat) {a0 a1 a2 a3 a5 a6 a7 a8 a9 a10 : Option Value} {x : Int32} (hd : decode (yC y) pc = .ok (.iload 4, 2)) (hp : pc + 2 = n) (k : At y G b n [a0, a1, a2, a3, some (.int x), a5, a6, a7, a8, a9, a10] (.int x :: st) σ) : At y G b pc [a0, a1, a2, a3, some (.int x), a5, a6, a7, a8, a9, a10] st σ := by
  subst hp
  intro g H locs la hP hS hL
  exact lv_iload g.1 g.2.1 hd (hL.2.2 4 _ rfl) (k g H locs la hP hS hL)
theorem ild_11_5 (n : Nat) {a0 a1 a2 a3 a4 a6 a7 a8 a9 a10 : Option Value} {x : Int32} (hd : decode (yC y) pc = .ok (.iload 5, 2)) (hp : pc + 2 = n) (k : At y G b n [a0, a1, a2, a3, a4, some (.int x), a6, a7, a8, a9, a10] (.int x :: st) σ) : At y G b pc [a0, a1, a2, a3, a4, some (.int x), a6, a7, a8, a9, a10] st σ := by
  subst hp
  intro g H locs la hP hS hL
  exact lv_iload g.1 g.2.1 hd (hL.2.2 5 _ rfl) (k g H locs la hP hS hL)
theorem ild_11_6 (n : Nat) {a0 a1 a2 a3 a4 a5 a7 a8 a9 a10 : Option Value} {x : Int32} (hd : decode (yC y) pc = .ok (.iload 6, 2)) (hp : pc + 2 = n) (k : At y G b n [a0, a1, a2, a3, a4, a5, some (.int x), a7, a8, a9, a10] (.int x :: st) σ) : At y G b pc [a0, a1, a2, a3, a4, a5, some (.int x), a7, a8, a9, a10] st σ := by
  subst hp
  intro g H locs la hP hS hL
  exact lv_iload g.1 g.2.1 hd (hL.2.2 6 _ rfl) (k g H locs la hP hS hL)
theorem ild_11_7 (n : Nat) {a0 a1 a2 a3 a4 a5 a6 a8 a9 a10 : Option Value} {x : Int32} (hd : decode (yC y) pc = .ok (.iload 7, 2)) (hp : pc + 2 = n) (k : At y G b n [a0, a1, a2, a3, a4, a5, a6, some (.int x), a8, a9, a10] (.int x :: st) σ) : At y G b pc [a0, a1, a2, a3, a4, a5, a6, some (.int x), a8, a9, a10] st σ := by
  subst hp
  intro g H locs la hP hS hL
  exact lv_iload g.1 g.2.1 hd (hL.2.2 7 _ rfl) (k g H locs la hP hS hL)
theorem ild_11_8 (n : Nat) {a0 a1 a2 a3 a4 a5 a6 a7 a9 a10 : Option Value} {x : Int32} (hd : decode (yC y) pc = .ok (.iload 8, 2)) (hp : pc + 2 = n) (k : At y G b n [a0, a1, a2, a3, a4, a5, a6, a7, some (.int x), a9, a10] (.int x :: st) σ) : At y G b pc [a0, a1, a2, a3, a4, a5, a6, a7, some (.int x), a9, a10] st σ := by
  subst hp
  intro g H locs la hP hS hL
  exact lv_iload g.1 g.2.1 hd (hL.2.2 8 _ rfl) (k g H locs la hP hS hL)
theorem ild_11_9 (n : Nat) {a0 a1 a2 a3 a4 a5 a6 a7 a8 a10 : Option Value} {x : Int32} (hd : decode (yC y) pc = .ok (.iload 9, 2)) (hp : pc + 2 = n) (k : At y G b n [a0, a1, a2, a3, a4, a5, a6, a7, a8, some (.int x), a10] (.int x :: st) σ) : At y G b pc [a0, a1, a2, a3, a4, a5, a6, a7, a8, some (.int x), a10] st σ := by
  subst hp
  intro g H locs la hP hS hL
  exact lv_iload g.1 g.2.1 hd (hL.2.2 9 _ rfl) (k g H locs la hP hS hL)
theorem ild_11_10 (n : Nat) {a0 a1 a2 a3 a4 a5 a6 a7 a8 a9 : Option Value} {x : Int32} (hd : decode (yC y) pc = .ok (.iload 10, 2)) (hp : pc + 2 = n) (k : At y G b n [a0, a1, a2, a3, a4, a5, a6, a7, a8, a9, some (.int x)] (.int x :: st) σ) : At y G b pc [a0, a1, a2, a3, a4, a5, a6, a7, a8, a9, some (.int x)] st σ := by
  subst hp
  intro g H locs la hP hS hL
  exact lv_iload g.1 g.2.1 hd (hL.2.2 10 _ rfl) (k g H locs la hP hS hL)
theorem ist_1_0 (n : Nat) {a0 : Option Value} {x : Int32} (hd : decode (yC y) pc = .ok (.istore_n 0, 1)) (hn : yL y = 1) (ho : okp [a0] 0 = true) (hp : pc + 1 = n) (k : At y G b n [some (.int x)] st σ) : At y G b pc [a0] (.int x :: st) σ := by
  subst hp
  intro g H locs la hP hS hL
  exact lv_istore_n g.1 g.2.1 hd rfl hL.has (by rw [hn]; decide) rfl (fun la2 h2 => k g H locs la2 hP hS (Lc.store1 ho h2))
theorem ist_2_0 (n : Nat) {a0 a1 : Option Value} {x : Int32} (hd : decode (yC y) pc = .ok (.istore_n 0, 1)) (hn : yL y = 2) (ho : okp [a0, a1] 0 = true) (hp : pc + 1 = n) (k : At y G b n [some (.int x), a1] st σ) : At y G b pc [a0, a1] (.int x :: st) σ := by
  subst hp
  intro g H locs la hP hS hL
  exact lv_istore_n g.1 g.2.1 hd rfl hL.has (by rw [hn]; decide) rfl (fun la2 h2 => k g H locs la2 hP hS (Lc.store1 ho h2))
theorem ist_2_1 (n : Nat) {a0 a1 : Option Value} {x : Int32} (hd : decode (yC y) pc = .ok (.istore_n 1, 1)) (hn : yL y = 2) (ho : okp [a0, a1] 1 = true) (hp : pc + 1 = n) (k : At y G b n [a0, some (.int x)] st σ) : At y G b pc [a0, a1] (.int x :: st) σ := by
  subst hp
  intro g H locs la hP hS hL
  exact lv_istore_n g.1 g.2.1 hd rfl hL.has (by rw [hn]; decide) rfl (fun la2 h2 => k g H locs la2 hP hS (Lc.store1 ho h2))
theorem ist_3_1 (n : Nat) {a0 a1 a2 : Option Value} {x : Int32} (hd : decode (yC y) pc = .ok (.istore_n 1, 1)) (hn : yL y = 3) (ho : okp [a0, a1, a2] 1 = true) (hp : pc + 1 = n) (k : At y G b n [a0, some (.int x), a2] st σ) : At y G b pc [a0, a1, a2] (.int x :: st) σ := by
  subst hp
  intro g H locs la hP hS hL
  exact lv_istore_n g.1 g.2.1 hd rfl hL.has (by rw [hn]; decide) rfl (fun la2 h2 => k g H locs la2 hP hS (Lc.store1 ho h2))
theorem ist_3_2 (n : Nat) {a0 a1 a2 : Option Value} {x : Int32} (hd : decode (yC y) pc = .ok (.istore_n 2, 1)) (hn : yL y = 3) (ho : okp [a0, a1, a2] 2 = true) (hp : pc + 1 = n) (k : At y G b n [a0, a1, some (.int x)] st σ) : At y G b pc [a0, a1, a2] (.int x :: st) σ := by
  subst hp
  intro g H locs la hP hS hL
  exact lv_istore_n g.1 g.2.1 hd rfl hL.has (by rw [hn]; decide) rfl (fun la2 h2 => k g H locs la2 hP hS (Lc.store1 ho h2))
theorem ist_4_1 (n : Nat) {a0 a1 a2 a3 : Option Value} {x : Int32} (hd : decode (yC y) pc = .ok (.istore_n 1, 1)) (hn : yL y = 4) (ho : okp [a0, a1, a2, a3] 1 = true) (hp : pc + 1 = n) (k : At y G b n [a0, some (.int x), a2, a3] st σ) : At y G b pc [a0, a1, a2, a3] (.int x :: st) σ := by
  subst hp
  intro g H locs la hP hS hL
  exact lv_istore_n g.1 g.2.1 hd rfl hL.has (by rw [hn]; decide) rfl (fun la2 h2 => k g H locs la2 hP hS (Lc.store1 ho h2))
theorem ist_4_2 (n : Nat) {a0 a1 a2 a3 : Option Value} {x : Int32} (hd : decode (yC y) pc = .ok (.istore_n 2, 1)) (hn : yL y = 4) (ho : okp [a0, a1, a2, a3] 2 = true) (hp : pc + 1 = n) (k : At y G b n [a0, a1, some (.int x), a3] st σ) : At y G b pc [a0, a1, a2, a3] (.int x :: st) σ := by
  subst hp
  intro g H locs la hP hS hL
  exact lv_istore_n g.1 g.2.1 hd rfl hL.has (by rw [hn]; decide) rfl (fun la2 h2 => k g H locs la2 hP hS (Lc.store1 ho h2))
theorem ist_4_3 (n : Nat) {a0 a1 a2 a3 : Option Value} {x : Int32} (hd : decode (yC y) pc = .ok (.istore_n 3, 1)) (hn : yL y = 4) (ho : okp [a0, a1, a2, a3] 3 = true) (hp : pc + 1 = n) (k : At y G b n [a0, a1, a2, some (.int x)] st σ) : At y G b pc [a0, a1, a2, a3] (.int x :: st) σ := by
  subst hp
  intro g H locs la hP hS hL
  exact lv_istore_n g.1 g.2.1 hd rfl hL.has (by rw [hn]; decide) rfl (fun la2 h2 => k g H locs la2 hP hS (Lc.store1 ho h2))
theorem ist_5_1 (n : Nat) {a0 a1 a2 a3 a4 : Option Value} {x : Int32} (hd : decode (yC y) pc = .ok (.istore_n 1, 1)) (hn : yL y = 5) (ho : okp [a0, a1, a2, a3, a4] 1 = true) (hp : pc + 1 = n) (k : At y G b n [a0, some (.int x), a2, a3, a4] st σ) : At y G b pc [a0, a1, a2, a3, a4] (.int x :: st) σ := by
  subst hp
  intro g H locs la hP hS hL
  exact lv_istore_n g.1 g.2.1 hd rfl hL.has (by rw [hn]; decide) rfl (fun la2 h2 => k g H locs la2 hP hS (Lc.store1 ho h2))
theorem ist_5_2 (n : Nat) {a0 a1 a2 a3 a4 : Option Value} {x : Int32} (hd : decode (yC y) pc = .ok (.istore_n 2, 1)) (hn : yL y = 5) (ho : okp [a0, a1, a2, a3, a4] 2 = true) (hp : pc + 1 = n) (k : At y G b n [a0, a1, some (.int x), a3, a4] st σ) : At y G b pc [a0, a1, a2, a3, a4] (.int x :: st) σ := by
  subst hp
  intro g H locs la hP hS hL
  exact lv_istore_n g.1 g.2.1 hd rfl hL.has (by rw [hn]; decide) rfl (fun la2 h2 => k g H locs la2 hP hS (Lc.store1 ho h2))
theorem ist_5_3 (n : Nat) {a0 a1 a2 a3 a4 : Option Value} {x : Int32} (hd : decode (yC y) pc = .ok (.istore_n 3, 1)) (hn : yL y = 5) (ho : okp [a0, a1, a2, a3, a4] 3 = true) (hp : pc + 1 = n) (k : At y G b n [a0, a1, a2, some (.int x), a4] st σ) : At y G b pc [a0, a1, a2, a3, a4] (.int x :: st) σ := by
  subst hp
  intro g H locs la hP hS hL
  exact lv_istore_n g.1 g.2.1 hd rfl hL.has (by rw [hn]; decide) rfl (fun la2 h2 => k g H locs la2 hP hS (Lc.store1 ho h2))
theorem ist_5_4 (n : Nat) {a0 a1 a2 a3 a4 : Option Value} {x : Int32} (hd : decode (yC y) pc = .ok (.istore 4, 2)) (hn : yL y = 5) (ho : okp [a0, a1, a2, a3, a4] 4 = true) (hp : pc + 2 = n) (k : At y G b n [a0, a1, a2, a3, some (.int x)] st σ) : At y G b pc [a0, a1, a2, a3, a4] (.int x :: st) σ := by
  subst hp
  intro g H locs la hP hS hL
  exact lv_istore g.1 g.2.1 hd hL.has (by rw [hn]; decide) rfl (fun la2 h2 => k g H locs la2 hP hS (Lc.store1 ho h2))
theorem ist_6_1 (n : Nat) {a0 a1 a2 a3 a4 a5 : Option Value} {x : Int32} (hd : decode (yC y) pc = .ok (.istore_n 1, 1)) (hn : yL y = 6) (ho : okp [a0, a1, a2, a3, a4, a5] 1 = true) (hp : pc + 1 = n) (k : At y G b n [a0, some (.int x), a2, a3, a4, a5] st σ) : At y G b pc [a0, a1, a2, a3, a4, a5] (.int x :: st) σ := by
  subst hp
  intro g H locs la hP hS hL
  exact lv_istore_n g.1 g.2.1 hd rfl hL.has (by rw [hn]; decide) rfl (fun la2 h2 => k g H locs la2 hP hS (Lc.store1 ho h2))
theorem ist_6_2 (n : Nat) {a0 a1 a2 a3 a4 a5 : Option Value} {x : Int32} (hd : decode (yC y) pc = .ok (.istore_n 2, 1)) (hn : yL y = 6) (ho : okp [a0, a1, a2, a3, a4, a5] 2 = true) (hp : pc + 1 = n) (k : At y G b n [a0, a1, some (.int x), a3, a4, a5] st σ) : At y G b pc [a0, a1, a2, a3, a4, a5] (.int x :: st) σ := by
  subst hp
  intro g H locs la hP hS hL
  exact lv_istore_n g.1 g.2.1 hd rfl hL.has (by rw [hn]; decide) rfl (fun la2 h2 => k g H locs la2 hP hS (Lc.store1 ho h2))
theorem ist_6_3 (n : Nat) {a0 a1 a2 a3 a4 a5 : Option Value} {x : Int32} (hd : decode (yC y) pc = .ok (.istore_n 3, 1)) (hn : yL y = 6) (ho : okp [a0, a1, a2, a3, a4, a5] 3 = true) (hp : pc + 1 = n) (k : At y G b n [a0, a1, a2, some (.int x), a4, a5] st σ) : At y G b pc [a0, a1, a2, a3, a4, a5] (.int x :: st) σ := by
  subst hp
  intro g H locs la hP hS hL
  exact lv_istore_n g.1 g.2.1 hd rfl hL.has (by rw [hn]; decide) rfl (fun la2 h2 => k g H locs la2 hP hS (Lc.store1 ho h2))
theorem ist_6_4 (n : Nat) {a0 a1 a2 a3 a4 a5 : Option Value} {x : Int32} (hd : decode (yC y) pc = .ok (.istore 4, 2)) (hn : yL y = 6) (ho : okp [a0, a1, a2, a3, a4, a5] 4 = true) (hp : pc + 2 = n) (k : At y G b n [a0, a1, a2, a3, some (.int x), a5] st σ) : At y G b pc [a0, a1, a2, a3, a4, a5] (.int x :: st) σ := by
  subst hp
  intro g H locs la hP hS hL
  exact lv_istore g.1 g.2.1 hd hL.has (by rw [hn]; decide) rfl (fun la2 h2 => k g H locs la2 hP hS (Lc.store1 ho h2))
theorem ist_6_5 (n : Nat) {a0 a1 a2 a3 a4 a5 : Option Value} {x : Int32} (hd : decode (yC y) pc = .ok (.istore 5, 2)) (hn : yL y = 6) (ho : okp [a0, a1, a2, a3, a4, a5] 5 = true) (hp : pc + 2 = n) (k : At y G b n [a0, a1, a2, a3, a4, some (.int x)] st σ) : At y G b pc [a0, a1, a2, a3, a4, a5] (.int x :: st) σ := by
  subst hp
  intro g H locs la hP hS hL
  exact lv_istore g.1 g.2.1 hd hL.has (by rw [hn]; decide) rfl (fun la2 h2 => k g H locs la2 hP hS (Lc.store1 ho h2))
theorem ist_7_1 (n : Nat) {a0 a1 a2 a3 a4 a5 a6 : Option Value} {x : Int32} (hd : decode (yC y) pc = .ok (.istore_n 1, 1)) (hn : yL y = 7) (ho : okp [a0, a1, a2, a3, a4, a5, a6] 1 = true) (hp : pc + 1 = n) (k : At y G b n [a0, some (.int x), a2, a3, a4, a5, a6] st σ) : At y G b pc [a0, a1, a2, a3, a4, a5, a6] (.int x :: st) σ := by
  subst hp
  intro g H locs la hP hS hL
  exact lv_istore_n g.1 g.2.1 hd rfl hL.has (by rw [hn]; decide) rfl (fun la2 h2 => k g H locs la2 hP hS (Lc.store1 ho h2))
theorem ist_7_2 (n : Nat) {a0 a1 a2 a3 a4 a5 a6 : Option Value} {x : Int32} (hd : decode (yC y) pc = .ok (.istore_n 2, 1)) (hn : yL y = 7) (ho : okp [a0, a1, a2, a3, a4, a5, a6] 2 = true) (hp : pc + 1 = n) (k : At y G b n [a0, a1, some (.int x), a3, a4, a5, a6] st σ) : At y G b pc [a0, a1, a2, a3, a4, a5, a6] (.int x :: st) σ := by
  subst hp
  intro g H locs la hP hS hL
  exact lv_istore_n g.1 g.2.1 hd rfl hL.has (by rw [hn]; decide) rfl (fun la2 h2 => k g H locs la2 hP hS (Lc.store1 ho h2))
theorem ist_7_3 (n : Nat) {a0 a1 a2 a3 a4 a5 a6 : Option Value} {x : Int32} (hd : decode (yC y) pc = .ok (.istore_n 3, 1)) (hn : yL y = 7) (ho : okp [a0, a1, a2, a3, a4, a5, a6] 3 = true) (hp : pc + 1 = n) (k : At y G b n [a0, a1, a2, some (.int x), a4, a5, a6] st σ) : At y G b pc [a0, a1, a2, a3, a4, a5, a6] (.int x :: st) σ := by
  subst hp
  intro g H locs la hP hS hL
  exact lv_istore_n g.1 g.2.1 hd rfl hL.has (by rw [hn]; decide) rfl (fun la2 h2 => k g H locs la2 hP hS (Lc.store1 ho h2))
theorem ist_7_4 (n : Nat) {a0 a1 a2 a3 a4 a5 a6 : Option Value} {x : Int32} (hd : decode (yC y) pc = .ok (.istore 4, 2)) (hn : yL y = 7) (ho : okp [a0, a1, a2, a3, a4, a5, a6] 4 = true) (hp : pc + 2 = n) (k : At y G b n [a0, a1, a2, a3, some (.int x), a5, a6] st σ) : At y G b pc [a0, a1, a2, a3, a4, a5, a6] (.int x :: st) σ := by
  subst hp
  intro g H locs la hP hS hL
  exact lv_istore g.1 g.2.1 hd hL.has (by rw [hn]; decide) rfl (fun la2 h2 => k g H locs la2 hP hS (Lc.store1 ho h2))
theorem ist_7_5 (n : Nat) {a0 a1 a2 a3 a4 a5 a6 : Option Value} {x : Int32} (hd : decode (yC y) pc = .ok (.istore 5, 2)) (hn : yL y = 7) (ho : okp [a0, a1, a2, a3, a4, a5, a6] 5 = true) (hp : pc + 2 = n) (k : At y G b n [a0, a1, a2, a3, a4, some (.int x), a6] st σ) : At y G b pc [a0, a1, a2, a3, a4, a5, a6] (.int x :: st) σ := by
  subst hp
  intro g H locs la hP hS hL
  exact lv_istore g.1 g.2.1 hd hL.has (by rw [hn]; decide) rfl (fun la2 h2 => k g H locs la2 hP hS (Lc.store1 ho h2))
theorem ist_7_6 (n : Nat) {a0 a1 a2 a3 a4 a5 a6 : Option Value} {x : Int32} (hd : decode (yC y) pc = .ok (.istore 6, 2)) (hn : yL y = 7) (ho : okp [a0, a1, a2, a3, a4, a5, a6] 6 = true) (hp : pc + 2 = n) (k : At y G b n [a0, a1, a2, a3, a4, a5, some (.int x)] st σ) : At y G b pc [a0, a1, a2, a3, a4, a5, a6] (.int x :: st) σ := by
  subst hp
  intro g H locs la hP hS hL
  exact lv_istore g.1 g.2.1 hd hL.has (by rw [hn]; decide) rfl (fun la2 h2 => k g H locs la2 hP hS (Lc.store1 ho h2))
theorem ist_8_2 (n : Nat) {a0 a1 a2 a3 a4 a5 a6 a7 : Option Value} {x : Int32} (hd : decode (yC y) pc = .ok (.istore_n 2, 1)) (hn : yL y = 8) (ho : okp [a0, a1, a2, a3, a4, a5, a6, a7] 2 = true) (hp : pc + 1 = n) (k : At y G b n [a0, a1, some (.int x), a3, a4, a5, a6, a7] st σ) : At y G b pc [a0, a1, a2, a3, a4, a5, a6, a7] (.int x :: st) σ := by
  subst hp
  intro g H locs la hP hS hL
  exact lv_istore_n g.1 g.2.1 hd rfl hL.has (by rw [hn]; decide) rfl (fun la2 h2 => k g H locs la2 hP hS (Lc.store1 ho h2))
theorem ist_8_3 (n : Nat) {a0 a1 a2 a3 a4 a5 a6 a7 : Option Value} {x : Int32} (hd : decode (yC y) pc = .ok (.istore_n 3, 1)) (hn : yL y = 8) (ho : okp [a0, a1, a2, a3, a4, a5, a6, a7] 3 = true) (hp : pc + 1 = n) (k : At y G b n [a0, a1, a2, some (.int x), a4, a5, a6, a7] st σ) : At y G b pc [a0, a1, a2, a3, a4, a5, a6, a7] (.int x :: st) σ := by
  subst hp
  intro g H locs la hP hS hL
  exact lv_istore_n g.1 g.2.1 hd rfl hL.has (by rw [hn]; decide) rfl (fun la2 h2 => k g H locs la2 hP hS (Lc.store1 ho h2))
theorem ist_8_4 (n : Nat) {a0 a1 a2 a3 a4 a5 a6 a7 : Option Value} {x : Int32} (hd : decode (yC y) pc = .ok (.istore 4, 2)) (hn : yL y = 8) (ho : okp [a0, a1, a2, a3, a4, a5, a6, a7] 4 = true) (hp : pc + 2 = n) (k : At y G b n [a0, a1, a2, a3, some (.int x), a5, a6, a7] st σ) : At y G b pc [a0, a1, a2, a3, a4, a5, a6, a7] (.int x :: st) σ := by
  subst hp
  intro g H locs la hP hS hL
  exact lv_istore g.1 g.2.1 hd hL.has (by rw [hn]; decide) rfl (fun la2 h2 => k g H locs la2 hP hS (Lc.store1 ho h2))
theorem ist_8_5 (n : Nat) {a0 a1 a2 a3 a4 a5 a6 a7 : Option Value} {x : Int32} (hd : decode (yC y) pc = .ok (.istore 5, 2)) (hn : yL y = 8) (ho : okp [a0, a1, a2, a3, a4, a5, a6, a7] 5 = true) (hp : pc + 2 = n) (k : At y G b n [a0, a1, a2, a3, a4, some (.int x), a6, a7] st σ) : At y G b pc [a0, a1, a2, a3, a4, a5, a6, a7] (.int x :: st) σ := by
  subst hp
  intro g H locs la hP hS hL
  exact lv_istore g.1 g.2.1 hd hL.has (by rw [hn]; decide) rfl (fun la2 h2 => k g H locs la2 hP hS (Lc.store1 ho h2))
theorem ist_8_6 (n : Nat) {a0 a1 a2 a3 a4 a5 a6 a7 : Option Value} {x : Int32} (hd : decode (yC y) pc = .ok (.istore 6, 2)) (hn : yL y = 8) (ho : okp [a0, a1, a2, a3, a4, a5, a6, a7] 6 = true) (hp : pc + 2 = n) (k : At y G b n [a0, a1, a2, a3, a4, a5, some (.int x), a7] st σ) : At y G b pc [a0, a1, a2, a3, a4, a5, a6, a7] (.int x :: st) σ := by
  subst hp
  intro g H locs la hP hS hL
  exact lv_istore g.1 g.2.1 hd hL.has (by rw [hn]; decide) rfl (fun la2 h2 => k g H locs la2 hP hS (Lc.store1 ho h2))
theorem ist_8_7 (n : Nat) {a0 a1 a2 a3 a4 a5 a6 a7 : Option Value} {x : Int32} (hd : decode (yC y) pc = .ok (.istore 7, 2)) (hn : yL y = 8) (ho : okp [a0, a1, a2, a3, a4, a5, a6, a7] 7 = true) (hp : pc + 2 = n) (k : At y G b n [a0, a1, a2, a3, a4, a5, a6, some (.int x)] st σ) : At y G b pc [a0, a1, a2, a3, a4, a5, a6, a7] (.int x :: st) σ := by
  subst hp
  intro g H locs la hP hS hL
  exact lv_istore g.1 g.2.1 hd hL.has (by rw [hn]; decide) rfl (fun la2 h2 => k g H locs la2 hP hS (Lc.store1 ho h2))
theorem ist_9_2 (n : Nat) {a0 a1 a2 a3 a4 a5 a6 a7 a8 : Option Value} {x : Int32} (hd : decode (yC y) pc = .ok (.istore_n 2, 1)) (hn : yL y = 9) (ho : okp [a0, a1, a2, a3, a4, a5, a6, a7, a8] 2 = true) (hp : pc + 1 = n) (k : At y G b n [a0, a1, some (.int x), a3, a4, a5, a6, a7, a8] st σ) : At y G b pc [a0, a1, a2, a3, a4, a5, a6, a7, a8] (.int x :: st) σ := by
  subst hp
  intro g H locs la hP hS hL
  exact lv_istore_n g.1 g.2.1 hd rfl hL.has (by rw [hn]; decide) rfl (fun la2 h2 => k g H locs la2 hP hS (Lc.store1 ho h2))
theorem ist_9_3 (n : Nat) {a0 a1 a2 a3 a4 a5 a6 a7 a8 : Option Value} {x : Int32} (hd : decode (yC y) pc = .ok (.istore_n 3, 1)) (hn : yL y = 9) (ho : okp [a0, a1, a2, a3, a4, a5, a6, a7, a8] 3 = true) (hp : pc + 1 = n) (k : At y G b n [a0, a1, a2, some (.int x), a4, a5, a6, a7, a8] st σ) : At y G b pc [a0, a1, a2, a3, a4, a5, a6, a7, a8] (.int x :: st) σ := by
  subst hp
  intro g H locs la hP hS hL
  exact lv_istore_n g.1 g.2.1 hd rfl hL.has (by rw [hn]; decide) rfl (fun la2 h2 => k g H locs la2 hP hS (Lc.store1 ho h2))
theorem ist_9_4 (n : Nat) {a0 a1 a2 a3 a4 a5 a6 a7 a8 : Option Value} {x : Int32} (hd : decode (yC y) pc = .ok (.istore 4, 2)) (hn : yL y = 9) (ho : okp [a0, a1, a2, a3, a4, a5, a6, a7, a8] 4 = true) (hp : pc + 2 = n) (k : At y G b n [a0, a1, a2, a3, some (.int x), a5, a6, a7, a8] st σ) : At y G b pc [a0, a1, a2, a3, a4, a5, a6, a7, a8] (.int x :: st) σ := by
  subst hp
  intro g H locs la hP hS hL
  exact lv_istore g.1 g.2.1 hd hL.has (by rw [hn]; decide) rfl (fun la2 h2 => k g H locs la2 hP hS (Lc.store1 ho h2))
theorem ist_9_5 (n : Nat) {a0 a1 a2 a3 a4 a5 a6 a7 a8 : Option Value} {x : Int32} (hd : decode (yC y) pc = .ok (.istore 5, 2)) (hn : yL y = 9) (ho : okp [a0, a1, a2, a3, a4, a5, a6, a7, a8] 5 = true) (hp : pc + 2 = n) (k : At y G b n [a0, a1, a2, a3, a4, some (.int x), a6, a7, a8] st σ) : At y G b pc [a0, a1, a2, a3, a4, a5, a6, a7, a8] (.int x :: st) σ := by
  subst hp
  intro g H locs la hP hS hL
  exact lv_istore g.1 g.2.1 hd hL.has (by rw [hn]; decide) rfl (fun la2 h2 => k g H locs la2 hP hS (Lc.store1 ho h2))
theorem ist_9_6 (n : Nat) {a0 a1 a2 a3 a4 a5 a6 a7 a8 : Option Value} {x : Int32} (hd : decode (yC y) pc = .ok (.istore 6, 2)) (hn : yL y = 9) (ho : okp [a0, a1, a2, a3, a4, a5, a6, a7, a8] 6 = true) (hp : pc + 2 = n) (k : At y G b n [a0, a1, a2, a3, a4, a5, some (.int x), a7, a8] st σ) : At y G b pc [a0, a1, a2, a3, a4, a5, a6, a7, a8] (.int x :: st) σ := by
  subst hp
  intro g H locs la hP hS hL
  exact lv_istore g.1 g.2.1 hd hL.has (by rw [hn]; decide) rfl (fun la2 h2 => k g H locs la2 hP hS (Lc.store1 ho h2))
theorem ist_9_7 (n : Nat) {a0 a1 a2 a3 a4 a5 a6 a7 a8 : Option Value} {x : Int32} (hd : decode (yC y) pc = .ok (.istore 7, 2)) (hn : yL y = 9) (ho : okp [a0, a1, a2, a3, a4, a5, a6, a7, a8] 7 = true) (hp : pc + 2 = n) (k : At y G b n [a0, a1, a2, a3, a4, a5, a6, some (.int x), a8] st σ) : At y G b pc [a0, a1, a2, a3, a4, a5, a6, a7, a8] (.int x :: st) σ := by
  subst hp
  intro g H locs la hP hS hL
  exact lv_istore g.1 g.2.1 hd hL.has (by rw [hn]; decide) rfl (fun la2 h2 => k g H locs la2 hP hS (Lc.store1 ho h2))
theorem ist_9_8 (n : Nat) {a0 a1 a2 a3 a4 a5 a6 a7 a8 : Option Value} {x : Int32} (hd : decode (yC y) pc = .ok (.istore 8, 2)) (hn : yL y = 9) (ho : okp [a0, a1, a2, a3, a4, a5, a6, a7, a8] 8 = true) (hp : pc + 2 = n) (k : At y G b n [a0, a1, a2, a3, a4, a5, a6, a7, some (.int x)] st σ) : At y G b pc [a0, a1, a2, a3, a4, a5, a6, a7, a8] (.int x :: st) σ := by
  subst hp
  intro g H locs la hP hS hL
  exact lv_istore g.1 g.2.1 hd hL.has (by rw [hn]; decide) rfl (fun la2 h2 => k g H locs la2 hP hS (Lc.store1 ho h2))
theorem ist_10_4 (n : Nat) {a0 a1 a2 a3 a4 a5 a6 a7 a8 a9 : Option Value} {x : Int32} (hd : decode (yC y) pc = .ok (.istore 4, 2)) (hn : yL y = 10) (ho : okp [a0, a1, a2, a3, a4, a5, a6, a7, a8, a9] 4 = true) (hp : pc + 2 = n) (k : At y G b n [a0, a1, a2, a3, some (.int x), a5, a6, a7, a8, a9] st σ) : At y G b pc [a0, a1, a2, a3, a4, a5, a6, a7, a8, a9] (.int x :: st) σ := by
  subst hp
  intro g H locs la hP hS hL
  exact lv_istore g.1 g.2.1 hd hL.has (by rw [hn]; decide) rfl (fun la2 h2 => k g H locs la2 hP hS (Lc.store1 ho h2))
theorem ist_10_5 (n : Nat) {a0 a1 a2 a3 a4 a5 a6 a7 a8 a9 : Option Value} {x : Int32} (hd : decode (yC y) pc = .ok (.istore 5, 2)) (hn : yL y = 10) (ho : okp [a0, a1, a2, a3, a4, a5, a6, a7, a8, a9] 5 = true) (hp : pc + 2 = n) (k : At y G b n [a0, a1, a2, a3, a4, some (.int x), a6, a7, a8, a9] st σ) : At y G b pc [a0, a1, a2, a3, a4, a5, a6, a7, a8, a9] (.int x :: st) σ := by
  subst hp
  intro g H locs la hP hS hL
  exact lv_istore g.1 g.2.1 hd hL.has (by rw [hn]; decide) rfl (fun la2 h2 => k g H locs la2 hP hS (Lc.store1 ho h2))
theorem ist_10_6 (n : Nat) {a0 a1 a2 a3 a4 a5 a6 a7 a8 a9 : Option Value} {x : Int32} (hd : decode (yC y) pc = .ok (.istore 6, 2)) (hn : yL y = 10) (ho : okp [a0, a1, a2, a3, a4, a5, a6, a7, a8, a9] 6 = true) (hp : pc + 2 = n) (k : At y G b n [a0, a1, a2, a3, a4, a5, some (.int x), a7, a8, a9] st σ) : At y G b pc [a0, a1, a2, a3, a4, a5, a6, a7, a8, a9] (.int x :: st) σ := by
  subst hp
  intro g H locs la hP hS hL
  exact lv_istore g.1 g.2.1 hd hL.has (by rw [hn]; decide) rfl (fun la2 h2 => k g H locs la2 hP hS (Lc.store1 ho h2))
theorem ist_10_7 (n : Nat) {a0 a1 a2 a3 a4 a5 a6 a7 a8 a9 : Option Value} {x : Int32} (hd : decode (yC y) pc = .ok (.istore 7, 2)) (hn : yL y = 10) (ho : okp [a0, a1, a2, a3, a4, a5, a6, a7, a8, a9] 7 = true) (hp : pc + 2 = n) (k : At y G b n [a0, a1, a2, a3, a4, a5, a6, some (.int x), a8, a9] st σ) : At y G b pc [a0, a1, a2, a3, a4, a5, a6, a7, a8, a9] (.int x :: st) σ := by
  subst hp
  intro g H locs la hP hS hL
  exact lv_istore g.1 g.2.1 hd hL.has (by rw [hn]; decide) rfl (fun la2 h2 => k g H locs la2 hP hS (Lc.store1 ho h2))
theorem ist_10_8 (n : Nat) {a0 a1 a2 a3 a4 a5 a6 a7 a8 a9 : Option Value} {x : Int32} (hd : decode (yC y) pc = .ok (.istore 8, 2)) (hn : yL y = 10) (ho : okp [a0, a1, a2, a3, a4, a5, a6, a7, a8, a9] 8 = true) (hp : pc + 2 = n) (k : At y G b n [a0, a1, a2, a3, a4, a5, a6, a7, some (.int x), a9] st σ) : At y G b pc [a0, a1, a2, a3, a4, a5, a6, a7, a8, a9] (.int x :: st) σ := by
  subst hp
  intro g H locs la hP hS hL
  exact lv_istore g.1 g.2.1 hd hL.has (by rw [hn]; decide) rfl (fun la2 h2 => k g H locs la2 hP hS (Lc.store1 ho h2))
theorem ist_10_9 (n : Nat) {a0 a1 a2 a3 a4 a5 a6 a7 a8 a9 : Option Value} {x : Int32} (hd : decode (yC y) pc = .ok (.istore 9, 2)) (hn : yL y = 10) (ho : okp [a0, a1, a2, a3, a4, a5, a6, a7, a8, a9] 9 = true) (hp : pc + 2 = n) (k : At y G b n [a0, a1, a2, a3, a4, a5, a6, a7, a8, some (.int x)] st σ) : At y G b pc [a0, a1, a2, a3, a4, a5, a6, a7, a8, a9] (.int x :: st) σ := by
  subst hp
  intro g H locs la hP hS hL
  exact lv_istore g.1 g.2.1 hd hL.has (by rw [hn]; decide) rfl (fun la2 h2 => k g H locs la2 hP hS (Lc.store1 ho h2))
theorem ist_11_4 (n : Nat) {a0 a1 a2 a3 a4 a5 a6 a7 a8 a9 a10 : Option Value} {x : Int32} (hd : decode (yC y) pc = .ok (.istore 4, 2)) (hn : yL y = 11) (ho : okp [a0, a1, a2, a3, a4, a5, a6, a7, a8, a9, a10] 4 = true) (hp : pc + 2 = n) (k : At y G b n [a0, a1, a2, a3, some (.int x), a5, a6, a7, a8, a9, a10] st σ) : At y G b pc [a0, a1, a2, a3, a4, a5, a6, a7, a8, a9, a10] (.int x :: st) σ := by
  subst hp
  intro g H locs la hP hS hL
  exact lv_istore g.1 g.2.1 hd hL.has (by rw [hn]; decide) rfl (fun la2 h2 => k g H locs la2 hP hS (Lc.store1 ho h2))
theorem ist_11_5 (n : Nat) {a0 a1 a2 a3 a4 a5 a6 a7 a8 a9 a10 : Option Value} {x : Int32} (hd : decode (yC y) pc = .ok (.istore 5, 2)) (hn : yL y = 11) (ho : okp [a0, a1, a2, a3, a4, a5, a6, a7, a8, a9, a10] 5 = true) (hp : pc + 2 = n) (k : At y G b n [a0, a1, a2, a3, a4, some (.int x), a6, a7, a8, a9, a10] st σ) : At y G b pc [a0, a1, a2, a3, a4, a5, a6, a7, a8, a9, a10] (.int x :: st) σ := by
  subst hp
  intro g H locs la hP hS hL
  exact lv_istore g.1 g.2.1 hd hL.has (by rw [hn]; decide) rfl (fun la2 h2 => k g H locs la2 hP hS (Lc.store1 ho h2))
theorem ist_11_6 (n : Nat) {a0 a1 a2 a3 a4 a5 a6 a7 a8 a9 a10 : Option Value} {x : Int32} (hd : decode (yC y) pc = .ok (.istore 6, 2)) (hn : yL y = 11) (ho : okp [a0, a1, a2, a3, a4, a5, a6, a7, a8, a9, a10] 6 = true) (hp : pc + 2 = n) (k : At y G b n [a0, a1, a2, a3, a4, a5, some (.int x), a7, a8, a9, a10] st σ) : At y G b pc [a0, a1, a2, a3, a4, a5, a6, a7, a8, a9, a10] (.int x :: st) σ := by
  subst hp
  intro g H locs la hP hS hL
  exact lv_istore g.1 g.2.1 hd hL.has (by rw [hn]; decide) rfl (fun la2 h2 => k g H locs la2 hP hS (Lc.store1 ho h2))
theorem ist_11_7 (n : Nat) {a0 a1 a2 a3 a4 a5 a6 a7 a8 a9 a10 : Option Value} {x : Int32} (hd : decode (yC y) pc = .ok (.istore 7, 2)) (hn : yL y = 11) (ho : okp [a0, a1, a2, a3, a4, a5, a6, a7, a8, a9, a10] 7 = true) (hp : pc + 2 = n) (k : At y G b n [a0, a1, a2, a3, a4, a5, a6, some (.int x), a8, a9, a10] st σ) : At y G b pc [a0, a1, a2, a3, a4, a5, a6, a7, a8, a9, a10] (.int x :: st) σ := by
  subst hp
  intro g H locs la hP hS hL
  exact lv_istore g.1 g.2.1 hd hL.has (by rw [hn]; decide) rfl (fun la2 h2 => k g H locs la2 hP hS (Lc.store1 ho h2))
theorem ist_11_8 (n : Nat) {a0 a1 a2 a3 a4 a5 a6 a7 a8 a9 a10 : Option Value} {x : Int32} (hd : decode (yC y) pc = .ok (.istore 8, 2)) (hn : yL y = 11) (ho : okp [a0, a1, a2, a3, a4, a5, a6, a7, a8, a9, a10] 8 = true) (hp : pc + 2 = n) (k : At y G b n [a0, a1, a2, a3, a4, a5, a6, a7, some (.int x), a9, a10] st σ) : At y G b pc [a0, a1, a2, a3, a4, a5, a6, a7, a8, a9, a10] (.int x :: st) σ := by
  subst hp
  intro g H locs la hP hS hL
  exact lv_istore g.1 g.2.1 hd hL.has (by rw [hn]; decide) rfl (fun la2 h2 => k g H locs la2 hP hS (Lc.store1 ho h2))
theorem ist_11_9 (n : Nat) {a0 a1 a2 a3 a4 a5 a6 a7 a8 a9 a10 : Option Value} {x : Int32} (hd : decode (yC y) pc = .ok (.istore 9, 2)) (hn : yL y = 11) (ho : okp [a0, a1, a2, a3, a4, a5, a6, a7, a8, a9, a10] 9 = true) (hp : pc + 2 = n) (k : At y G b n [a0, a1, a2, a3, a4, a5, a6, a7, a8, some (.int x), a10] st σ) : At y G b pc [a0, a1, a2, a3, a4, a5, a6, a7, a8, a9, a10] (.int x :: st) σ := by
  subst hp
  intro g H locs la hP hS hL
  exact lv_istore g.1 g.2.1 hd hL.has (by rw [hn]; decide) rfl (fun la2 h2 => k g H locs la2 hP hS (Lc.store1 ho h2))
theorem ist_11_10 (n : Nat) {a0 a1 a2 a3 a4 a5 a6 a7 a8 a9 a10 : Option Value} {x : Int32} (hd : decode (yC y) pc = .ok (.istore 10, 2)) (hn : yL y = 11) (ho : okp [a0, a1, a2, a3, a4, a5, a6, a7, a8, a9, a10] 10 = true) (hp : pc + 2 = n) (k : At y G b n [a0, a1, a2, a3, a4, a5, a6, a7, a8, a9, some (.int x)] st σ) : At y G b pc [a0, a1, a2, a3, a4, a5, a6, a7, a8, a9, a10] (.int x :: st) σ := by
  subst hp
  intro g H locs la hP hS hL
  exact lv_istore g.1 g.2.1 hd hL.has (by rw [hn]; decide) rfl (fun la2 h2 => k g H locs la2 hP hS (Lc.store1 ho h2))
theorem lld_4_1 (n : Nat) {a0 a2 a3 : Option Value} {x : Int64} (hd : decode (yC y) pc = .ok (.lload_n 1, 1)) (hp : pc + 1 = n) (k : At y G b n [a0, some (.long x), a2, a3] (.long x :: st) σ) : At y G b pc [a0, some (.long x), a2, a3] st σ := by
  subst hp
  intro g H locs la hP hS hL
  exact lv_lload_n g.1 g.2.1 hd rfl (hL.2.2 1 _ rfl) (k g H locs la hP hS hL)
theorem lld_6_1 (n : Nat) {a0 a2 a3 a4 a5 : Option Value} {x : Int64} (hd : decode (yC y) pc = .ok (.lload_n 1, 1)) (hp : pc + 1 = n) (k : At y G b n [a0, some (.long x), a2, a3, a4, a5] (.long x :: st) σ) : At y G b pc [a0, some (.long x), a2, a3, a4, a5] st σ := by
  subst hp
  intro g H locs la hP hS hL
  exact lv_lload_n g.1 g.2.1 hd rfl (hL.2.2 1 _ rfl) (k g H locs la hP hS hL)
theorem lst_4_1 (n : Nat) {a0 a1 a2 a3 : Option Value} {x : Int64} (hd : decode (yC y) pc = .ok (.lstore_n 1, 1)) (hn : yL y = 4) (ho : okp [a0, a1, a2, a3] 1 = true) (hp : pc + 1 = n) (k : At y G b n [a0, some (.long x), none, a3] st σ) : At y G b pc [a0, a1, a2, a3] (.long x :: st) σ := by
  subst hp
  intro g H locs la hP hS hL
  exact lv_lstore_n g.1 g.2.1 hd rfl hL.has (by rw [hn]; decide) rfl (fun la2 h2 => k g H locs la2 hP hS (Lc.store2 ho h2))
theorem lst_6_1 (n : Nat) {a0 a1 a2 a3 a4 a5 : Option Value} {x : Int64} (hd : decode (yC y) pc = .ok (.lstore_n 1, 1)) (hn : yL y = 6) (ho : okp [a0, a1, a2, a3, a4, a5] 1 = true) (hp : pc + 1 = n) (k : At y G b n [a0, some (.long x), none, a3, a4, a5] st σ) : At y G b pc [a0, a1, a2, a3, a4, a5] (.long x :: st) σ := by
  subst hp
  intro g H locs la hP hS hL
  exact lv_lstore_n g.1 g.2.1 hd rfl hL.has (by rw [hn]; decide) rfl (fun la2 h2 => k g H locs la2 hP hS (Lc.store2 ho h2))
end Shapes
theorem ic_m8 : Int32.ofInt (-8) = (-8) := by decide
theorem ic_m1 : Int32.ofInt (-1) = (-1) := by decide
theorem ic_0 : Int32.ofInt 0 = 0 := by decide
theorem ic_1 : Int32.ofInt 1 = 1 := by decide
theorem ic_2 : Int32.ofInt 2 = 2 := by decide
theorem ic_3 : Int32.ofInt 3 = 3 := by decide
theorem ic_4 : Int32.ofInt 4 = 4 := by decide
theorem ic_5 : Int32.ofInt 5 = 5 := by decide
theorem ic_6 : Int32.ofInt 6 = 6 := by decide
theorem ic_8 : Int32.ofInt 8 = 8 := by decide
theorem ic_16 : Int32.ofInt 16 = 16 := by decide
theorem bp_m99 : (Int8.ofInt (-99)).toInt32 = (-99) := by decide
theorem bp_6 : (Int8.ofInt 6).toInt32 = 6 := by decide
theorem bp_7 : (Int8.ofInt 7).toInt32 = 7 := by decide
theorem bp_8 : (Int8.ofInt 8).toInt32 = 8 := by decide
theorem bp_10 : (Int8.ofInt 10).toInt32 = 10 := by decide
theorem bp_12 : (Int8.ofInt 12).toInt32 = 12 := by decide
theorem bp_16 : (Int8.ofInt 16).toInt32 = 16 := by decide
theorem bp_20 : (Int8.ofInt 20).toInt32 = 20 := by decide
theorem bp_23 : (Int8.ofInt 23).toInt32 = 23 := by decide
theorem bp_24 : (Int8.ofInt 24).toInt32 = 24 := by decide
theorem bp_31 : (Int8.ofInt 31).toInt32 = 31 := by decide
theorem bp_32 : (Int8.ofInt 32).toInt32 = 32 := by decide
theorem bp_48 : (Int8.ofInt 48).toInt32 = 48 := by decide
theorem bp_52 : (Int8.ofInt 52).toInt32 = 52 := by decide
theorem bp_57 : (Int8.ofInt 57).toInt32 = 57 := by decide
theorem bp_59 : (Int8.ofInt 59).toInt32 = 59 := by decide
theorem bp_63 : (Int8.ofInt 63).toInt32 = 63 := by decide
theorem bp_95 : (Int8.ofInt 95).toInt32 = 95 := by decide
theorem bp_96 : (Int8.ofInt 96).toInt32 = 96 := by decide
theorem bp_97 : (Int8.ofInt 97).toInt32 = 97 := by decide
theorem bp_99 : (Int8.ofInt 99).toInt32 = 99 := by decide
theorem bp_100 : (Int8.ofInt 100).toInt32 = 100 := by decide
theorem bp_122 : (Int8.ofInt 122).toInt32 = 122 := by decide
theorem sp_m257 : (Int16.ofInt (-257)).toInt32 = (-257) := by decide
theorem sp_140 : (Int16.ofInt 140).toInt32 = 140 := by decide
theorem sp_200 : (Int16.ofInt 200).toInt32 = 200 := by decide
theorem sp_255 : (Int16.ofInt 255).toInt32 = 255 := by decide
theorem sp_256 : (Int16.ofInt 256).toInt32 = 256 := by decide
theorem sp_300 : (Int16.ofInt 300).toInt32 = 300 := by decide
theorem sp_400 : (Int16.ofInt 400).toInt32 = 400 := by decide
theorem sp_500 : (Int16.ofInt 500).toInt32 = 500 := by decide
theorem sp_1000 : (Int16.ofInt 1000).toInt32 = 1000 := by decide
theorem sp_1120 : (Int16.ofInt 1120).toInt32 = 1120 := by decide
end
