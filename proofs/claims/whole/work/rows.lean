section
-- ===== PART A: goes FIRST, ahead of the names: the tables' words, and 'selects' of the private methods out of them =====
/-- a private method of a class that the tables say can be made, by its rows of tables_1 -/
def lw_okq (q : MethodName × Nat) : Prop := (q.1.cls ≠ "java/lang/invoke/MethodHandle" ∧ q.1.cls ≠ "java/lang/invoke/VarHandle") ∧ Cond.instantiable q.1.cls q.2 ∈ tables_1 ∧ Cond.privateMethod q.1 ∈ tables_1 ∧ Cond.instanceMethod q.1 ∈ tables_1
theorem lw_p0 : lw_okq (⟨"YearLines$Reader", "advance", "()V"⟩, 10) := ⟨⟨by decide +kernel, by decide +kernel⟩, List.mem_of_getElem? (i := 20) (by decide +kernel), List.mem_of_getElem? (i := 236) (by decide +kernel), List.mem_of_getElem? (i := 237) (by decide +kernel)⟩
theorem lw_p1 : lw_okq (⟨"YearLines$Reader", "takeNumber", "()V"⟩, 10) := ⟨⟨by decide +kernel, by decide +kernel⟩, List.mem_of_getElem? (i := 20) (by decide +kernel), List.mem_of_getElem? (i := 243) (by decide +kernel), List.mem_of_getElem? (i := 244) (by decide +kernel)⟩
theorem lw_p2 : lw_okq (⟨"YearLines$Reader", "take", "(LYearLines$Chronicle;)Z"⟩, 10) := ⟨⟨by decide +kernel, by decide +kernel⟩, List.mem_of_getElem? (i := 20) (by decide +kernel), List.mem_of_getElem? (i := 250) (by decide +kernel), List.mem_of_getElem? (i := 251) (by decide +kernel)⟩
theorem lw_p3 : lw_okq (⟨"YearLines$Reader", "takeSlackSign", "()Z"⟩, 10) := ⟨⟨by decide +kernel, by decide +kernel⟩, List.mem_of_getElem? (i := 20) (by decide +kernel), List.mem_of_getElem? (i := 254) (by decide +kernel), List.mem_of_getElem? (i := 255) (by decide +kernel)⟩
theorem lw_p4 : lw_okq (⟨"YearLines$Reader", "takeHouseSign", "(LYearLines$Chronicle;)Z"⟩, 10) := ⟨⟨by decide +kernel, by decide +kernel⟩, List.mem_of_getElem? (i := 20) (by decide +kernel), List.mem_of_getElem? (i := 258) (by decide +kernel), List.mem_of_getElem? (i := 259) (by decide +kernel)⟩
theorem lw_p5 : lw_okq (⟨"YearLines$Reader", "takeSlack", "(LYearLines$Chronicle;)Z"⟩, 10) := ⟨⟨by decide +kernel, by decide +kernel⟩, List.mem_of_getElem? (i := 20) (by decide +kernel), List.mem_of_getElem? (i := 262) (by decide +kernel), List.mem_of_getElem? (i := 263) (by decide +kernel)⟩
theorem lw_p6 : lw_okq (⟨"YearLines$Reader", "takeStop", "()Z"⟩, 10) := ⟨⟨by decide +kernel, by decide +kernel⟩, List.mem_of_getElem? (i := 20) (by decide +kernel), List.mem_of_getElem? (i := 266) (by decide +kernel), List.mem_of_getElem? (i := 267) (by decide +kernel)⟩
theorem lw_p7 : lw_okq (⟨"YearLines$Reader", "takeEvent", "(LYearLines$Chronicle;)Z"⟩, 10) := ⟨⟨by decide +kernel, by decide +kernel⟩, List.mem_of_getElem? (i := 20) (by decide +kernel), List.mem_of_getElem? (i := 270) (by decide +kernel), List.mem_of_getElem? (i := 271) (by decide +kernel)⟩
theorem lw_p8 : lw_okq (⟨"YearLines$Reader", "takeYear", "(LYearLines$Chronicle;)Z"⟩, 10) := ⟨⟨by decide +kernel, by decide +kernel⟩, List.mem_of_getElem? (i := 20) (by decide +kernel), List.mem_of_getElem? (i := 286) (by decide +kernel), List.mem_of_getElem? (i := 287) (by decide +kernel)⟩
theorem lw_p9 : lw_okq (⟨"YearLines$Deeds", "loseOldest", "()V"⟩, 5) := ⟨⟨by decide +kernel, by decide +kernel⟩, List.mem_of_getElem? (i := 118) (by decide +kernel), List.mem_of_getElem? (i := 327) (by decide +kernel), List.mem_of_getElem? (i := 328) (by decide +kernel)⟩
theorem lw_p10 : lw_okq (⟨"YearLines$Deeds", "takeBackEntry", "(LYearLines$House;I)V"⟩, 5) := ⟨⟨by decide +kernel, by decide +kernel⟩, List.mem_of_getElem? (i := 118) (by decide +kernel), List.mem_of_getElem? (i := 353) (by decide +kernel), List.mem_of_getElem? (i := 354) (by decide +kernel)⟩
theorem lw_p11 : lw_okq (⟨"YearLines", "shiftOf", "(I)I"⟩, 11) := ⟨⟨by decide +kernel, by decide +kernel⟩, List.mem_of_getElem? (i := 12) (by decide +kernel), List.mem_of_getElem? (i := 397) (by decide +kernel), List.mem_of_getElem? (i := 398) (by decide +kernel)⟩
theorem lw_p12 : lw_okq (⟨"YearLines", "agreedOf", "(I)I"⟩, 11) := ⟨⟨by decide +kernel, by decide +kernel⟩, List.mem_of_getElem? (i := 12) (by decide +kernel), List.mem_of_getElem? (i := 421) (by decide +kernel), List.mem_of_getElem? (i := 422) (by decide +kernel)⟩
theorem lw_p13 : lw_okq (⟨"YearLines", "againstOf", "(I)I"⟩, 11) := ⟨⟨by decide +kernel, by decide +kernel⟩, List.mem_of_getElem? (i := 12) (by decide +kernel), List.mem_of_getElem? (i := 430) (by decide +kernel), List.mem_of_getElem? (i := 431) (by decide +kernel)⟩
theorem lw_p14 : lw_okq (⟨"YearLines", "measureOf", "(II)I"⟩, 11) := ⟨⟨by decide +kernel, by decide +kernel⟩, List.mem_of_getElem? (i := 12) (by decide +kernel), List.mem_of_getElem? (i := 442) (by decide +kernel), List.mem_of_getElem? (i := 443) (by decide +kernel)⟩
theorem lw_p15 : lw_okq (⟨"YearLines", "spansByFirst", "(I)I"⟩, 11) := ⟨⟨by decide +kernel, by decide +kernel⟩, List.mem_of_getElem? (i := 12) (by decide +kernel), List.mem_of_getElem? (i := 452) (by decide +kernel), List.mem_of_getElem? (i := 453) (by decide +kernel)⟩
def lw_privs_1 : List (MethodName × Nat) := [(⟨"YearLines$Reader", "advance", "()V"⟩, 10), (⟨"YearLines$Reader", "takeNumber", "()V"⟩, 10), (⟨"YearLines$Reader", "take", "(LYearLines$Chronicle;)Z"⟩, 10), (⟨"YearLines$Reader", "takeSlackSign", "()Z"⟩, 10), (⟨"YearLines$Reader", "takeHouseSign", "(LYearLines$Chronicle;)Z"⟩, 10), (⟨"YearLines$Reader", "takeSlack", "(LYearLines$Chronicle;)Z"⟩, 10), (⟨"YearLines$Reader", "takeStop", "()Z"⟩, 10), (⟨"YearLines$Reader", "takeEvent", "(LYearLines$Chronicle;)Z"⟩, 10), (⟨"YearLines$Reader", "takeYear", "(LYearLines$Chronicle;)Z"⟩, 10), (⟨"YearLines$Deeds", "loseOldest", "()V"⟩, 5), (⟨"YearLines$Deeds", "takeBackEntry", "(LYearLines$House;I)V"⟩, 5), (⟨"YearLines", "shiftOf", "(I)I"⟩, 11), (⟨"YearLines", "agreedOf", "(I)I"⟩, 11), (⟨"YearLines", "againstOf", "(I)I"⟩, 11), (⟨"YearLines", "measureOf", "(II)I"⟩, 11), (⟨"YearLines", "spansByFirst", "(I)I"⟩, 11)]
theorem lw_r1 : ∀ q ∈ lw_privs_1, lw_okq q := List.forall_mem_cons.mpr ⟨lw_p0, List.forall_mem_cons.mpr ⟨lw_p1, List.forall_mem_cons.mpr ⟨lw_p2, List.forall_mem_cons.mpr ⟨lw_p3, List.forall_mem_cons.mpr ⟨lw_p4, List.forall_mem_cons.mpr ⟨lw_p5, List.forall_mem_cons.mpr ⟨lw_p6, List.forall_mem_cons.mpr ⟨lw_p7, List.forall_mem_cons.mpr ⟨lw_p8, List.forall_mem_cons.mpr ⟨lw_p9, List.forall_mem_cons.mpr ⟨lw_p10, List.forall_mem_cons.mpr ⟨lw_p11, List.forall_mem_cons.mpr ⟨lw_p12, List.forall_mem_cons.mpr ⟨lw_p13, List.forall_mem_cons.mpr ⟨lw_p14, List.forall_mem_cons.mpr ⟨lw_p15, fun _ h => absurd h List.not_mem_nil⟩⟩⟩⟩⟩⟩⟩⟩⟩⟩⟩⟩⟩⟩⟩⟩
theorem lw_p16 : lw_okq (⟨"YearLines", "eventsOfNoOther", "(I)I"⟩, 11) := ⟨⟨by decide +kernel, by decide +kernel⟩, List.mem_of_getElem? (i := 12) (by decide +kernel), List.mem_of_getElem? (i := 456) (by decide +kernel), List.mem_of_getElem? (i := 457) (by decide +kernel)⟩
theorem lw_p17 : lw_okq (⟨"YearLines", "knotsNow", "()I"⟩, 11) := ⟨⟨by decide +kernel, by decide +kernel⟩, List.mem_of_getElem? (i := 12) (by decide +kernel), List.mem_of_getElem? (i := 460) (by decide +kernel), List.mem_of_getElem? (i := 461) (by decide +kernel)⟩
theorem lw_p18 : lw_okq (⟨"YearLines$Order", "empty", "()V"⟩, 2) := ⟨⟨by decide +kernel, by decide +kernel⟩, List.mem_of_getElem? (i := 159) (by decide +kernel), List.mem_of_getElem? (i := 468) (by decide +kernel), List.mem_of_getElem? (i := 469) (by decide +kernel)⟩
theorem lw_p19 : lw_okq (⟨"YearLines$Order", "ask", "(LYearLines$House;I)V"⟩, 2) := ⟨⟨by decide +kernel, by decide +kernel⟩, List.mem_of_getElem? (i := 159) (by decide +kernel), List.mem_of_getElem? (i := 472) (by decide +kernel), List.mem_of_getElem? (i := 473) (by decide +kernel)⟩
theorem lw_p20 : lw_okq (⟨"YearLines$Order", "chain", "()V"⟩, 2) := ⟨⟨by decide +kernel, by decide +kernel⟩, List.mem_of_getElem? (i := 159) (by decide +kernel), List.mem_of_getElem? (i := 476) (by decide +kernel), List.mem_of_getElem? (i := 477) (by decide +kernel)⟩
theorem lw_p21 : lw_okq (⟨"YearLines", "housesAbove", "(I)I"⟩, 11) := ⟨⟨by decide +kernel, by decide +kernel⟩, List.mem_of_getElem? (i := 12) (by decide +kernel), List.mem_of_getElem? (i := 488) (by decide +kernel), List.mem_of_getElem? (i := 489) (by decide +kernel)⟩
theorem lw_p22 : lw_okq (⟨"YearLines", "dateOf", "(I)I"⟩, 11) := ⟨⟨by decide +kernel, by decide +kernel⟩, List.mem_of_getElem? (i := 12) (by decide +kernel), List.mem_of_getElem? (i := 508) (by decide +kernel), List.mem_of_getElem? (i := 509) (by decide +kernel)⟩
theorem lw_p23 : lw_okq (⟨"YearLines$Order", "lowestFree", "(I)I"⟩, 2) := ⟨⟨by decide +kernel, by decide +kernel⟩, List.mem_of_getElem? (i := 159) (by decide +kernel), List.mem_of_getElem? (i := 530) (by decide +kernel), List.mem_of_getElem? (i := 531) (by decide +kernel)⟩
theorem lw_p24 : lw_okq (⟨"YearLines", "maySeem", "(II)Z"⟩, 11) := ⟨⟨by decide +kernel, by decide +kernel⟩, List.mem_of_getElem? (i := 12) (by decide +kernel), List.mem_of_getElem? (i := 550) (by decide +kernel), List.mem_of_getElem? (i := 551) (by decide +kernel)⟩
theorem lw_p25 : lw_okq (⟨"YearLinesModel", "reads", "()Z"⟩, 25) := ⟨⟨by decide +kernel, by decide +kernel⟩, List.mem_of_getElem? (i := 575) (by decide +kernel), List.mem_of_getElem? (i := 674) (by decide +kernel), List.mem_of_getElem? (i := 675) (by decide +kernel)⟩
theorem lw_p26 : lw_okq (⟨"YearLinesModel", "take", "()V"⟩, 25) := ⟨⟨by decide +kernel, by decide +kernel⟩, List.mem_of_getElem? (i := 575) (by decide +kernel), List.mem_of_getElem? (i := 678) (by decide +kernel), List.mem_of_getElem? (i := 679) (by decide +kernel)⟩
theorem lw_p27 : lw_okq (⟨"YearLinesModel", "readsSlack", "()Z"⟩, 25) := ⟨⟨by decide +kernel, by decide +kernel⟩, List.mem_of_getElem? (i := 575) (by decide +kernel), List.mem_of_getElem? (i := 687) (by decide +kernel), List.mem_of_getElem? (i := 688) (by decide +kernel)⟩
theorem lw_p28 : lw_okq (⟨"YearLinesModel", "isNumber", "(II)Z"⟩, 25) := ⟨⟨by decide +kernel, by decide +kernel⟩, List.mem_of_getElem? (i := 575) (by decide +kernel), List.mem_of_getElem? (i := 691) (by decide +kernel), List.mem_of_getElem? (i := 692) (by decide +kernel)⟩
theorem lw_p29 : lw_okq (⟨"YearLinesModel", "readsEnd", "()Z"⟩, 25) := ⟨⟨by decide +kernel, by decide +kernel⟩, List.mem_of_getElem? (i := 575) (by decide +kernel), List.mem_of_getElem? (i := 695) (by decide +kernel), List.mem_of_getElem? (i := 696) (by decide +kernel)⟩
theorem lw_p30 : lw_okq (⟨"YearLinesModel", "readsHouse", "()Z"⟩, 25) := ⟨⟨by decide +kernel, by decide +kernel⟩, List.mem_of_getElem? (i := 575) (by decide +kernel), List.mem_of_getElem? (i := 699) (by decide +kernel), List.mem_of_getElem? (i := 700) (by decide +kernel)⟩
theorem lw_p31 : lw_okq (⟨"YearLinesModel", "isEvent", "()Z"⟩, 25) := ⟨⟨by decide +kernel, by decide +kernel⟩, List.mem_of_getElem? (i := 575) (by decide +kernel), List.mem_of_getElem? (i := 703) (by decide +kernel), List.mem_of_getElem? (i := 704) (by decide +kernel)⟩
def lw_privs_2 : List (MethodName × Nat) := [(⟨"YearLines", "eventsOfNoOther", "(I)I"⟩, 11), (⟨"YearLines", "knotsNow", "()I"⟩, 11), (⟨"YearLines$Order", "empty", "()V"⟩, 2), (⟨"YearLines$Order", "ask", "(LYearLines$House;I)V"⟩, 2), (⟨"YearLines$Order", "chain", "()V"⟩, 2), (⟨"YearLines", "housesAbove", "(I)I"⟩, 11), (⟨"YearLines", "dateOf", "(I)I"⟩, 11), (⟨"YearLines$Order", "lowestFree", "(I)I"⟩, 2), (⟨"YearLines", "maySeem", "(II)Z"⟩, 11), (⟨"YearLinesModel", "reads", "()Z"⟩, 25), (⟨"YearLinesModel", "take", "()V"⟩, 25), (⟨"YearLinesModel", "readsSlack", "()Z"⟩, 25), (⟨"YearLinesModel", "isNumber", "(II)Z"⟩, 25), (⟨"YearLinesModel", "readsEnd", "()Z"⟩, 25), (⟨"YearLinesModel", "readsHouse", "()Z"⟩, 25), (⟨"YearLinesModel", "isEvent", "()Z"⟩, 25)]
theorem lw_r2 : ∀ q ∈ lw_privs_2, lw_okq q := List.forall_mem_cons.mpr ⟨lw_p16, List.forall_mem_cons.mpr ⟨lw_p17, List.forall_mem_cons.mpr ⟨lw_p18, List.forall_mem_cons.mpr ⟨lw_p19, List.forall_mem_cons.mpr ⟨lw_p20, List.forall_mem_cons.mpr ⟨lw_p21, List.forall_mem_cons.mpr ⟨lw_p22, List.forall_mem_cons.mpr ⟨lw_p23, List.forall_mem_cons.mpr ⟨lw_p24, List.forall_mem_cons.mpr ⟨lw_p25, List.forall_mem_cons.mpr ⟨lw_p26, List.forall_mem_cons.mpr ⟨lw_p27, List.forall_mem_cons.mpr ⟨lw_p28, List.forall_mem_cons.mpr ⟨lw_p29, List.forall_mem_cons.mpr ⟨lw_p30, List.forall_mem_cons.mpr ⟨lw_p31, fun _ h => absurd h List.not_mem_nil⟩⟩⟩⟩⟩⟩⟩⟩⟩⟩⟩⟩⟩⟩⟩⟩
theorem lw_p32 : lw_okq (⟨"YearLinesModel", "isHouse", "(I)Z"⟩, 25) := ⟨⟨by decide +kernel, by decide +kernel⟩, List.mem_of_getElem? (i := 575) (by decide +kernel), List.mem_of_getElem? (i := 713) (by decide +kernel), List.mem_of_getElem? (i := 714) (by decide +kernel)⟩
theorem lw_p33 : lw_okq (⟨"YearLinesModel", "spans", "(II)I"⟩, 25) := ⟨⟨by decide +kernel, by decide +kernel⟩, List.mem_of_getElem? (i := 575) (by decide +kernel), List.mem_of_getElem? (i := 719) (by decide +kernel), List.mem_of_getElem? (i := 720) (by decide +kernel)⟩
theorem lw_p34 : lw_okq (⟨"YearLinesModel", "both", "(II)I"⟩, 25) := ⟨⟨by decide +kernel, by decide +kernel⟩, List.mem_of_getElem? (i := 575) (by decide +kernel), List.mem_of_getElem? (i := 723) (by decide +kernel), List.mem_of_getElem? (i := 724) (by decide +kernel)⟩
theorem lw_p35 : lw_okq (⟨"YearLinesModel", "counts", "(II)Z"⟩, 25) := ⟨⟨by decide +kernel, by decide +kernel⟩, List.mem_of_getElem? (i := 575) (by decide +kernel), List.mem_of_getElem? (i := 727) (by decide +kernel), List.mem_of_getElem? (i := 728) (by decide +kernel)⟩
theorem lw_p36 : lw_okq (⟨"YearLinesModel", "isEntry", "(II)Z"⟩, 25) := ⟨⟨by decide +kernel, by decide +kernel⟩, List.mem_of_getElem? (i := 575) (by decide +kernel), List.mem_of_getElem? (i := 731) (by decide +kernel), List.mem_of_getElem? (i := 732) (by decide +kernel)⟩
theorem lw_p37 : lw_okq (⟨"YearLinesModel", "yearIn", "(II)I"⟩, 25) := ⟨⟨by decide +kernel, by decide +kernel⟩, List.mem_of_getElem? (i := 575) (by decide +kernel), List.mem_of_getElem? (i := 738) (by decide +kernel), List.mem_of_getElem? (i := 739) (by decide +kernel)⟩
theorem lw_p38 : lw_okq (⟨"YearLinesModel", "spanEnd", "(II)I"⟩, 25) := ⟨⟨by decide +kernel, by decide +kernel⟩, List.mem_of_getElem? (i := 575) (by decide +kernel), List.mem_of_getElem? (i := 742) (by decide +kernel), List.mem_of_getElem? (i := 743) (by decide +kernel)⟩
theorem lw_p39 : lw_okq (⟨"YearLinesModel", "shiftOf", "(I)I"⟩, 25) := ⟨⟨by decide +kernel, by decide +kernel⟩, List.mem_of_getElem? (i := 575) (by decide +kernel), List.mem_of_getElem? (i := 751) (by decide +kernel), List.mem_of_getElem? (i := 752) (by decide +kernel)⟩
theorem lw_p40 : lw_okq (⟨"YearLinesModel", "agreed", "(IZ)I"⟩, 25) := ⟨⟨by decide +kernel, by decide +kernel⟩, List.mem_of_getElem? (i := 575) (by decide +kernel), List.mem_of_getElem? (i := 758) (by decide +kernel), List.mem_of_getElem? (i := 759) (by decide +kernel)⟩
theorem lw_p41 : lw_okq (⟨"YearLinesModel", "measured", "(II)I"⟩, 25) := ⟨⟨by decide +kernel, by decide +kernel⟩, List.mem_of_getElem? (i := 575) (by decide +kernel), List.mem_of_getElem? (i := 767) (by decide +kernel), List.mem_of_getElem? (i := 768) (by decide +kernel)⟩
theorem lw_p42 : lw_okq (⟨"YearLinesModel", "sizeOf", "(I)I"⟩, 25) := ⟨⟨by decide +kernel, by decide +kernel⟩, List.mem_of_getElem? (i := 575) (by decide +kernel), List.mem_of_getElem? (i := 771) (by decide +kernel), List.mem_of_getElem? (i := 772) (by decide +kernel)⟩
theorem lw_p43 : lw_okq (⟨"YearLinesModel", "aloneIn", "(I)I"⟩, 25) := ⟨⟨by decide +kernel, by decide +kernel⟩, List.mem_of_getElem? (i := 575) (by decide +kernel), List.mem_of_getElem? (i := 778) (by decide +kernel), List.mem_of_getElem? (i := 779) (by decide +kernel)⟩
theorem lw_p44 : lw_okq (⟨"YearLinesModel", "housesOf", "(I)I"⟩, 25) := ⟨⟨by decide +kernel, by decide +kernel⟩, List.mem_of_getElem? (i := 575) (by decide +kernel), List.mem_of_getElem? (i := 782) (by decide +kernel), List.mem_of_getElem? (i := 783) (by decide +kernel)⟩
theorem lw_p45 : lw_okq (⟨"YearLinesModel", "knotsIn", "(I)I"⟩, 25) := ⟨⟨by decide +kernel, by decide +kernel⟩, List.mem_of_getElem? (i := 575) (by decide +kernel), List.mem_of_getElem? (i := 786) (by decide +kernel), List.mem_of_getElem? (i := 787) (by decide +kernel)⟩
theorem lw_p46 : lw_okq (⟨"YearLinesModel", "knots", "()I"⟩, 25) := ⟨⟨by decide +kernel, by decide +kernel⟩, List.mem_of_getElem? (i := 575) (by decide +kernel), List.mem_of_getElem? (i := 790) (by decide +kernel), List.mem_of_getElem? (i := 791) (by decide +kernel)⟩
theorem lw_p47 : lw_okq (⟨"YearLinesModel", "laysChains", "()V"⟩, 25) := ⟨⟨by decide +kernel, by decide +kernel⟩, List.mem_of_getElem? (i := 575) (by decide +kernel), List.mem_of_getElem? (i := 794) (by decide +kernel), List.mem_of_getElem? (i := 795) (by decide +kernel)⟩
def lw_privs_3 : List (MethodName × Nat) := [(⟨"YearLinesModel", "isHouse", "(I)Z"⟩, 25), (⟨"YearLinesModel", "spans", "(II)I"⟩, 25), (⟨"YearLinesModel", "both", "(II)I"⟩, 25), (⟨"YearLinesModel", "counts", "(II)Z"⟩, 25), (⟨"YearLinesModel", "isEntry", "(II)Z"⟩, 25), (⟨"YearLinesModel", "yearIn", "(II)I"⟩, 25), (⟨"YearLinesModel", "spanEnd", "(II)I"⟩, 25), (⟨"YearLinesModel", "shiftOf", "(I)I"⟩, 25), (⟨"YearLinesModel", "agreed", "(IZ)I"⟩, 25), (⟨"YearLinesModel", "measured", "(II)I"⟩, 25), (⟨"YearLinesModel", "sizeOf", "(I)I"⟩, 25), (⟨"YearLinesModel", "aloneIn", "(I)I"⟩, 25), (⟨"YearLinesModel", "housesOf", "(I)I"⟩, 25), (⟨"YearLinesModel", "knotsIn", "(I)I"⟩, 25), (⟨"YearLinesModel", "knots", "()I"⟩, 25), (⟨"YearLinesModel", "laysChains", "()V"⟩, 25)]
theorem lw_r3 : ∀ q ∈ lw_privs_3, lw_okq q := List.forall_mem_cons.mpr ⟨lw_p32, List.forall_mem_cons.mpr ⟨lw_p33, List.forall_mem_cons.mpr ⟨lw_p34, List.forall_mem_cons.mpr ⟨lw_p35, List.forall_mem_cons.mpr ⟨lw_p36, List.forall_mem_cons.mpr ⟨lw_p37, List.forall_mem_cons.mpr ⟨lw_p38, List.forall_mem_cons.mpr ⟨lw_p39, List.forall_mem_cons.mpr ⟨lw_p40, List.forall_mem_cons.mpr ⟨lw_p41, List.forall_mem_cons.mpr ⟨lw_p42, List.forall_mem_cons.mpr ⟨lw_p43, List.forall_mem_cons.mpr ⟨lw_p44, List.forall_mem_cons.mpr ⟨lw_p45, List.forall_mem_cons.mpr ⟨lw_p46, List.forall_mem_cons.mpr ⟨lw_p47, fun _ h => absurd h List.not_mem_nil⟩⟩⟩⟩⟩⟩⟩⟩⟩⟩⟩⟩⟩⟩⟩⟩
theorem lw_p48 : lw_okq (⟨"YearLinesModel", "aheadOf", "(I)I"⟩, 25) := ⟨⟨by decide +kernel, by decide +kernel⟩, List.mem_of_getElem? (i := 575) (by decide +kernel), List.mem_of_getElem? (i := 798) (by decide +kernel), List.mem_of_getElem? (i := 799) (by decide +kernel)⟩
theorem lw_p49 : lw_okq (⟨"YearLinesModel", "minds", "()V"⟩, 25) := ⟨⟨by decide +kernel, by decide +kernel⟩, List.mem_of_getElem? (i := 575) (by decide +kernel), List.mem_of_getElem? (i := 836) (by decide +kernel), List.mem_of_getElem? (i := 837) (by decide +kernel)⟩
theorem lw_p50 : lw_okq (⟨"YearLinesModel", "copy", "(II)V"⟩, 25) := ⟨⟨by decide +kernel, by decide +kernel⟩, List.mem_of_getElem? (i := 575) (by decide +kernel), List.mem_of_getElem? (i := 840) (by decide +kernel), List.mem_of_getElem? (i := 841) (by decide +kernel)⟩
theorem lw_p51 : lw_okq (⟨"YearLinesModel", "isUnseen", "(II)Z"⟩, 25) := ⟨⟨by decide +kernel, by decide +kernel⟩, List.mem_of_getElem? (i := 575) (by decide +kernel), List.mem_of_getElem? (i := 871) (by decide +kernel), List.mem_of_getElem? (i := 872) (by decide +kernel)⟩
theorem lw_p52 : lw_okq (⟨"YearLinesModel", "entries", "()I"⟩, 25) := ⟨⟨by decide +kernel, by decide +kernel⟩, List.mem_of_getElem? (i := 575) (by decide +kernel), List.mem_of_getElem? (i := 887) (by decide +kernel), List.mem_of_getElem? (i := 888) (by decide +kernel)⟩
theorem lw_p53 : lw_okq (⟨"YearLinesModel", "events", "()I"⟩, 25) := ⟨⟨by decide +kernel, by decide +kernel⟩, List.mem_of_getElem? (i := 575) (by decide +kernel), List.mem_of_getElem? (i := 891) (by decide +kernel), List.mem_of_getElem? (i := 892) (by decide +kernel)⟩
def lw_privs_4 : List (MethodName × Nat) := [(⟨"YearLinesModel", "aheadOf", "(I)I"⟩, 25), (⟨"YearLinesModel", "minds", "()V"⟩, 25), (⟨"YearLinesModel", "copy", "(II)V"⟩, 25), (⟨"YearLinesModel", "isUnseen", "(II)Z"⟩, 25), (⟨"YearLinesModel", "entries", "()I"⟩, 25), (⟨"YearLinesModel", "events", "()I"⟩, 25)]
theorem lw_r4 : ∀ q ∈ lw_privs_4, lw_okq q := List.forall_mem_cons.mpr ⟨lw_p48, List.forall_mem_cons.mpr ⟨lw_p49, List.forall_mem_cons.mpr ⟨lw_p50, List.forall_mem_cons.mpr ⟨lw_p51, List.forall_mem_cons.mpr ⟨lw_p52, List.forall_mem_cons.mpr ⟨lw_p53, fun _ h => absurd h List.not_mem_nil⟩⟩⟩⟩⟩⟩
def lw_privs : List (MethodName × Nat) := lw_privs_1 ++ (lw_privs_2 ++ (lw_privs_3 ++ (lw_privs_4)))
def lw_tbl : List Cond := k2_sels lw_privs ++ tables_1
theorem lw_privs_ok : ∀ q ∈ lw_privs, lw_okq q := by
  show ∀ q ∈ lw_privs_1 ++ (lw_privs_2 ++ (lw_privs_3 ++ (lw_privs_4))), lw_okq q
  exact List.forall_mem_append.mpr ⟨lw_r1, List.forall_mem_append.mpr ⟨lw_r2, List.forall_mem_append.mpr ⟨lw_r3, lw_r4⟩⟩⟩
end
section
/-! ===== BEGIN words of one list among another's, by their places ===== -/
theorem goodIn_r {big : List Cond} (ws : List Cond) (ps : List Nat) (hp : ws = ps.filterMap (fun i => big[i]?)) (h : ws.all goodWord = true) : GoodIn big ws := by
  intro w hw
  have h1 := List.all_eq_true.mp h w hw
  rw [hp] at hw
  obtain ⟨i, -, hi⟩ := List.mem_filterMap.mp hw
  have hm : w ∈ big := by first | exact List.mem_of_getElem? hi | exact List.getElem?_mem hi
  exact ⟨hm, good_of_word h1⟩
theorem goodIn_app {big a b : List Cond} (ha : GoodIn big a) (hb : GoodIn big b) : GoodIn big (a ++ b) := fun w h => (List.mem_append.mp h).elim (ha w) (hb w)
theorem goodIn_ca {big a b : List Cond} {c : Cond} (ha : GoodIn big (c :: a)) (hb : GoodIn big b) : GoodIn big (c :: (a ++ b)) := fun w h => (List.mem_cons.mp h).elim (fun e => ha w (List.mem_cons.mpr (Or.inl e))) (fun h => (List.mem_append.mp h).elim (fun h => ha w (List.mem_cons.mpr (Or.inr h))) (hb w))
theorem goodIn_sub {big ws : List Cond} (hm : ∀ w ∈ ws, w ∈ big) (h : ws.all goodWord = true) : GoodIn big ws := fun w hw => ⟨hm w hw, good_of_word (List.all_eq_true.mp h w hw)⟩
/-! ===== END ===== -/

/-! ===== BEGIN printed: names, fields, word lists, decode rows ===== -/
def RX0 : String := "YearLines$Chronicle"
def TX0 : u_T := fun k => match k with
  | 0 => ("YearLines$Chronicle", "all", "[LYearLines$House;", true)
  | 1 => ("YearLines$Chronicle", "size", "I", false)
  | _ => ("YearLines$Chronicle", "slack", "I", false)
def tyX0 : Nat → FieldType := fun k => match k with
  | 0 => .array (.object "YearLines$House")
  | 1 => .int
  | _ => .int
abbrev wsX00 : List Cond := u_ws RX0 TX0 3
theorem nmX0 : ∀ a, a < 3 → ∀ b, b < 3 → a ≠ b → (TX0 a).2.1 ≠ (TX0 b).2.1 := by decide +kernel
theorem tyX0_ok : ∀ k, k < 3 → parseFieldDescriptor (TX0 k).2.2.1 = some (tyX0 k) := by decide +kernel
abbrev cX0_init : ByteArray := prog_2_method_1_code
def yX0_init : MethodName := ⟨RX0, "<init>", "()V"⟩
abbrev cX0_empty : ByteArray := prog_2_method_2_code
def yX0_empty : MethodName := ⟨RX0, "empty", "()V"⟩
abbrev cX0_copy : ByteArray := prog_2_method_3_code
def yX0_copy : MethodName := ⟨RX0, "copy", "(LYearLines$Chronicle;)V"⟩
abbrev cX0_hasHouse : ByteArray := prog_2_method_4_code
def yX0_hasHouse : MethodName := ⟨RX0, "hasHouse", "(I)Z"⟩
abbrev cX0_hasEntry : ByteArray := prog_2_method_5_code
def yX0_hasEntry : MethodName := ⟨RX0, "hasEntry", "(II)Z"⟩
abbrev cX0_latest : ByteArray := prog_2_method_6_code
def yX0_latest : MethodName := ⟨RX0, "latest", "()LYearLines$House;"⟩
abbrev cX0_entriesLeft : ByteArray := prog_2_method_7_code
def yX0_entriesLeft : MethodName := ⟨RX0, "entriesLeft", "()I"⟩
abbrev cX0_eventBits : ByteArray := prog_2_method_8_code
def yX0_eventBits : MethodName := ⟨RX0, "eventBits", "()I"⟩
abbrev cX0_housesThatHave : ByteArray := prog_2_method_9_code
def yX0_housesThatHave : MethodName := ⟨RX0, "housesThatHave", "(I)I"⟩
def RX1 : String := "YearLines$Deeds"
def TX1 : u_T := fun k => match k with
  | 0 => ("YearLines$Deeds", "size", "I", false)
  | 1 => ("YearLines$Deeds", "kinds", "[I", true)
  | 2 => ("YearLines$Deeds", "places", "[I", true)
  | 3 => ("YearLines$Deeds", "entries", "[I", true)
  | _ => ("YearLines$Deeds", "olds", "[I", true)
def tyX1 : Nat → FieldType := fun k => match k with
  | 0 => .int
  | 1 => .array .int
  | 2 => .array .int
  | 3 => .array .int
  | _ => .array .int
abbrev wsX10 : List Cond := u_ws RX1 TX1 5
theorem nmX1 : ∀ a, a < 5 → ∀ b, b < 5 → a ≠ b → (TX1 a).2.1 ≠ (TX1 b).2.1 := by decide +kernel
theorem tyX1_ok : ∀ k, k < 5 → parseFieldDescriptor (TX1 k).2.2.1 = some (tyX1 k) := by decide +kernel
abbrev cX1_init : ByteArray := prog_3_method_1_code
def yX1_init : MethodName := ⟨RX1, "<init>", "()V"⟩
abbrev cX1_add : ByteArray := prog_3_method_2_code
def yX1_add : MethodName := ⟨RX1, "add", "(IIII)V"⟩
abbrev cX1_loseOldest : ByteArray := prog_3_method_3_code
def yX1_loseOldest : MethodName := ⟨RX1, "loseOldest", "()V"⟩
abbrev cX1_takeBack : ByteArray := prog_3_method_4_code
def yX1_takeBack : MethodName := ⟨RX1, "takeBack", "(LYearLines$Chronicle;)V"⟩
abbrev cX1_takeBackEntry : ByteArray := prog_3_method_5_code
def yX1_takeBackEntry : MethodName := ⟨RX1, "takeBackEntry", "(LYearLines$House;I)V"⟩
def RX2 : String := "YearLines$House"
def TX2 : u_T := fun k => match k with
  | 0 => ("YearLines$House", "events", "[I", true)
  | 1 => ("YearLines$House", "years", "[I", true)
  | 2 => ("YearLines$House", "size", "I", false)
  | _ => ("YearLines$House", "struckBits", "I", false)
def tyX2 : Nat → FieldType := fun k => match k with
  | 0 => .array .int
  | 1 => .array .int
  | 2 => .int
  | _ => .int
abbrev wsX20 : List Cond := u_ws RX2 TX2 4
theorem nmX2 : ∀ a, a < 4 → ∀ b, b < 4 → a ≠ b → (TX2 a).2.1 ≠ (TX2 b).2.1 := by decide +kernel
theorem tyX2_ok : ∀ k, k < 4 → parseFieldDescriptor (TX2 k).2.2.1 = some (tyX2 k) := by decide +kernel
abbrev cX2_init : ByteArray := prog_4_method_1_code
def yX2_init : MethodName := ⟨RX2, "<init>", "()V"⟩
abbrev cX2_empty : ByteArray := prog_4_method_2_code
def yX2_empty : MethodName := ⟨RX2, "empty", "()V"⟩
abbrev cX2_copy : ByteArray := prog_4_method_3_code
def yX2_copy : MethodName := ⟨RX2, "copy", "(LYearLines$House;)V"⟩
abbrev cX2_add : ByteArray := prog_4_method_4_code
def yX2_add : MethodName := ⟨RX2, "add", "(II)Z"⟩
abbrev cX2_isStruck : ByteArray := prog_4_method_5_code
def yX2_isStruck : MethodName := ⟨RX2, "isStruck", "(I)Z"⟩
abbrev cX2_turn : ByteArray := prog_4_method_6_code
def yX2_turn : MethodName := ⟨RX2, "turn", "(I)V"⟩
abbrev cX2_mayTell : ByteArray := prog_4_method_7_code
def yX2_mayTell : MethodName := ⟨RX2, "mayTell", "(II)Z"⟩
abbrev cX2_entriesLeft : ByteArray := prog_4_method_8_code
def yX2_entriesLeft : MethodName := ⟨RX2, "entriesLeft", "()I"⟩
abbrev cX2_eventBits : ByteArray := prog_4_method_9_code
def yX2_eventBits : MethodName := ⟨RX2, "eventBits", "()I"⟩
abbrev cX2_placeOf : ByteArray := prog_4_method_10_code
def yX2_placeOf : MethodName := ⟨RX2, "placeOf", "(I)I"⟩
def RX3 : String := "YearLines$Order"
def TX3 : u_T := fun k => match k with
  | 0 => ("YearLines$Order", "ahead", "[I", true)
  | _ => ("YearLines$Order", "chains", "[I", true)
def tyX3 : Nat → FieldType := fun k => match k with
  | 0 => .array .int
  | _ => .array .int
abbrev wsX30 : List Cond := u_ws RX3 TX3 2
theorem nmX3 : ∀ a, a < 2 → ∀ b, b < 2 → a ≠ b → (TX3 a).2.1 ≠ (TX3 b).2.1 := by decide +kernel
theorem tyX3_ok : ∀ k, k < 2 → parseFieldDescriptor (TX3 k).2.2.1 = some (tyX3 k) := by decide +kernel
abbrev cX3_init : ByteArray := prog_5_method_1_code
def yX3_init : MethodName := ⟨RX3, "<init>", "()V"⟩
abbrev cX3_look : ByteArray := prog_5_method_2_code
def yX3_look : MethodName := ⟨RX3, "look", "(LYearLines$Chronicle;I)V"⟩
abbrev cX3_lookStruck : ByteArray := prog_5_method_3_code
def yX3_lookStruck : MethodName := ⟨RX3, "lookStruck", "(LYearLines$Chronicle;II)V"⟩
abbrev cX3_empty : ByteArray := prog_5_method_4_code
def yX3_empty : MethodName := ⟨RX3, "empty", "()V"⟩
abbrev cX3_ask : ByteArray := prog_5_method_5_code
def yX3_ask : MethodName := ⟨RX3, "ask", "(LYearLines$House;I)V"⟩
abbrev cX3_chain : ByteArray := prog_5_method_6_code
def yX3_chain : MethodName := ⟨RX3, "chain", "()V"⟩
abbrev cX3_knots : ByteArray := prog_5_method_7_code
def yX3_knots : MethodName := ⟨RX3, "knots", "()I"⟩
abbrev cX3_inLine : ByteArray := prog_5_method_8_code
def yX3_inLine : MethodName := ⟨RX3, "inLine", "(II)I"⟩
abbrev cX3_lowestFree : ByteArray := prog_5_method_9_code
def yX3_lowestFree : MethodName := ⟨RX3, "lowestFree", "(I)I"⟩
def RX4 : String := "YearLines$Pair"
def TX4 : u_T := fun k => match k with
  | 0 => ("YearLines$Pair", "events", "[I", true)
  | 1 => ("YearLines$Pair", "offsets", "[I", true)
  | _ => ("YearLines$Pair", "size", "I", false)
def tyX4 : Nat → FieldType := fun k => match k with
  | 0 => .array .int
  | 1 => .array .int
  | _ => .int
abbrev wsX40 : List Cond := u_ws RX4 TX4 3
theorem nmX4 : ∀ a, a < 3 → ∀ b, b < 3 → a ≠ b → (TX4 a).2.1 ≠ (TX4 b).2.1 := by decide +kernel
theorem tyX4_ok : ∀ k, k < 3 → parseFieldDescriptor (TX4 k).2.2.1 = some (tyX4 k) := by decide +kernel
abbrev cX4_init : ByteArray := prog_6_method_1_code
def yX4_init : MethodName := ⟨RX4, "<init>", "()V"⟩
abbrev cX4_join : ByteArray := prog_6_method_2_code
def yX4_join : MethodName := ⟨RX4, "join", "(LYearLines$House;LYearLines$House;)V"⟩
abbrev cX4_spanEnd : ByteArray := prog_6_method_3_code
def yX4_spanEnd : MethodName := ⟨RX4, "spanEnd", "(II)I"⟩
abbrev cX4_spans : ByteArray := prog_6_method_4_code
def yX4_spans : MethodName := ⟨RX4, "spans", "(I)I"⟩
abbrev cX4_spanStart : ByteArray := prog_6_method_5_code
def yX4_spanStart : MethodName := ⟨RX4, "spanStart", "(II)I"⟩
abbrev cX4_leastOffset : ByteArray := prog_6_method_6_code
def yX4_leastOffset : MethodName := ⟨RX4, "leastOffset", "(II)I"⟩
abbrev cX4_commonestOffset : ByteArray := prog_6_method_7_code
def yX4_commonestOffset : MethodName := ⟨RX4, "commonestOffset", "()I"⟩
abbrev cX4_isNearer : ByteArray := prog_6_method_8_code
def yX4_isNearer : MethodName := ⟨RX4, "isNearer", "(II)Z"⟩
abbrev cX4_eventsWith : ByteArray := prog_6_method_9_code
def yX4_eventsWith : MethodName := ⟨RX4, "eventsWith", "(I)I"⟩
abbrev cX4_eventBits : ByteArray := prog_6_method_10_code
def yX4_eventBits : MethodName := ⟨RX4, "eventBits", "()I"⟩
def RX5 : String := "YearLines$Reader"
def TX5 : u_T := fun k => match k with
  | 0 => ("YearLines$Reader", "size", "I", false)
  | 1 => ("YearLines$Reader", "letters", "[I", true)
  | 2 => ("YearLines$Reader", "at", "I", false)
  | 3 => ("YearLines$Reader", "token", "I", false)
  | 4 => ("YearLines$Reader", "place", "I", false)
  | 5 => ("YearLines$Reader", "value", "I", false)
  | 6 => ("YearLines$Reader", "state", "I", false)
  | 7 => ("YearLines$Reader", "items", "I", false)
  | 8 => ("YearLines$Reader", "eventTold", "I", false)
  | _ => ("YearLines$Reader", "slackTold", "Z", false)
def tyX5 : Nat → FieldType := fun k => match k with
  | 0 => .int
  | 1 => .array .int
  | 2 => .int
  | 3 => .int
  | 4 => .int
  | 5 => .int
  | 6 => .int
  | 7 => .int
  | 8 => .int
  | _ => .boolean
abbrev wsX50 : List Cond := u_ws RX5 TX5 10
theorem nmX5 : ∀ a, a < 10 → ∀ b, b < 10 → a ≠ b → (TX5 a).2.1 ≠ (TX5 b).2.1 := by decide +kernel
theorem tyX5_ok : ∀ k, k < 10 → parseFieldDescriptor (TX5 k).2.2.1 = some (tyX5 k) := by decide +kernel
abbrev cX5_init : ByteArray := prog_7_method_1_code
def yX5_init : MethodName := ⟨RX5, "<init>", "()V"⟩
abbrev cX5_put : ByteArray := prog_7_method_2_code
def yX5_put : MethodName := ⟨RX5, "put", "(I)Z"⟩
abbrev cX5_read : ByteArray := prog_7_method_3_code
def yX5_read : MethodName := ⟨RX5, "read", "(LYearLines$Chronicle;)I"⟩
abbrev cX5_take : ByteArray := prog_7_method_4_code
def yX5_take : MethodName := ⟨RX5, "take", "(LYearLines$Chronicle;)Z"⟩
abbrev cX5_takeSlackSign : ByteArray := prog_7_method_5_code
def yX5_takeSlackSign : MethodName := ⟨RX5, "takeSlackSign", "()Z"⟩
abbrev cX5_takeSlack : ByteArray := prog_7_method_6_code
def yX5_takeSlack : MethodName := ⟨RX5, "takeSlack", "(LYearLines$Chronicle;)Z"⟩
abbrev cX5_takeHouseSign : ByteArray := prog_7_method_7_code
def yX5_takeHouseSign : MethodName := ⟨RX5, "takeHouseSign", "(LYearLines$Chronicle;)Z"⟩
abbrev cX5_takeEvent : ByteArray := prog_7_method_8_code
def yX5_takeEvent : MethodName := ⟨RX5, "takeEvent", "(LYearLines$Chronicle;)Z"⟩
abbrev cX5_takeYear : ByteArray := prog_7_method_9_code
def yX5_takeYear : MethodName := ⟨RX5, "takeYear", "(LYearLines$Chronicle;)Z"⟩
abbrev cX5_takeStop : ByteArray := prog_7_method_10_code
def yX5_takeStop : MethodName := ⟨RX5, "takeStop", "()Z"⟩
abbrev cX5_advance : ByteArray := prog_7_method_11_code
def yX5_advance : MethodName := ⟨RX5, "advance", "()V"⟩
abbrev cX5_isFigure : ByteArray := prog_7_method_12_code
def yX5_isFigure : MethodName := ⟨RX5, "isFigure", "(I)Z"⟩
abbrev cX5_signOf : ByteArray := prog_7_method_13_code
def yX5_signOf : MethodName := ⟨RX5, "signOf", "(I)I"⟩
abbrev cX5_takeNumber : ByteArray := prog_7_method_14_code
def yX5_takeNumber : MethodName := ⟨RX5, "takeNumber", "()V"⟩
def RX6 : String := "YearLines"
def TX6 : u_T := fun k => match k with
  | 0 => ("YearLines", "reader", "LYearLines$Reader;", true)
  | 1 => ("YearLines", "now", "LYearLines$Chronicle;", true)
  | 2 => ("YearLines", "draft", "LYearLines$Chronicle;", true)
  | 3 => ("YearLines", "images", "[LYearLines$Chronicle;", true)
  | 4 => ("YearLines", "imagesKept", "I", false)
  | 5 => ("YearLines", "deeds", "LYearLines$Deeds;", true)
  | 6 => ("YearLines", "pair", "LYearLines$Pair;", true)
  | 7 => ("YearLines", "order", "LYearLines$Order;", true)
  | 8 => ("YearLines", "measures", "[I", true)
  | 9 => ("YearLines", "seen", "[I", true)
  | _ => ("YearLines", "seenSize", "I", false)
def tyX6 : Nat → FieldType := fun k => match k with
  | 0 => .object "YearLines$Reader"
  | 1 => .object "YearLines$Chronicle"
  | 2 => .object "YearLines$Chronicle"
  | 3 => .array (.object "YearLines$Chronicle")
  | 4 => .int
  | 5 => .object "YearLines$Deeds"
  | 6 => .object "YearLines$Pair"
  | 7 => .object "YearLines$Order"
  | 8 => .array .int
  | 9 => .array .int
  | _ => .int
abbrev wsX60 : List Cond := u_ws RX6 TX6 11
theorem nmX6 : ∀ a, a < 11 → ∀ b, b < 11 → a ≠ b → (TX6 a).2.1 ≠ (TX6 b).2.1 := by decide +kernel
theorem tyX6_ok : ∀ k, k < 11 → parseFieldDescriptor (TX6 k).2.2.1 = some (tyX6 k) := by decide +kernel
abbrev cX6_init : ByteArray := prog_1_method_1_code
def yX6_init : MethodName := ⟨RX6, "<init>", "()V"⟩
abbrev cX6_type : ByteArray := prog_1_method_2_code
def yX6_type : MethodName := ⟨RX6, "type", "(I)I"⟩
abbrev cX6_clear : ByteArray := prog_1_method_3_code
def yX6_clear : MethodName := ⟨RX6, "clear", "()I"⟩
abbrev cX6_houses : ByteArray := prog_1_method_4_code
def yX6_houses : MethodName := ⟨RX6, "houses", "()I"⟩
abbrev cX6_entry : ByteArray := prog_1_method_5_code
def yX6_entry : MethodName := ⟨RX6, "entry", "(III)I"⟩
abbrev cX6_strikes : ByteArray := prog_1_method_6_code
def yX6_strikes : MethodName := ⟨RX6, "strikes", "(II)I"⟩
abbrev cX6_tells : ByteArray := prog_1_method_7_code
def yX6_tells : MethodName := ⟨RX6, "tells", "(III)I"⟩
abbrev cX6_slacks : ByteArray := prog_1_method_8_code
def yX6_slacks : MethodName := ⟨RX6, "slacks", "(I)I"⟩
abbrev cX6_undo : ByteArray := prog_1_method_9_code
def yX6_undo : MethodName := ⟨RX6, "undo", "()I"⟩
abbrev cX6_span : ByteArray := prog_1_method_10_code
def yX6_span : MethodName := ⟨RX6, "span", "(IIII)I"⟩
abbrev cX6_shift : ByteArray := prog_1_method_11_code
def yX6_shift : MethodName := ⟨RX6, "shift", "(II)I"⟩
abbrev cX6_measure : ByteArray := prog_1_method_12_code
def yX6_measure : MethodName := ⟨RX6, "measure", "(II)I"⟩
abbrev cX6_rank : ByteArray := prog_1_method_13_code
def yX6_rank : MethodName := ⟨RX6, "rank", "(II)I"⟩
abbrev cX6_event : ByteArray := prog_1_method_14_code
def yX6_event : MethodName := ⟨RX6, "event", "(II)I"⟩
abbrev cX6_date : ByteArray := prog_1_method_15_code
def yX6_date : MethodName := ⟨RX6, "date", "(I)I"⟩
abbrev cX6_late : ByteArray := prog_1_method_16_code
def yX6_late : MethodName := ⟨RX6, "late", "(II)I"⟩
abbrev cX6_line : ByteArray := prog_1_method_17_code
def yX6_line : MethodName := ⟨RX6, "line", "(I)I"⟩
abbrev cX6_without : ByteArray := prog_1_method_18_code
def yX6_without : MethodName := ⟨RX6, "without", "()I"⟩
abbrev cX6_sees : ByteArray := prog_1_method_19_code
def yX6_sees : MethodName := ⟨RX6, "sees", "(I)I"⟩
abbrev cX6_forget : ByteArray := prog_1_method_20_code
def yX6_forget : MethodName := ⟨RX6, "forget", "()I"⟩
abbrev cX6_unseen : ByteArray := prog_1_method_21_code
def yX6_unseen : MethodName := ⟨RX6, "unseen", "(I)I"⟩
abbrev cX6_keep : ByteArray := prog_1_method_22_code
def yX6_keep : MethodName := ⟨RX6, "keep", "(I)I"⟩
abbrev cX6_back : ByteArray := prog_1_method_23_code
def yX6_back : MethodName := ⟨RX6, "back", "(I)I"⟩
abbrev cX6_count : ByteArray := prog_1_method_24_code
def yX6_count : MethodName := ⟨RX6, "count", "(I)I"⟩
abbrev cX6_isEvent : ByteArray := prog_1_method_25_code
def yX6_isEvent : MethodName := ⟨RX6, "isEvent", "(I)Z"⟩
abbrev cX6_knotsNow : ByteArray := prog_1_method_26_code
def yX6_knotsNow : MethodName := ⟨RX6, "knotsNow", "()I"⟩
abbrev cX6_shiftOf : ByteArray := prog_1_method_27_code
def yX6_shiftOf : MethodName := ⟨RX6, "shiftOf", "(I)I"⟩
abbrev cX6_agreedOf : ByteArray := prog_1_method_28_code
def yX6_agreedOf : MethodName := ⟨RX6, "agreedOf", "(I)I"⟩
abbrev cX6_againstOf : ByteArray := prog_1_method_29_code
def yX6_againstOf : MethodName := ⟨RX6, "againstOf", "(I)I"⟩
abbrev cX6_measureOf : ByteArray := prog_1_method_30_code
def yX6_measureOf : MethodName := ⟨RX6, "measureOf", "(II)I"⟩
abbrev cX6_spansByFirst : ByteArray := prog_1_method_31_code
def yX6_spansByFirst : MethodName := ⟨RX6, "spansByFirst", "(I)I"⟩
abbrev cX6_eventsOfNoOther : ByteArray := prog_1_method_32_code
def yX6_eventsOfNoOther : MethodName := ⟨RX6, "eventsOfNoOther", "(I)I"⟩
abbrev cX6_housesAbove : ByteArray := prog_1_method_33_code
def yX6_housesAbove : MethodName := ⟨RX6, "housesAbove", "(I)I"⟩
abbrev cX6_dateOf : ByteArray := prog_1_method_34_code
def yX6_dateOf : MethodName := ⟨RX6, "dateOf", "(I)I"⟩
abbrev cX6_maySeem : ByteArray := prog_1_method_35_code
def yX6_maySeem : MethodName := ⟨RX6, "maySeem", "(II)Z"⟩
def RX7 : String := "YearLinesModel"
def TX7 : u_T := fun k => match k with
  | 0 => ("YearLinesModel", "w", "[I", true)
  | 1 => ("YearLinesModel", "isKept", "[Z", true)
  | 2 => ("YearLinesModel", "undos", "I", false)
  | 3 => ("YearLinesModel", "seenKnots", "[I", true)
  | 4 => ("YearLinesModel", "seen", "I", false)
  | 5 => ("YearLinesModel", "text", "[I", true)
  | 6 => ("YearLinesModel", "letters", "I", false)
  | 7 => ("YearLinesModel", "houses", "I", false)
  | 8 => ("YearLinesModel", "size", "[I", true)
  | 9 => ("YearLinesModel", "event", "[I", true)
  | 10 => ("YearLinesModel", "here", "I", false)
  | 11 => ("YearLinesModel", "begin", "I", false)
  | 12 => ("YearLinesModel", "token", "I", false)
  | 13 => ("YearLinesModel", "items", "I", false)
  | 14 => ("YearLinesModel", "newSlack", "I", false)
  | 15 => ("YearLinesModel", "newHouses", "I", false)
  | 16 => ("YearLinesModel", "newSize", "[I", true)
  | 17 => ("YearLinesModel", "newEvent", "[I", true)
  | 18 => ("YearLinesModel", "newYear", "[I", true)
  | 19 => ("YearLinesModel", "leftOut", "I", false)
  | 20 => ("YearLinesModel", "housesOut", "I", false)
  | 21 => ("YearLinesModel", "chain", "[I", true)
  | 22 => ("YearLinesModel", "bothEvent", "[I", true)
  | 23 => ("YearLinesModel", "bothOffset", "[I", true)
  | _ => ("YearLinesModel", "spanLow", "I", false)
def tyX7 : Nat → FieldType := fun k => match k with
  | 0 => .array .int
  | 1 => .array .boolean
  | 2 => .int
  | 3 => .array .int
  | 4 => .int
  | 5 => .array .int
  | 6 => .int
  | 7 => .int
  | 8 => .array .int
  | 9 => .array .int
  | 10 => .int
  | 11 => .int
  | 12 => .int
  | 13 => .int
  | 14 => .int
  | 15 => .int
  | 16 => .array .int
  | 17 => .array .int
  | 18 => .array .int
  | 19 => .int
  | 20 => .int
  | 21 => .array .int
  | 22 => .array .int
  | 23 => .array .int
  | _ => .int
abbrev wsX70 : List Cond := u_ws RX7 TX7 25
theorem nmX7 : ∀ a, a < 25 → ∀ b, b < 25 → a ≠ b → (TX7 a).2.1 ≠ (TX7 b).2.1 := by decide +kernel
theorem tyX7_ok : ∀ k, k < 25 → parseFieldDescriptor (TX7 k).2.2.1 = some (tyX7 k) := by decide +kernel
abbrev cX7_init : ByteArray := prog_9_method_1_code
def yX7_init : MethodName := ⟨RX7, "<init>", "()V"⟩
abbrev cX7_in : ByteArray := prog_9_method_3_code
def yX7_in : MethodName := ⟨RX7, "in", "(JJJ)Z"⟩
abbrev cX7_has : ByteArray := prog_9_method_4_code
def yX7_has : MethodName := ⟨RX7, "has", "(II)Z"⟩
abbrev cX7_ones : ByteArray := prog_9_method_5_code
def yX7_ones : MethodName := ⟨RX7, "ones", "(I)I"⟩
abbrev cX7_copy : ByteArray := prog_9_method_6_code
def yX7_copy : MethodName := ⟨RX7, "copy", "(II)V"⟩
abbrev cX7_minds : ByteArray := prog_9_method_7_code
def yX7_minds : MethodName := ⟨RX7, "minds", "()V"⟩
abbrev cX7_isDigit : ByteArray := prog_9_method_8_code
def yX7_isDigit : MethodName := ⟨RX7, "isDigit", "(I)Z"⟩
abbrev cX7_take : ByteArray := prog_9_method_9_code
def yX7_take : MethodName := ⟨RX7, "take", "()V"⟩
abbrev cX7_isNumber : ByteArray := prog_9_method_10_code
def yX7_isNumber : MethodName := ⟨RX7, "isNumber", "(II)Z"⟩
abbrev cX7_isEvent : ByteArray := prog_9_method_11_code
def yX7_isEvent : MethodName := ⟨RX7, "isEvent", "()Z"⟩
abbrev cX7_readsEnd : ByteArray := prog_9_method_12_code
def yX7_readsEnd : MethodName := ⟨RX7, "readsEnd", "()Z"⟩
abbrev cX7_readsSlack : ByteArray := prog_9_method_13_code
def yX7_readsSlack : MethodName := ⟨RX7, "readsSlack", "()Z"⟩
abbrev cX7_readsHouse : ByteArray := prog_9_method_14_code
def yX7_readsHouse : MethodName := ⟨RX7, "readsHouse", "()Z"⟩
abbrev cX7_reads : ByteArray := prog_9_method_15_code
def yX7_reads : MethodName := ⟨RX7, "reads", "()Z"⟩
abbrev cX7_type : ByteArray := prog_9_method_16_code
def yX7_type : MethodName := ⟨RX7, "type", "(I)I"⟩
abbrev cX7_clear : ByteArray := prog_9_method_17_code
def yX7_clear : MethodName := ⟨RX7, "clear", "()I"⟩
abbrev cX7_houses : ByteArray := prog_9_method_18_code
def yX7_houses : MethodName := ⟨RX7, "houses", "()I"⟩
abbrev cX7_isHouse : ByteArray := prog_9_method_19_code
def yX7_isHouse : MethodName := ⟨RX7, "isHouse", "(I)Z"⟩
abbrev cX7_isEntry : ByteArray := prog_9_method_20_code
def yX7_isEntry : MethodName := ⟨RX7, "isEntry", "(II)Z"⟩
abbrev cX7_counts : ByteArray := prog_9_method_21_code
def yX7_counts : MethodName := ⟨RX7, "counts", "(II)Z"⟩
abbrev cX7_yearIn : ByteArray := prog_9_method_22_code
def yX7_yearIn : MethodName := ⟨RX7, "yearIn", "(II)I"⟩
abbrev cX7_housesOf : ByteArray := prog_9_method_23_code
def yX7_housesOf : MethodName := ⟨RX7, "housesOf", "(I)I"⟩
abbrev cX7_sizeOf : ByteArray := prog_9_method_24_code
def yX7_sizeOf : MethodName := ⟨RX7, "sizeOf", "(I)I"⟩
abbrev cX7_aheadOf : ByteArray := prog_9_method_25_code
def yX7_aheadOf : MethodName := ⟨RX7, "aheadOf", "(I)I"⟩
abbrev cX7_laysChains : ByteArray := prog_9_method_26_code
def yX7_laysChains : MethodName := ⟨RX7, "laysChains", "()V"⟩
abbrev cX7_knots : ByteArray := prog_9_method_27_code
def yX7_knots : MethodName := ⟨RX7, "knots", "()I"⟩
abbrev cX7_both : ByteArray := prog_9_method_28_code
def yX7_both : MethodName := ⟨RX7, "both", "(II)I"⟩
abbrev cX7_spanEnd : ByteArray := prog_9_method_29_code
def yX7_spanEnd : MethodName := ⟨RX7, "spanEnd", "(II)I"⟩
abbrev cX7_spans : ByteArray := prog_9_method_30_code
def yX7_spans : MethodName := ⟨RX7, "spans", "(II)I"⟩
abbrev cX7_span : ByteArray := prog_9_method_31_code
def yX7_span : MethodName := ⟨RX7, "span", "(IIII)I"⟩
abbrev cX7_plain : ByteArray := prog_9_method_32_code
def yX7_plain : MethodName := ⟨RX7, "plain", "(I)I"⟩
abbrev cX7_shiftOf : ByteArray := prog_9_method_33_code
def yX7_shiftOf : MethodName := ⟨RX7, "shiftOf", "(I)I"⟩
abbrev cX7_agreed : ByteArray := prog_9_method_34_code
def yX7_agreed : MethodName := ⟨RX7, "agreed", "(IZ)I"⟩
abbrev cX7_shift : ByteArray := prog_9_method_35_code
def yX7_shift : MethodName := ⟨RX7, "shift", "(II)I"⟩
abbrev cX7_aloneIn : ByteArray := prog_9_method_36_code
def yX7_aloneIn : MethodName := ⟨RX7, "aloneIn", "(I)I"⟩
abbrev cX7_knotsIn : ByteArray := prog_9_method_37_code
def yX7_knotsIn : MethodName := ⟨RX7, "knotsIn", "(I)I"⟩
abbrev cX7_measured : ByteArray := prog_9_method_38_code
def yX7_measured : MethodName := ⟨RX7, "measured", "(II)I"⟩
abbrev cX7_measure : ByteArray := prog_9_method_39_code
def yX7_measure : MethodName := ⟨RX7, "measure", "(II)I"⟩
abbrev cX7_rank : ByteArray := prog_9_method_40_code
def yX7_rank : MethodName := ⟨RX7, "rank", "(II)I"⟩
abbrev cX7_event : ByteArray := prog_9_method_41_code
def yX7_event : MethodName := ⟨RX7, "event", "(II)I"⟩
abbrev cX7_date : ByteArray := prog_9_method_42_code
def yX7_date : MethodName := ⟨RX7, "date", "(I)I"⟩
abbrev cX7_late : ByteArray := prog_9_method_43_code
def yX7_late : MethodName := ⟨RX7, "late", "(II)I"⟩
abbrev cX7_line : ByteArray := prog_9_method_44_code
def yX7_line : MethodName := ⟨RX7, "line", "(I)I"⟩
abbrev cX7_without : ByteArray := prog_9_method_45_code
def yX7_without : MethodName := ⟨RX7, "without", "()I"⟩
abbrev cX7_entry : ByteArray := prog_9_method_46_code
def yX7_entry : MethodName := ⟨RX7, "entry", "(III)I"⟩
abbrev cX7_strikes : ByteArray := prog_9_method_47_code
def yX7_strikes : MethodName := ⟨RX7, "strikes", "(II)I"⟩
abbrev cX7_tells : ByteArray := prog_9_method_48_code
def yX7_tells : MethodName := ⟨RX7, "tells", "(III)I"⟩
abbrev cX7_slacks : ByteArray := prog_9_method_49_code
def yX7_slacks : MethodName := ⟨RX7, "slacks", "(I)I"⟩
abbrev cX7_undo : ByteArray := prog_9_method_50_code
def yX7_undo : MethodName := ⟨RX7, "undo", "()I"⟩
abbrev cX7_sees : ByteArray := prog_9_method_51_code
def yX7_sees : MethodName := ⟨RX7, "sees", "(I)I"⟩
abbrev cX7_forget : ByteArray := prog_9_method_52_code
def yX7_forget : MethodName := ⟨RX7, "forget", "()I"⟩
abbrev cX7_isUnseen : ByteArray := prog_9_method_53_code
def yX7_isUnseen : MethodName := ⟨RX7, "isUnseen", "(II)Z"⟩
abbrev cX7_unseen : ByteArray := prog_9_method_54_code
def yX7_unseen : MethodName := ⟨RX7, "unseen", "(I)I"⟩
abbrev cX7_keep : ByteArray := prog_9_method_55_code
def yX7_keep : MethodName := ⟨RX7, "keep", "(I)I"⟩
abbrev cX7_back : ByteArray := prog_9_method_56_code
def yX7_back : MethodName := ⟨RX7, "back", "(I)I"⟩
abbrev cX7_entries : ByteArray := prog_9_method_57_code
def yX7_entries : MethodName := ⟨RX7, "entries", "()I"⟩
abbrev cX7_events : ByteArray := prog_9_method_58_code
def yX7_events : MethodName := ⟨RX7, "events", "()I"⟩
abbrev cX7_count : ByteArray := prog_9_method_59_code
def yX7_count : MethodName := ⟨RX7, "count", "(I)I"⟩
def RJ6 : String := "java/lang/Integer"
def TJ6 : u_T := fun k => match k with
  | _ => ("", "", "", false)
def tyJ6 : Nat → FieldType := fun k => match k with
  | _ => .int
abbrev wsJ60 : List Cond := u_ws RJ6 TJ6 0
theorem nmJ6 : ∀ a, a < 0 → ∀ b, b < 0 → a ≠ b → (TJ6 a).2.1 ≠ (TJ6 b).2.1 := by decide +kernel
theorem tyJ6_ok : ∀ k, k < 0 → parseFieldDescriptor (TJ6 k).2.2.1 = some (tyJ6 k) := by decide +kernel
abbrev cJ6_bitCount_0f7a4 : ByteArray := prog_10_method_49_code
def yJ6_bitCount_0f7a4 : MethodName := ⟨RJ6, "bitCount", "(I)I"⟩
def RJ9 : String := "java/lang/Math"
def TJ9 : u_T := fun k => match k with
  | _ => ("", "", "", false)
def tyJ9 : Nat → FieldType := fun k => match k with
  | _ => .int
abbrev wsJ90 : List Cond := u_ws RJ9 TJ9 0
theorem nmJ9 : ∀ a, a < 0 → ∀ b, b < 0 → a ≠ b → (TJ9 a).2.1 ≠ (TJ9 b).2.1 := by decide +kernel
theorem tyJ9_ok : ∀ k, k < 0 → parseFieldDescriptor (TJ9 k).2.2.1 = some (tyJ9 k) := by decide +kernel
abbrev cJ9_abs_0f7a4 : ByteArray := prog_11_method_59_code
def yJ9_abs_0f7a4 : MethodName := ⟨RJ9, "abs", "(I)I"⟩
abbrev cJ9_max_7cf53 : ByteArray := prog_11_method_65_code
def yJ9_max_7cf53 : MethodName := ⟨RJ9, "max", "(II)I"⟩
abbrev cJ9_min_7cf53 : ByteArray := prog_11_method_69_code
def yJ9_min_7cf53 : MethodName := ⟨RJ9, "min", "(II)I"⟩
def RL : String := "YearLinesLaw"
abbrev cL_law : ByteArray := code
def yL_law : MethodName := ⟨RL, "law", "([I)Z"⟩
abbrev vwCl : List vw_C := [(RX0, TX0, 3), (RX1, TX1, 5), (RX2, TX2, 4), (RX3, TX3, 2), (RX4, TX4, 3), (RX5, TX5, 10), (RX6, TX6, 11), (RX7, TX7, 25)]
end
section
theorem dX0_init_0 : decode cX0_init 0 = .ok (.aload_n 0, 1) := by decide +kernel
theorem dX0_init_1 : decode cX0_init 1 = .ok (.invokespecial 3, 3) := by decide +kernel
theorem dX0_init_4 : decode cX0_init 4 = .ok (.aload_n 0, 1) := by decide +kernel
theorem dX0_init_5 : decode cX0_init 5 = .ok (.iconst 4, 1) := by decide +kernel
theorem dX0_init_6 : decode cX0_init 6 = .ok (.anewarray 9, 3) := by decide +kernel
theorem dX0_init_9 : decode cX0_init 9 = .ok (.putfield 11, 3) := by decide +kernel
theorem dX0_init_12 : decode cX0_init 12 = .ok (.iconst 0, 1) := by decide +kernel
theorem dX0_init_13 : decode cX0_init 13 = .ok (.istore_n 1, 1) := by decide +kernel
theorem dX0_init_14 : decode cX0_init 14 = .ok (.iload_n 1, 1) := by decide +kernel
theorem dX0_init_15 : decode cX0_init 15 = .ok (.iconst 4, 1) := by decide +kernel
theorem dX0_init_16 : decode cX0_init 16 = .ok (.if_icmp .ge 22, 3) := by decide +kernel
theorem dX0_init_19 : decode cX0_init 19 = .ok (.aload_n 0, 1) := by decide +kernel
theorem dX0_init_20 : decode cX0_init 20 = .ok (.getfield 11, 3) := by decide +kernel
theorem dX0_init_23 : decode cX0_init 23 = .ok (.iload_n 1, 1) := by decide +kernel
theorem dX0_init_24 : decode cX0_init 24 = .ok (.new 9, 3) := by decide +kernel
theorem dX0_init_27 : decode cX0_init 27 = .ok (.dup, 1) := by decide +kernel
theorem dX0_init_28 : decode cX0_init 28 = .ok (.invokespecial 17, 3) := by decide +kernel
theorem dX0_init_31 : decode cX0_init 31 = .ok (.aastore, 1) := by decide +kernel
theorem dX0_init_32 : decode cX0_init 32 = .ok (.iinc 1 1, 3) := by decide +kernel
theorem dX0_init_35 : decode cX0_init 35 = .ok (.goto (-21), 3) := by decide +kernel
theorem dX0_init_38 : decode cX0_init 38 = .ok (.aload_n 0, 1) := by decide +kernel
theorem dX0_init_39 : decode cX0_init 39 = .ok (.iconst 0, 1) := by decide +kernel
theorem dX0_init_40 : decode cX0_init 40 = .ok (.putfield 18, 3) := by decide +kernel
theorem dX0_init_43 : decode cX0_init 43 = .ok (.aload_n 0, 1) := by decide +kernel
theorem dX0_init_44 : decode cX0_init 44 = .ok (.iconst 0, 1) := by decide +kernel
theorem dX0_init_45 : decode cX0_init 45 = .ok (.putfield 22, 3) := by decide +kernel
theorem dX0_init_48 : decode cX0_init 48 = .ok (.return_, 1) := by decide +kernel
theorem dX0_empty_0 : decode cX0_empty 0 = .ok (.iconst 0, 1) := by decide +kernel
theorem dX0_empty_1 : decode cX0_empty 1 = .ok (.istore_n 1, 1) := by decide +kernel
theorem dX0_empty_2 : decode cX0_empty 2 = .ok (.iload_n 1, 1) := by decide +kernel
theorem dX0_empty_3 : decode cX0_empty 3 = .ok (.iconst 4, 1) := by decide +kernel
theorem dX0_empty_4 : decode cX0_empty 4 = .ok (.if_icmp .ge 18, 3) := by decide +kernel
theorem dX0_empty_7 : decode cX0_empty 7 = .ok (.aload_n 0, 1) := by decide +kernel
theorem dX0_empty_8 : decode cX0_empty 8 = .ok (.getfield 11, 3) := by decide +kernel
theorem dX0_empty_11 : decode cX0_empty 11 = .ok (.iload_n 1, 1) := by decide +kernel
theorem dX0_empty_12 : decode cX0_empty 12 = .ok (.aaload, 1) := by decide +kernel
theorem dX0_empty_13 : decode cX0_empty 13 = .ok (.invokevirtual 25, 3) := by decide +kernel
theorem dX0_empty_16 : decode cX0_empty 16 = .ok (.iinc 1 1, 3) := by decide +kernel
theorem dX0_empty_19 : decode cX0_empty 19 = .ok (.goto (-17), 3) := by decide +kernel
theorem dX0_empty_22 : decode cX0_empty 22 = .ok (.aload_n 0, 1) := by decide +kernel
theorem dX0_empty_23 : decode cX0_empty 23 = .ok (.iconst 0, 1) := by decide +kernel
theorem dX0_empty_24 : decode cX0_empty 24 = .ok (.putfield 18, 3) := by decide +kernel
theorem dX0_empty_27 : decode cX0_empty 27 = .ok (.aload_n 0, 1) := by decide +kernel
theorem dX0_empty_28 : decode cX0_empty 28 = .ok (.iconst 0, 1) := by decide +kernel
theorem dX0_empty_29 : decode cX0_empty 29 = .ok (.putfield 22, 3) := by decide +kernel
theorem dX0_empty_32 : decode cX0_empty 32 = .ok (.return_, 1) := by decide +kernel
theorem dX0_copy_0 : decode cX0_copy 0 = .ok (.iconst 0, 1) := by decide +kernel
theorem dX0_copy_1 : decode cX0_copy 1 = .ok (.istore_n 2, 1) := by decide +kernel
theorem dX0_copy_2 : decode cX0_copy 2 = .ok (.iload_n 2, 1) := by decide +kernel
theorem dX0_copy_3 : decode cX0_copy 3 = .ok (.iconst 4, 1) := by decide +kernel
theorem dX0_copy_4 : decode cX0_copy 4 = .ok (.if_icmp .ge 24, 3) := by decide +kernel
theorem dX0_copy_7 : decode cX0_copy 7 = .ok (.aload_n 0, 1) := by decide +kernel
theorem dX0_copy_8 : decode cX0_copy 8 = .ok (.getfield 11, 3) := by decide +kernel
theorem dX0_copy_11 : decode cX0_copy 11 = .ok (.iload_n 2, 1) := by decide +kernel
theorem dX0_copy_12 : decode cX0_copy 12 = .ok (.aaload, 1) := by decide +kernel
theorem dX0_copy_13 : decode cX0_copy 13 = .ok (.aload_n 1, 1) := by decide +kernel
theorem dX0_copy_14 : decode cX0_copy 14 = .ok (.getfield 11, 3) := by decide +kernel
theorem dX0_copy_17 : decode cX0_copy 17 = .ok (.iload_n 2, 1) := by decide +kernel
theorem dX0_copy_18 : decode cX0_copy 18 = .ok (.aaload, 1) := by decide +kernel
theorem dX0_copy_19 : decode cX0_copy 19 = .ok (.invokevirtual 28, 3) := by decide +kernel
theorem dX0_copy_22 : decode cX0_copy 22 = .ok (.iinc 2 1, 3) := by decide +kernel
theorem dX0_copy_25 : decode cX0_copy 25 = .ok (.goto (-23), 3) := by decide +kernel
theorem dX0_copy_28 : decode cX0_copy 28 = .ok (.aload_n 0, 1) := by decide +kernel
theorem dX0_copy_29 : decode cX0_copy 29 = .ok (.aload_n 1, 1) := by decide +kernel
theorem dX0_copy_30 : decode cX0_copy 30 = .ok (.getfield 18, 3) := by decide +kernel
theorem dX0_copy_33 : decode cX0_copy 33 = .ok (.putfield 18, 3) := by decide +kernel
theorem dX0_copy_36 : decode cX0_copy 36 = .ok (.aload_n 0, 1) := by decide +kernel
theorem dX0_copy_37 : decode cX0_copy 37 = .ok (.aload_n 1, 1) := by decide +kernel
theorem dX0_copy_38 : decode cX0_copy 38 = .ok (.getfield 22, 3) := by decide +kernel
theorem dX0_copy_41 : decode cX0_copy 41 = .ok (.putfield 22, 3) := by decide +kernel
theorem dX0_copy_44 : decode cX0_copy 44 = .ok (.return_, 1) := by decide +kernel
theorem dX0_hasHouse_0 : decode cX0_hasHouse 0 = .ok (.iload_n 1, 1) := by decide +kernel
theorem dX0_hasHouse_1 : decode cX0_hasHouse 1 = .ok (.ifCond .lt 15, 3) := by decide +kernel
theorem dX0_hasHouse_4 : decode cX0_hasHouse 4 = .ok (.iload_n 1, 1) := by decide +kernel
theorem dX0_hasHouse_5 : decode cX0_hasHouse 5 = .ok (.aload_n 0, 1) := by decide +kernel
theorem dX0_hasHouse_6 : decode cX0_hasHouse 6 = .ok (.getfield 18, 3) := by decide +kernel
theorem dX0_hasHouse_9 : decode cX0_hasHouse 9 = .ok (.if_icmp .ge 7, 3) := by decide +kernel
theorem dX0_hasHouse_12 : decode cX0_hasHouse 12 = .ok (.iconst 1, 1) := by decide +kernel
theorem dX0_hasHouse_13 : decode cX0_hasHouse 13 = .ok (.goto 4, 3) := by decide +kernel
theorem dX0_hasHouse_16 : decode cX0_hasHouse 16 = .ok (.iconst 0, 1) := by decide +kernel
theorem dX0_hasHouse_17 : decode cX0_hasHouse 17 = .ok (.ireturn, 1) := by decide +kernel
theorem dX0_hasEntry_0 : decode cX0_hasEntry 0 = .ok (.aload_n 0, 1) := by decide +kernel
theorem dX0_hasEntry_1 : decode cX0_hasEntry 1 = .ok (.iload_n 1, 1) := by decide +kernel
theorem dX0_hasEntry_2 : decode cX0_hasEntry 2 = .ok (.invokevirtual 32, 3) := by decide +kernel
theorem dX0_hasEntry_5 : decode cX0_hasEntry 5 = .ok (.ifCond .eq 24, 3) := by decide +kernel
theorem dX0_hasEntry_8 : decode cX0_hasEntry 8 = .ok (.iload_n 2, 1) := by decide +kernel
theorem dX0_hasEntry_9 : decode cX0_hasEntry 9 = .ok (.ifCond .lt 20, 3) := by decide +kernel
theorem dX0_hasEntry_12 : decode cX0_hasEntry 12 = .ok (.iload_n 2, 1) := by decide +kernel
theorem dX0_hasEntry_13 : decode cX0_hasEntry 13 = .ok (.aload_n 0, 1) := by decide +kernel
theorem dX0_hasEntry_14 : decode cX0_hasEntry 14 = .ok (.getfield 11, 3) := by decide +kernel
theorem dX0_hasEntry_17 : decode cX0_hasEntry 17 = .ok (.iload_n 1, 1) := by decide +kernel
theorem dX0_hasEntry_18 : decode cX0_hasEntry 18 = .ok (.aaload, 1) := by decide +kernel
theorem dX0_hasEntry_19 : decode cX0_hasEntry 19 = .ok (.getfield 36, 3) := by decide +kernel
theorem dX0_hasEntry_22 : decode cX0_hasEntry 22 = .ok (.if_icmp .ge 7, 3) := by decide +kernel
theorem dX0_hasEntry_25 : decode cX0_hasEntry 25 = .ok (.iconst 1, 1) := by decide +kernel
theorem dX0_hasEntry_26 : decode cX0_hasEntry 26 = .ok (.goto 4, 3) := by decide +kernel
theorem dX0_hasEntry_29 : decode cX0_hasEntry 29 = .ok (.iconst 0, 1) := by decide +kernel
theorem dX0_hasEntry_30 : decode cX0_hasEntry 30 = .ok (.ireturn, 1) := by decide +kernel
theorem dX0_latest_0 : decode cX0_latest 0 = .ok (.aload_n 0, 1) := by decide +kernel
theorem dX0_latest_1 : decode cX0_latest 1 = .ok (.getfield 11, 3) := by decide +kernel
theorem dX0_latest_4 : decode cX0_latest 4 = .ok (.aload_n 0, 1) := by decide +kernel
theorem dX0_latest_5 : decode cX0_latest 5 = .ok (.getfield 18, 3) := by decide +kernel
theorem dX0_latest_8 : decode cX0_latest 8 = .ok (.ifCond .le 12, 3) := by decide +kernel
theorem dX0_latest_11 : decode cX0_latest 11 = .ok (.aload_n 0, 1) := by decide +kernel
theorem dX0_latest_12 : decode cX0_latest 12 = .ok (.getfield 18, 3) := by decide +kernel
theorem dX0_latest_15 : decode cX0_latest 15 = .ok (.iconst 1, 1) := by decide +kernel
theorem dX0_latest_16 : decode cX0_latest 16 = .ok (.isub, 1) := by decide +kernel
theorem dX0_latest_17 : decode cX0_latest 17 = .ok (.goto 4, 3) := by decide +kernel
theorem dX0_latest_20 : decode cX0_latest 20 = .ok (.iconst 0, 1) := by decide +kernel
theorem dX0_latest_21 : decode cX0_latest 21 = .ok (.aaload, 1) := by decide +kernel
theorem dX0_latest_22 : decode cX0_latest 22 = .ok (.areturn, 1) := by decide +kernel
theorem dX0_entriesLeft_0 : decode cX0_entriesLeft 0 = .ok (.iconst 0, 1) := by decide +kernel
theorem dX0_entriesLeft_1 : decode cX0_entriesLeft 1 = .ok (.istore_n 1, 1) := by decide +kernel
theorem dX0_entriesLeft_2 : decode cX0_entriesLeft 2 = .ok (.iconst 0, 1) := by decide +kernel
theorem dX0_entriesLeft_3 : decode cX0_entriesLeft 3 = .ok (.istore_n 2, 1) := by decide +kernel
theorem dX0_entriesLeft_4 : decode cX0_entriesLeft 4 = .ok (.iload_n 2, 1) := by decide +kernel
theorem dX0_entriesLeft_5 : decode cX0_entriesLeft 5 = .ok (.aload_n 0, 1) := by decide +kernel
theorem dX0_entriesLeft_6 : decode cX0_entriesLeft 6 = .ok (.getfield 18, 3) := by decide +kernel
theorem dX0_entriesLeft_9 : decode cX0_entriesLeft 9 = .ok (.if_icmp .ge 21, 3) := by decide +kernel
theorem dX0_entriesLeft_12 : decode cX0_entriesLeft 12 = .ok (.iload_n 1, 1) := by decide +kernel
theorem dX0_entriesLeft_13 : decode cX0_entriesLeft 13 = .ok (.aload_n 0, 1) := by decide +kernel
theorem dX0_entriesLeft_14 : decode cX0_entriesLeft 14 = .ok (.getfield 11, 3) := by decide +kernel
theorem dX0_entriesLeft_17 : decode cX0_entriesLeft 17 = .ok (.iload_n 2, 1) := by decide +kernel
theorem dX0_entriesLeft_18 : decode cX0_entriesLeft 18 = .ok (.aaload, 1) := by decide +kernel
theorem dX0_entriesLeft_19 : decode cX0_entriesLeft 19 = .ok (.invokevirtual 37, 3) := by decide +kernel
theorem dX0_entriesLeft_22 : decode cX0_entriesLeft 22 = .ok (.iadd, 1) := by decide +kernel
theorem dX0_entriesLeft_23 : decode cX0_entriesLeft 23 = .ok (.istore_n 1, 1) := by decide +kernel
theorem dX0_entriesLeft_24 : decode cX0_entriesLeft 24 = .ok (.iinc 2 1, 3) := by decide +kernel
theorem dX0_entriesLeft_27 : decode cX0_entriesLeft 27 = .ok (.goto (-23), 3) := by decide +kernel
theorem dX0_entriesLeft_30 : decode cX0_entriesLeft 30 = .ok (.iload_n 1, 1) := by decide +kernel
theorem dX0_entriesLeft_31 : decode cX0_entriesLeft 31 = .ok (.ireturn, 1) := by decide +kernel
theorem dX0_eventBits_0 : decode cX0_eventBits 0 = .ok (.iconst 0, 1) := by decide +kernel
theorem dX0_eventBits_1 : decode cX0_eventBits 1 = .ok (.istore_n 1, 1) := by decide +kernel
theorem dX0_eventBits_2 : decode cX0_eventBits 2 = .ok (.iconst 0, 1) := by decide +kernel
theorem dX0_eventBits_3 : decode cX0_eventBits 3 = .ok (.istore_n 2, 1) := by decide +kernel
theorem dX0_eventBits_4 : decode cX0_eventBits 4 = .ok (.iload_n 2, 1) := by decide +kernel
theorem dX0_eventBits_5 : decode cX0_eventBits 5 = .ok (.aload_n 0, 1) := by decide +kernel
theorem dX0_eventBits_6 : decode cX0_eventBits 6 = .ok (.getfield 18, 3) := by decide +kernel
theorem dX0_eventBits_9 : decode cX0_eventBits 9 = .ok (.if_icmp .ge 21, 3) := by decide +kernel
theorem dX0_eventBits_12 : decode cX0_eventBits 12 = .ok (.iload_n 1, 1) := by decide +kernel
theorem dX0_eventBits_13 : decode cX0_eventBits 13 = .ok (.aload_n 0, 1) := by decide +kernel
theorem dX0_eventBits_14 : decode cX0_eventBits 14 = .ok (.getfield 11, 3) := by decide +kernel
theorem dX0_eventBits_17 : decode cX0_eventBits 17 = .ok (.iload_n 2, 1) := by decide +kernel
theorem dX0_eventBits_18 : decode cX0_eventBits 18 = .ok (.aaload, 1) := by decide +kernel
theorem dX0_eventBits_19 : decode cX0_eventBits 19 = .ok (.invokevirtual 41, 3) := by decide +kernel
theorem dX0_eventBits_22 : decode cX0_eventBits 22 = .ok (.ior, 1) := by decide +kernel
theorem dX0_eventBits_23 : decode cX0_eventBits 23 = .ok (.istore_n 1, 1) := by decide +kernel
theorem dX0_eventBits_24 : decode cX0_eventBits 24 = .ok (.iinc 2 1, 3) := by decide +kernel
theorem dX0_eventBits_27 : decode cX0_eventBits 27 = .ok (.goto (-23), 3) := by decide +kernel
theorem dX0_eventBits_30 : decode cX0_eventBits 30 = .ok (.iload_n 1, 1) := by decide +kernel
theorem dX0_eventBits_31 : decode cX0_eventBits 31 = .ok (.ireturn, 1) := by decide +kernel
theorem dX0_housesThatHave_0 : decode cX0_housesThatHave 0 = .ok (.iconst 0, 1) := by decide +kernel
theorem dX0_housesThatHave_1 : decode cX0_housesThatHave 1 = .ok (.istore_n 2, 1) := by decide +kernel
theorem dX0_housesThatHave_2 : decode cX0_housesThatHave 2 = .ok (.iconst 0, 1) := by decide +kernel
theorem dX0_housesThatHave_3 : decode cX0_housesThatHave 3 = .ok (.istore_n 3, 1) := by decide +kernel
theorem dX0_housesThatHave_4 : decode cX0_housesThatHave 4 = .ok (.iload_n 3, 1) := by decide +kernel
theorem dX0_housesThatHave_5 : decode cX0_housesThatHave 5 = .ok (.aload_n 0, 1) := by decide +kernel
theorem dX0_housesThatHave_6 : decode cX0_housesThatHave 6 = .ok (.getfield 18, 3) := by decide +kernel
theorem dX0_housesThatHave_9 : decode cX0_housesThatHave 9 = .ok (.if_icmp .ge 28, 3) := by decide +kernel
theorem dX0_housesThatHave_12 : decode cX0_housesThatHave 12 = .ok (.aload_n 0, 1) := by decide +kernel
theorem dX0_housesThatHave_13 : decode cX0_housesThatHave 13 = .ok (.getfield 11, 3) := by decide +kernel
theorem dX0_housesThatHave_16 : decode cX0_housesThatHave 16 = .ok (.iload_n 3, 1) := by decide +kernel
theorem dX0_housesThatHave_17 : decode cX0_housesThatHave 17 = .ok (.aaload, 1) := by decide +kernel
theorem dX0_housesThatHave_18 : decode cX0_housesThatHave 18 = .ok (.iload_n 1, 1) := by decide +kernel
theorem dX0_housesThatHave_19 : decode cX0_housesThatHave 19 = .ok (.invokevirtual 44, 3) := by decide +kernel
theorem dX0_housesThatHave_22 : decode cX0_housesThatHave 22 = .ok (.ifCond .lt 9, 3) := by decide +kernel
theorem dX0_housesThatHave_25 : decode cX0_housesThatHave 25 = .ok (.iload_n 2, 1) := by decide +kernel
theorem dX0_housesThatHave_26 : decode cX0_housesThatHave 26 = .ok (.iconst 1, 1) := by decide +kernel
theorem dX0_housesThatHave_27 : decode cX0_housesThatHave 27 = .ok (.iload_n 3, 1) := by decide +kernel
theorem dX0_housesThatHave_28 : decode cX0_housesThatHave 28 = .ok (.ishl, 1) := by decide +kernel
theorem dX0_housesThatHave_29 : decode cX0_housesThatHave 29 = .ok (.ior, 1) := by decide +kernel
theorem dX0_housesThatHave_30 : decode cX0_housesThatHave 30 = .ok (.istore_n 2, 1) := by decide +kernel
theorem dX0_housesThatHave_31 : decode cX0_housesThatHave 31 = .ok (.iinc 3 1, 3) := by decide +kernel
theorem dX0_housesThatHave_34 : decode cX0_housesThatHave 34 = .ok (.goto (-30), 3) := by decide +kernel
theorem dX0_housesThatHave_37 : decode cX0_housesThatHave 37 = .ok (.iload_n 2, 1) := by decide +kernel
theorem dX0_housesThatHave_38 : decode cX0_housesThatHave 38 = .ok (.ireturn, 1) := by decide +kernel
theorem dX1_init_0 : decode cX1_init 0 = .ok (.aload_n 0, 1) := by decide +kernel
theorem dX1_init_1 : decode cX1_init 1 = .ok (.invokespecial 3, 3) := by decide +kernel
theorem dX1_init_4 : decode cX1_init 4 = .ok (.aload_n 0, 1) := by decide +kernel
theorem dX1_init_5 : decode cX1_init 5 = .ok (.iconst 0, 1) := by decide +kernel
theorem dX1_init_6 : decode cX1_init 6 = .ok (.putfield 9, 3) := by decide +kernel
theorem dX1_init_9 : decode cX1_init 9 = .ok (.aload_n 0, 1) := by decide +kernel
theorem dX1_init_10 : decode cX1_init 10 = .ok (.bipush 10, 2) := by decide +kernel
theorem dX1_init_12 : decode cX1_init 12 = .ok (.newarray .int, 2) := by decide +kernel
theorem dX1_init_14 : decode cX1_init 14 = .ok (.putfield 15, 3) := by decide +kernel
theorem dX1_init_17 : decode cX1_init 17 = .ok (.aload_n 0, 1) := by decide +kernel
theorem dX1_init_18 : decode cX1_init 18 = .ok (.bipush 10, 2) := by decide +kernel
theorem dX1_init_20 : decode cX1_init 20 = .ok (.newarray .int, 2) := by decide +kernel
theorem dX1_init_22 : decode cX1_init 22 = .ok (.putfield 19, 3) := by decide +kernel
theorem dX1_init_25 : decode cX1_init 25 = .ok (.aload_n 0, 1) := by decide +kernel
theorem dX1_init_26 : decode cX1_init 26 = .ok (.bipush 10, 2) := by decide +kernel
theorem dX1_init_28 : decode cX1_init 28 = .ok (.newarray .int, 2) := by decide +kernel
theorem dX1_init_30 : decode cX1_init 30 = .ok (.putfield 22, 3) := by decide +kernel
theorem dX1_init_33 : decode cX1_init 33 = .ok (.aload_n 0, 1) := by decide +kernel
theorem dX1_init_34 : decode cX1_init 34 = .ok (.bipush 10, 2) := by decide +kernel
theorem dX1_init_36 : decode cX1_init 36 = .ok (.newarray .int, 2) := by decide +kernel
theorem dX1_init_38 : decode cX1_init 38 = .ok (.putfield 25, 3) := by decide +kernel
theorem dX1_init_41 : decode cX1_init 41 = .ok (.return_, 1) := by decide +kernel
theorem dX1_add_0 : decode cX1_add 0 = .ok (.aload_n 0, 1) := by decide +kernel
theorem dX1_add_1 : decode cX1_add 1 = .ok (.getfield 9, 3) := by decide +kernel
theorem dX1_add_4 : decode cX1_add 4 = .ok (.bipush 10, 2) := by decide +kernel
theorem dX1_add_6 : decode cX1_add 6 = .ok (.if_icmp .lt 7, 3) := by decide +kernel
theorem dX1_add_9 : decode cX1_add 9 = .ok (.aload_n 0, 1) := by decide +kernel
theorem dX1_add_10 : decode cX1_add 10 = .ok (.invokevirtual 28, 3) := by decide +kernel
theorem dX1_add_13 : decode cX1_add 13 = .ok (.aload_n 0, 1) := by decide +kernel
theorem dX1_add_14 : decode cX1_add 14 = .ok (.getfield 15, 3) := by decide +kernel
theorem dX1_add_17 : decode cX1_add 17 = .ok (.aload_n 0, 1) := by decide +kernel
theorem dX1_add_18 : decode cX1_add 18 = .ok (.getfield 9, 3) := by decide +kernel
theorem dX1_add_21 : decode cX1_add 21 = .ok (.iload_n 1, 1) := by decide +kernel
theorem dX1_add_22 : decode cX1_add 22 = .ok (.iastore, 1) := by decide +kernel
theorem dX1_add_23 : decode cX1_add 23 = .ok (.aload_n 0, 1) := by decide +kernel
theorem dX1_add_24 : decode cX1_add 24 = .ok (.getfield 19, 3) := by decide +kernel
theorem dX1_add_27 : decode cX1_add 27 = .ok (.aload_n 0, 1) := by decide +kernel
theorem dX1_add_28 : decode cX1_add 28 = .ok (.getfield 9, 3) := by decide +kernel
theorem dX1_add_31 : decode cX1_add 31 = .ok (.iload_n 2, 1) := by decide +kernel
theorem dX1_add_32 : decode cX1_add 32 = .ok (.iastore, 1) := by decide +kernel
theorem dX1_add_33 : decode cX1_add 33 = .ok (.aload_n 0, 1) := by decide +kernel
theorem dX1_add_34 : decode cX1_add 34 = .ok (.getfield 22, 3) := by decide +kernel
theorem dX1_add_37 : decode cX1_add 37 = .ok (.aload_n 0, 1) := by decide +kernel
theorem dX1_add_38 : decode cX1_add 38 = .ok (.getfield 9, 3) := by decide +kernel
theorem dX1_add_41 : decode cX1_add 41 = .ok (.iload_n 3, 1) := by decide +kernel
theorem dX1_add_42 : decode cX1_add 42 = .ok (.iastore, 1) := by decide +kernel
theorem dX1_add_43 : decode cX1_add 43 = .ok (.aload_n 0, 1) := by decide +kernel
theorem dX1_add_44 : decode cX1_add 44 = .ok (.getfield 25, 3) := by decide +kernel
theorem dX1_add_47 : decode cX1_add 47 = .ok (.aload_n 0, 1) := by decide +kernel
theorem dX1_add_48 : decode cX1_add 48 = .ok (.getfield 9, 3) := by decide +kernel
theorem dX1_add_51 : decode cX1_add 51 = .ok (.iload 4, 2) := by decide +kernel
theorem dX1_add_53 : decode cX1_add 53 = .ok (.iastore, 1) := by decide +kernel
theorem dX1_add_54 : decode cX1_add 54 = .ok (.aload_n 0, 1) := by decide +kernel
theorem dX1_add_55 : decode cX1_add 55 = .ok (.dup, 1) := by decide +kernel
theorem dX1_add_56 : decode cX1_add 56 = .ok (.getfield 9, 3) := by decide +kernel
theorem dX1_add_59 : decode cX1_add 59 = .ok (.iconst 1, 1) := by decide +kernel
theorem dX1_add_60 : decode cX1_add 60 = .ok (.iadd, 1) := by decide +kernel
theorem dX1_add_61 : decode cX1_add 61 = .ok (.putfield 9, 3) := by decide +kernel
theorem dX1_add_64 : decode cX1_add 64 = .ok (.return_, 1) := by decide +kernel
theorem dX1_loseOldest_0 : decode cX1_loseOldest 0 = .ok (.iconst 1, 1) := by decide +kernel
theorem dX1_loseOldest_1 : decode cX1_loseOldest 1 = .ok (.istore_n 1, 1) := by decide +kernel
theorem dX1_loseOldest_2 : decode cX1_loseOldest 2 = .ok (.iload_n 1, 1) := by decide +kernel
theorem dX1_loseOldest_3 : decode cX1_loseOldest 3 = .ok (.bipush 10, 2) := by decide +kernel
theorem dX1_loseOldest_5 : decode cX1_loseOldest 5 = .ok (.if_icmp .ge 65, 3) := by decide +kernel
theorem dX1_loseOldest_8 : decode cX1_loseOldest 8 = .ok (.aload_n 0, 1) := by decide +kernel
theorem dX1_loseOldest_9 : decode cX1_loseOldest 9 = .ok (.getfield 15, 3) := by decide +kernel
theorem dX1_loseOldest_12 : decode cX1_loseOldest 12 = .ok (.iload_n 1, 1) := by decide +kernel
theorem dX1_loseOldest_13 : decode cX1_loseOldest 13 = .ok (.iconst 1, 1) := by decide +kernel
theorem dX1_loseOldest_14 : decode cX1_loseOldest 14 = .ok (.isub, 1) := by decide +kernel
theorem dX1_loseOldest_15 : decode cX1_loseOldest 15 = .ok (.aload_n 0, 1) := by decide +kernel
theorem dX1_loseOldest_16 : decode cX1_loseOldest 16 = .ok (.getfield 15, 3) := by decide +kernel
theorem dX1_loseOldest_19 : decode cX1_loseOldest 19 = .ok (.iload_n 1, 1) := by decide +kernel
theorem dX1_loseOldest_20 : decode cX1_loseOldest 20 = .ok (.iaload, 1) := by decide +kernel
theorem dX1_loseOldest_21 : decode cX1_loseOldest 21 = .ok (.iastore, 1) := by decide +kernel
theorem dX1_loseOldest_22 : decode cX1_loseOldest 22 = .ok (.aload_n 0, 1) := by decide +kernel
theorem dX1_loseOldest_23 : decode cX1_loseOldest 23 = .ok (.getfield 19, 3) := by decide +kernel
theorem dX1_loseOldest_26 : decode cX1_loseOldest 26 = .ok (.iload_n 1, 1) := by decide +kernel
theorem dX1_loseOldest_27 : decode cX1_loseOldest 27 = .ok (.iconst 1, 1) := by decide +kernel
theorem dX1_loseOldest_28 : decode cX1_loseOldest 28 = .ok (.isub, 1) := by decide +kernel
theorem dX1_loseOldest_29 : decode cX1_loseOldest 29 = .ok (.aload_n 0, 1) := by decide +kernel
theorem dX1_loseOldest_30 : decode cX1_loseOldest 30 = .ok (.getfield 19, 3) := by decide +kernel
theorem dX1_loseOldest_33 : decode cX1_loseOldest 33 = .ok (.iload_n 1, 1) := by decide +kernel
theorem dX1_loseOldest_34 : decode cX1_loseOldest 34 = .ok (.iaload, 1) := by decide +kernel
theorem dX1_loseOldest_35 : decode cX1_loseOldest 35 = .ok (.iastore, 1) := by decide +kernel
theorem dX1_loseOldest_36 : decode cX1_loseOldest 36 = .ok (.aload_n 0, 1) := by decide +kernel
theorem dX1_loseOldest_37 : decode cX1_loseOldest 37 = .ok (.getfield 22, 3) := by decide +kernel
theorem dX1_loseOldest_40 : decode cX1_loseOldest 40 = .ok (.iload_n 1, 1) := by decide +kernel
theorem dX1_loseOldest_41 : decode cX1_loseOldest 41 = .ok (.iconst 1, 1) := by decide +kernel
theorem dX1_loseOldest_42 : decode cX1_loseOldest 42 = .ok (.isub, 1) := by decide +kernel
theorem dX1_loseOldest_43 : decode cX1_loseOldest 43 = .ok (.aload_n 0, 1) := by decide +kernel
theorem dX1_loseOldest_44 : decode cX1_loseOldest 44 = .ok (.getfield 22, 3) := by decide +kernel
theorem dX1_loseOldest_47 : decode cX1_loseOldest 47 = .ok (.iload_n 1, 1) := by decide +kernel
theorem dX1_loseOldest_48 : decode cX1_loseOldest 48 = .ok (.iaload, 1) := by decide +kernel
theorem dX1_loseOldest_49 : decode cX1_loseOldest 49 = .ok (.iastore, 1) := by decide +kernel
theorem dX1_loseOldest_50 : decode cX1_loseOldest 50 = .ok (.aload_n 0, 1) := by decide +kernel
theorem dX1_loseOldest_51 : decode cX1_loseOldest 51 = .ok (.getfield 25, 3) := by decide +kernel
theorem dX1_loseOldest_54 : decode cX1_loseOldest 54 = .ok (.iload_n 1, 1) := by decide +kernel
theorem dX1_loseOldest_55 : decode cX1_loseOldest 55 = .ok (.iconst 1, 1) := by decide +kernel
theorem dX1_loseOldest_56 : decode cX1_loseOldest 56 = .ok (.isub, 1) := by decide +kernel
theorem dX1_loseOldest_57 : decode cX1_loseOldest 57 = .ok (.aload_n 0, 1) := by decide +kernel
theorem dX1_loseOldest_58 : decode cX1_loseOldest 58 = .ok (.getfield 25, 3) := by decide +kernel
theorem dX1_loseOldest_61 : decode cX1_loseOldest 61 = .ok (.iload_n 1, 1) := by decide +kernel
theorem dX1_loseOldest_62 : decode cX1_loseOldest 62 = .ok (.iaload, 1) := by decide +kernel
theorem dX1_loseOldest_63 : decode cX1_loseOldest 63 = .ok (.iastore, 1) := by decide +kernel
theorem dX1_loseOldest_64 : decode cX1_loseOldest 64 = .ok (.iinc 1 1, 3) := by decide +kernel
theorem dX1_loseOldest_67 : decode cX1_loseOldest 67 = .ok (.goto (-65), 3) := by decide +kernel
theorem dX1_loseOldest_70 : decode cX1_loseOldest 70 = .ok (.aload_n 0, 1) := by decide +kernel
theorem dX1_loseOldest_71 : decode cX1_loseOldest 71 = .ok (.bipush 9, 2) := by decide +kernel
theorem dX1_loseOldest_73 : decode cX1_loseOldest 73 = .ok (.putfield 9, 3) := by decide +kernel
theorem dX1_loseOldest_76 : decode cX1_loseOldest 76 = .ok (.return_, 1) := by decide +kernel
theorem dX1_takeBack_0 : decode cX1_takeBack 0 = .ok (.aload_n 0, 1) := by decide +kernel
theorem dX1_takeBack_1 : decode cX1_takeBack 1 = .ok (.getfield 9, 3) := by decide +kernel
theorem dX1_takeBack_4 : decode cX1_takeBack 4 = .ok (.ifCond .gt 4, 3) := by decide +kernel
theorem dX1_takeBack_7 : decode cX1_takeBack 7 = .ok (.return_, 1) := by decide +kernel
theorem dX1_takeBack_8 : decode cX1_takeBack 8 = .ok (.aload_n 0, 1) := by decide +kernel
theorem dX1_takeBack_9 : decode cX1_takeBack 9 = .ok (.dup, 1) := by decide +kernel
theorem dX1_takeBack_10 : decode cX1_takeBack 10 = .ok (.getfield 9, 3) := by decide +kernel
theorem dX1_takeBack_13 : decode cX1_takeBack 13 = .ok (.iconst 1, 1) := by decide +kernel
theorem dX1_takeBack_14 : decode cX1_takeBack 14 = .ok (.isub, 1) := by decide +kernel
theorem dX1_takeBack_15 : decode cX1_takeBack 15 = .ok (.putfield 9, 3) := by decide +kernel
theorem dX1_takeBack_18 : decode cX1_takeBack 18 = .ok (.aload_n 0, 1) := by decide +kernel
theorem dX1_takeBack_19 : decode cX1_takeBack 19 = .ok (.getfield 19, 3) := by decide +kernel
theorem dX1_takeBack_22 : decode cX1_takeBack 22 = .ok (.aload_n 0, 1) := by decide +kernel
theorem dX1_takeBack_23 : decode cX1_takeBack 23 = .ok (.getfield 9, 3) := by decide +kernel
theorem dX1_takeBack_26 : decode cX1_takeBack 26 = .ok (.iaload, 1) := by decide +kernel
theorem dX1_takeBack_27 : decode cX1_takeBack 27 = .ok (.istore_n 2, 1) := by decide +kernel
theorem dX1_takeBack_28 : decode cX1_takeBack 28 = .ok (.aload_n 0, 1) := by decide +kernel
theorem dX1_takeBack_29 : decode cX1_takeBack 29 = .ok (.getfield 22, 3) := by decide +kernel
theorem dX1_takeBack_32 : decode cX1_takeBack 32 = .ok (.aload_n 0, 1) := by decide +kernel
theorem dX1_takeBack_33 : decode cX1_takeBack 33 = .ok (.getfield 9, 3) := by decide +kernel
theorem dX1_takeBack_36 : decode cX1_takeBack 36 = .ok (.iaload, 1) := by decide +kernel
theorem dX1_takeBack_37 : decode cX1_takeBack 37 = .ok (.istore_n 3, 1) := by decide +kernel
theorem dX1_takeBack_38 : decode cX1_takeBack 38 = .ok (.aload_n 0, 1) := by decide +kernel
theorem dX1_takeBack_39 : decode cX1_takeBack 39 = .ok (.getfield 15, 3) := by decide +kernel
theorem dX1_takeBack_42 : decode cX1_takeBack 42 = .ok (.aload_n 0, 1) := by decide +kernel
theorem dX1_takeBack_43 : decode cX1_takeBack 43 = .ok (.getfield 9, 3) := by decide +kernel
theorem dX1_takeBack_46 : decode cX1_takeBack 46 = .ok (.iaload, 1) := by decide +kernel
theorem dX1_takeBack_47 : decode cX1_takeBack 47 = .ok (.iconst 2, 1) := by decide +kernel
theorem dX1_takeBack_48 : decode cX1_takeBack 48 = .ok (.if_icmp .ne 19, 3) := by decide +kernel
theorem dX1_takeBack_51 : decode cX1_takeBack 51 = .ok (.aload_n 1, 1) := by decide +kernel
theorem dX1_takeBack_52 : decode cX1_takeBack 52 = .ok (.aload_n 0, 1) := by decide +kernel
theorem dX1_takeBack_53 : decode cX1_takeBack 53 = .ok (.getfield 25, 3) := by decide +kernel
theorem dX1_takeBack_56 : decode cX1_takeBack 56 = .ok (.aload_n 0, 1) := by decide +kernel
theorem dX1_takeBack_57 : decode cX1_takeBack 57 = .ok (.getfield 9, 3) := by decide +kernel
theorem dX1_takeBack_60 : decode cX1_takeBack 60 = .ok (.iaload, 1) := by decide +kernel
theorem dX1_takeBack_61 : decode cX1_takeBack 61 = .ok (.putfield 31, 3) := by decide +kernel
theorem dX1_takeBack_64 : decode cX1_takeBack 64 = .ok (.goto 23, 3) := by decide +kernel
theorem dX1_takeBack_67 : decode cX1_takeBack 67 = .ok (.aload_n 1, 1) := by decide +kernel
theorem dX1_takeBack_68 : decode cX1_takeBack 68 = .ok (.iload_n 2, 1) := by decide +kernel
theorem dX1_takeBack_69 : decode cX1_takeBack 69 = .ok (.iload_n 3, 1) := by decide +kernel
theorem dX1_takeBack_70 : decode cX1_takeBack 70 = .ok (.invokevirtual 36, 3) := by decide +kernel
theorem dX1_takeBack_73 : decode cX1_takeBack 73 = .ok (.ifCond .eq 14, 3) := by decide +kernel
theorem dX1_takeBack_76 : decode cX1_takeBack 76 = .ok (.aload_n 0, 1) := by decide +kernel
theorem dX1_takeBack_77 : decode cX1_takeBack 77 = .ok (.aload_n 1, 1) := by decide +kernel
theorem dX1_takeBack_78 : decode cX1_takeBack 78 = .ok (.getfield 40, 3) := by decide +kernel
theorem dX1_takeBack_81 : decode cX1_takeBack 81 = .ok (.iload_n 2, 1) := by decide +kernel
theorem dX1_takeBack_82 : decode cX1_takeBack 82 = .ok (.aaload, 1) := by decide +kernel
theorem dX1_takeBack_83 : decode cX1_takeBack 83 = .ok (.iload_n 3, 1) := by decide +kernel
theorem dX1_takeBack_84 : decode cX1_takeBack 84 = .ok (.invokevirtual 44, 3) := by decide +kernel
theorem dX1_takeBack_87 : decode cX1_takeBack 87 = .ok (.return_, 1) := by decide +kernel
theorem dX1_takeBackEntry_0 : decode cX1_takeBackEntry 0 = .ok (.aload_n 0, 1) := by decide +kernel
theorem dX1_takeBackEntry_1 : decode cX1_takeBackEntry 1 = .ok (.getfield 15, 3) := by decide +kernel
theorem dX1_takeBackEntry_4 : decode cX1_takeBackEntry 4 = .ok (.aload_n 0, 1) := by decide +kernel
theorem dX1_takeBackEntry_5 : decode cX1_takeBackEntry 5 = .ok (.getfield 9, 3) := by decide +kernel
theorem dX1_takeBackEntry_8 : decode cX1_takeBackEntry 8 = .ok (.iaload, 1) := by decide +kernel
theorem dX1_takeBackEntry_9 : decode cX1_takeBackEntry 9 = .ok (.ifCond .ne 11, 3) := by decide +kernel
theorem dX1_takeBackEntry_12 : decode cX1_takeBackEntry 12 = .ok (.aload_n 1, 1) := by decide +kernel
theorem dX1_takeBackEntry_13 : decode cX1_takeBackEntry 13 = .ok (.iload_n 2, 1) := by decide +kernel
theorem dX1_takeBackEntry_14 : decode cX1_takeBackEntry 14 = .ok (.invokevirtual 48, 3) := by decide +kernel
theorem dX1_takeBackEntry_17 : decode cX1_takeBackEntry 17 = .ok (.goto 18, 3) := by decide +kernel
theorem dX1_takeBackEntry_20 : decode cX1_takeBackEntry 20 = .ok (.aload_n 1, 1) := by decide +kernel
theorem dX1_takeBackEntry_21 : decode cX1_takeBackEntry 21 = .ok (.getfield 54, 3) := by decide +kernel
theorem dX1_takeBackEntry_24 : decode cX1_takeBackEntry 24 = .ok (.iload_n 2, 1) := by decide +kernel
theorem dX1_takeBackEntry_25 : decode cX1_takeBackEntry 25 = .ok (.aload_n 0, 1) := by decide +kernel
theorem dX1_takeBackEntry_26 : decode cX1_takeBackEntry 26 = .ok (.getfield 25, 3) := by decide +kernel
theorem dX1_takeBackEntry_29 : decode cX1_takeBackEntry 29 = .ok (.aload_n 0, 1) := by decide +kernel
theorem dX1_takeBackEntry_30 : decode cX1_takeBackEntry 30 = .ok (.getfield 9, 3) := by decide +kernel
theorem dX1_takeBackEntry_33 : decode cX1_takeBackEntry 33 = .ok (.iaload, 1) := by decide +kernel
theorem dX1_takeBackEntry_34 : decode cX1_takeBackEntry 34 = .ok (.iastore, 1) := by decide +kernel
theorem dX1_takeBackEntry_35 : decode cX1_takeBackEntry 35 = .ok (.return_, 1) := by decide +kernel
theorem dX2_init_0 : decode cX2_init 0 = .ok (.aload_n 0, 1) := by decide +kernel
theorem dX2_init_1 : decode cX2_init 1 = .ok (.invokespecial 3, 3) := by decide +kernel
theorem dX2_init_4 : decode cX2_init 4 = .ok (.aload_n 0, 1) := by decide +kernel
theorem dX2_init_5 : decode cX2_init 5 = .ok (.bipush 6, 2) := by decide +kernel
theorem dX2_init_7 : decode cX2_init 7 = .ok (.newarray .int, 2) := by decide +kernel
theorem dX2_init_9 : decode cX2_init 9 = .ok (.putfield 9, 3) := by decide +kernel
theorem dX2_init_12 : decode cX2_init 12 = .ok (.aload_n 0, 1) := by decide +kernel
theorem dX2_init_13 : decode cX2_init 13 = .ok (.bipush 6, 2) := by decide +kernel
theorem dX2_init_15 : decode cX2_init 15 = .ok (.newarray .int, 2) := by decide +kernel
theorem dX2_init_17 : decode cX2_init 17 = .ok (.putfield 15, 3) := by decide +kernel
theorem dX2_init_20 : decode cX2_init 20 = .ok (.aload_n 0, 1) := by decide +kernel
theorem dX2_init_21 : decode cX2_init 21 = .ok (.iconst 0, 1) := by decide +kernel
theorem dX2_init_22 : decode cX2_init 22 = .ok (.putfield 18, 3) := by decide +kernel
theorem dX2_init_25 : decode cX2_init 25 = .ok (.aload_n 0, 1) := by decide +kernel
theorem dX2_init_26 : decode cX2_init 26 = .ok (.iconst 0, 1) := by decide +kernel
theorem dX2_init_27 : decode cX2_init 27 = .ok (.putfield 22, 3) := by decide +kernel
theorem dX2_init_30 : decode cX2_init 30 = .ok (.return_, 1) := by decide +kernel
theorem dX2_empty_0 : decode cX2_empty 0 = .ok (.aload_n 0, 1) := by decide +kernel
theorem dX2_empty_1 : decode cX2_empty 1 = .ok (.iconst 0, 1) := by decide +kernel
theorem dX2_empty_2 : decode cX2_empty 2 = .ok (.putfield 18, 3) := by decide +kernel
theorem dX2_empty_5 : decode cX2_empty 5 = .ok (.aload_n 0, 1) := by decide +kernel
theorem dX2_empty_6 : decode cX2_empty 6 = .ok (.iconst 0, 1) := by decide +kernel
theorem dX2_empty_7 : decode cX2_empty 7 = .ok (.putfield 22, 3) := by decide +kernel
theorem dX2_empty_10 : decode cX2_empty 10 = .ok (.return_, 1) := by decide +kernel
theorem dX2_copy_0 : decode cX2_copy 0 = .ok (.iconst 0, 1) := by decide +kernel
theorem dX2_copy_1 : decode cX2_copy 1 = .ok (.istore_n 2, 1) := by decide +kernel
theorem dX2_copy_2 : decode cX2_copy 2 = .ok (.iload_n 2, 1) := by decide +kernel
theorem dX2_copy_3 : decode cX2_copy 3 = .ok (.bipush 6, 2) := by decide +kernel
theorem dX2_copy_5 : decode cX2_copy 5 = .ok (.if_icmp .ge 33, 3) := by decide +kernel
theorem dX2_copy_8 : decode cX2_copy 8 = .ok (.aload_n 0, 1) := by decide +kernel
theorem dX2_copy_9 : decode cX2_copy 9 = .ok (.getfield 9, 3) := by decide +kernel
theorem dX2_copy_12 : decode cX2_copy 12 = .ok (.iload_n 2, 1) := by decide +kernel
theorem dX2_copy_13 : decode cX2_copy 13 = .ok (.aload_n 1, 1) := by decide +kernel
theorem dX2_copy_14 : decode cX2_copy 14 = .ok (.getfield 9, 3) := by decide +kernel
theorem dX2_copy_17 : decode cX2_copy 17 = .ok (.iload_n 2, 1) := by decide +kernel
theorem dX2_copy_18 : decode cX2_copy 18 = .ok (.iaload, 1) := by decide +kernel
theorem dX2_copy_19 : decode cX2_copy 19 = .ok (.iastore, 1) := by decide +kernel
theorem dX2_copy_20 : decode cX2_copy 20 = .ok (.aload_n 0, 1) := by decide +kernel
theorem dX2_copy_21 : decode cX2_copy 21 = .ok (.getfield 15, 3) := by decide +kernel
theorem dX2_copy_24 : decode cX2_copy 24 = .ok (.iload_n 2, 1) := by decide +kernel
theorem dX2_copy_25 : decode cX2_copy 25 = .ok (.aload_n 1, 1) := by decide +kernel
theorem dX2_copy_26 : decode cX2_copy 26 = .ok (.getfield 15, 3) := by decide +kernel
theorem dX2_copy_29 : decode cX2_copy 29 = .ok (.iload_n 2, 1) := by decide +kernel
theorem dX2_copy_30 : decode cX2_copy 30 = .ok (.iaload, 1) := by decide +kernel
theorem dX2_copy_31 : decode cX2_copy 31 = .ok (.iastore, 1) := by decide +kernel
theorem dX2_copy_32 : decode cX2_copy 32 = .ok (.iinc 2 1, 3) := by decide +kernel
theorem dX2_copy_35 : decode cX2_copy 35 = .ok (.goto (-33), 3) := by decide +kernel
theorem dX2_copy_38 : decode cX2_copy 38 = .ok (.aload_n 0, 1) := by decide +kernel
theorem dX2_copy_39 : decode cX2_copy 39 = .ok (.aload_n 1, 1) := by decide +kernel
theorem dX2_copy_40 : decode cX2_copy 40 = .ok (.getfield 18, 3) := by decide +kernel
theorem dX2_copy_43 : decode cX2_copy 43 = .ok (.putfield 18, 3) := by decide +kernel
theorem dX2_copy_46 : decode cX2_copy 46 = .ok (.aload_n 0, 1) := by decide +kernel
theorem dX2_copy_47 : decode cX2_copy 47 = .ok (.aload_n 1, 1) := by decide +kernel
theorem dX2_copy_48 : decode cX2_copy 48 = .ok (.getfield 22, 3) := by decide +kernel
theorem dX2_copy_51 : decode cX2_copy 51 = .ok (.putfield 22, 3) := by decide +kernel
theorem dX2_copy_54 : decode cX2_copy 54 = .ok (.return_, 1) := by decide +kernel
theorem dX2_add_0 : decode cX2_add 0 = .ok (.aload_n 0, 1) := by decide +kernel
theorem dX2_add_1 : decode cX2_add 1 = .ok (.getfield 18, 3) := by decide +kernel
theorem dX2_add_4 : decode cX2_add 4 = .ok (.bipush 6, 2) := by decide +kernel
theorem dX2_add_6 : decode cX2_add 6 = .ok (.if_icmp .lt 5, 3) := by decide +kernel
theorem dX2_add_9 : decode cX2_add 9 = .ok (.iconst 0, 1) := by decide +kernel
theorem dX2_add_10 : decode cX2_add 10 = .ok (.ireturn, 1) := by decide +kernel
theorem dX2_add_11 : decode cX2_add 11 = .ok (.aload_n 0, 1) := by decide +kernel
theorem dX2_add_12 : decode cX2_add 12 = .ok (.getfield 9, 3) := by decide +kernel
theorem dX2_add_15 : decode cX2_add 15 = .ok (.aload_n 0, 1) := by decide +kernel
theorem dX2_add_16 : decode cX2_add 16 = .ok (.getfield 18, 3) := by decide +kernel
theorem dX2_add_19 : decode cX2_add 19 = .ok (.iload_n 1, 1) := by decide +kernel
theorem dX2_add_20 : decode cX2_add 20 = .ok (.iastore, 1) := by decide +kernel
theorem dX2_add_21 : decode cX2_add 21 = .ok (.aload_n 0, 1) := by decide +kernel
theorem dX2_add_22 : decode cX2_add 22 = .ok (.getfield 15, 3) := by decide +kernel
theorem dX2_add_25 : decode cX2_add 25 = .ok (.aload_n 0, 1) := by decide +kernel
theorem dX2_add_26 : decode cX2_add 26 = .ok (.getfield 18, 3) := by decide +kernel
theorem dX2_add_29 : decode cX2_add 29 = .ok (.iload_n 2, 1) := by decide +kernel
theorem dX2_add_30 : decode cX2_add 30 = .ok (.iastore, 1) := by decide +kernel
theorem dX2_add_31 : decode cX2_add 31 = .ok (.aload_n 0, 1) := by decide +kernel
theorem dX2_add_32 : decode cX2_add 32 = .ok (.dup, 1) := by decide +kernel
theorem dX2_add_33 : decode cX2_add 33 = .ok (.getfield 18, 3) := by decide +kernel
theorem dX2_add_36 : decode cX2_add 36 = .ok (.iconst 1, 1) := by decide +kernel
theorem dX2_add_37 : decode cX2_add 37 = .ok (.iadd, 1) := by decide +kernel
theorem dX2_add_38 : decode cX2_add 38 = .ok (.putfield 18, 3) := by decide +kernel
theorem dX2_add_41 : decode cX2_add 41 = .ok (.iconst 1, 1) := by decide +kernel
theorem dX2_add_42 : decode cX2_add 42 = .ok (.ireturn, 1) := by decide +kernel
theorem dX2_isStruck_0 : decode cX2_isStruck 0 = .ok (.aload_n 0, 1) := by decide +kernel
theorem dX2_isStruck_1 : decode cX2_isStruck 1 = .ok (.getfield 22, 3) := by decide +kernel
theorem dX2_isStruck_4 : decode cX2_isStruck 4 = .ok (.iload_n 1, 1) := by decide +kernel
theorem dX2_isStruck_5 : decode cX2_isStruck 5 = .ok (.ishr, 1) := by decide +kernel
theorem dX2_isStruck_6 : decode cX2_isStruck 6 = .ok (.iconst 1, 1) := by decide +kernel
theorem dX2_isStruck_7 : decode cX2_isStruck 7 = .ok (.iand, 1) := by decide +kernel
theorem dX2_isStruck_8 : decode cX2_isStruck 8 = .ok (.ifCond .eq 7, 3) := by decide +kernel
theorem dX2_isStruck_11 : decode cX2_isStruck 11 = .ok (.iconst 1, 1) := by decide +kernel
theorem dX2_isStruck_12 : decode cX2_isStruck 12 = .ok (.goto 4, 3) := by decide +kernel
theorem dX2_isStruck_15 : decode cX2_isStruck 15 = .ok (.iconst 0, 1) := by decide +kernel
theorem dX2_isStruck_16 : decode cX2_isStruck 16 = .ok (.ireturn, 1) := by decide +kernel
theorem dX2_turn_0 : decode cX2_turn 0 = .ok (.aload_n 0, 1) := by decide +kernel
theorem dX2_turn_1 : decode cX2_turn 1 = .ok (.dup, 1) := by decide +kernel
theorem dX2_turn_2 : decode cX2_turn 2 = .ok (.getfield 22, 3) := by decide +kernel
theorem dX2_turn_5 : decode cX2_turn 5 = .ok (.iconst 1, 1) := by decide +kernel
theorem dX2_turn_6 : decode cX2_turn 6 = .ok (.iload_n 1, 1) := by decide +kernel
theorem dX2_turn_7 : decode cX2_turn 7 = .ok (.ishl, 1) := by decide +kernel
theorem dX2_turn_8 : decode cX2_turn 8 = .ok (.ixor, 1) := by decide +kernel
theorem dX2_turn_9 : decode cX2_turn 9 = .ok (.putfield 22, 3) := by decide +kernel
theorem dX2_turn_12 : decode cX2_turn 12 = .ok (.return_, 1) := by decide +kernel
theorem dX2_mayTell_0 : decode cX2_mayTell 0 = .ok (.iload_n 1, 1) := by decide +kernel
theorem dX2_mayTell_1 : decode cX2_mayTell 1 = .ok (.ifCond .le 15, 3) := by decide +kernel
theorem dX2_mayTell_4 : decode cX2_mayTell 4 = .ok (.iload_n 2, 1) := by decide +kernel
theorem dX2_mayTell_5 : decode cX2_mayTell 5 = .ok (.aload_n 0, 1) := by decide +kernel
theorem dX2_mayTell_6 : decode cX2_mayTell 6 = .ok (.getfield 15, 3) := by decide +kernel
theorem dX2_mayTell_9 : decode cX2_mayTell 9 = .ok (.iload_n 1, 1) := by decide +kernel
theorem dX2_mayTell_10 : decode cX2_mayTell 10 = .ok (.iconst 1, 1) := by decide +kernel
theorem dX2_mayTell_11 : decode cX2_mayTell 11 = .ok (.isub, 1) := by decide +kernel
theorem dX2_mayTell_12 : decode cX2_mayTell 12 = .ok (.iaload, 1) := by decide +kernel
theorem dX2_mayTell_13 : decode cX2_mayTell 13 = .ok (.if_icmp .lt 7, 3) := by decide +kernel
theorem dX2_mayTell_16 : decode cX2_mayTell 16 = .ok (.iconst 1, 1) := by decide +kernel
theorem dX2_mayTell_17 : decode cX2_mayTell 17 = .ok (.goto 4, 3) := by decide +kernel
theorem dX2_mayTell_20 : decode cX2_mayTell 20 = .ok (.iconst 0, 1) := by decide +kernel
theorem dX2_mayTell_21 : decode cX2_mayTell 21 = .ok (.istore_n 3, 1) := by decide +kernel
theorem dX2_mayTell_22 : decode cX2_mayTell 22 = .ok (.iload_n 1, 1) := by decide +kernel
theorem dX2_mayTell_23 : decode cX2_mayTell 23 = .ok (.iconst 1, 1) := by decide +kernel
theorem dX2_mayTell_24 : decode cX2_mayTell 24 = .ok (.iadd, 1) := by decide +kernel
theorem dX2_mayTell_25 : decode cX2_mayTell 25 = .ok (.aload_n 0, 1) := by decide +kernel
theorem dX2_mayTell_26 : decode cX2_mayTell 26 = .ok (.getfield 18, 3) := by decide +kernel
theorem dX2_mayTell_29 : decode cX2_mayTell 29 = .ok (.if_icmp .ge 15, 3) := by decide +kernel
theorem dX2_mayTell_32 : decode cX2_mayTell 32 = .ok (.iload_n 2, 1) := by decide +kernel
theorem dX2_mayTell_33 : decode cX2_mayTell 33 = .ok (.aload_n 0, 1) := by decide +kernel
theorem dX2_mayTell_34 : decode cX2_mayTell 34 = .ok (.getfield 15, 3) := by decide +kernel
theorem dX2_mayTell_37 : decode cX2_mayTell 37 = .ok (.iload_n 1, 1) := by decide +kernel
theorem dX2_mayTell_38 : decode cX2_mayTell 38 = .ok (.iconst 1, 1) := by decide +kernel
theorem dX2_mayTell_39 : decode cX2_mayTell 39 = .ok (.iadd, 1) := by decide +kernel
theorem dX2_mayTell_40 : decode cX2_mayTell 40 = .ok (.iaload, 1) := by decide +kernel
theorem dX2_mayTell_41 : decode cX2_mayTell 41 = .ok (.if_icmp .gt 7, 3) := by decide +kernel
theorem dX2_mayTell_44 : decode cX2_mayTell 44 = .ok (.iconst 1, 1) := by decide +kernel
theorem dX2_mayTell_45 : decode cX2_mayTell 45 = .ok (.goto 4, 3) := by decide +kernel
theorem dX2_mayTell_48 : decode cX2_mayTell 48 = .ok (.iconst 0, 1) := by decide +kernel
theorem dX2_mayTell_49 : decode cX2_mayTell 49 = .ok (.istore 4, 2) := by decide +kernel
theorem dX2_mayTell_51 : decode cX2_mayTell 51 = .ok (.iload_n 3, 1) := by decide +kernel
theorem dX2_mayTell_52 : decode cX2_mayTell 52 = .ok (.ifCond .eq 12, 3) := by decide +kernel
theorem dX2_mayTell_55 : decode cX2_mayTell 55 = .ok (.iload 4, 2) := by decide +kernel
theorem dX2_mayTell_57 : decode cX2_mayTell 57 = .ok (.ifCond .eq 7, 3) := by decide +kernel
theorem dX2_mayTell_60 : decode cX2_mayTell 60 = .ok (.iconst 1, 1) := by decide +kernel
theorem dX2_mayTell_61 : decode cX2_mayTell 61 = .ok (.goto 4, 3) := by decide +kernel
theorem dX2_mayTell_64 : decode cX2_mayTell 64 = .ok (.iconst 0, 1) := by decide +kernel
theorem dX2_mayTell_65 : decode cX2_mayTell 65 = .ok (.ireturn, 1) := by decide +kernel
theorem dX2_entriesLeft_0 : decode cX2_entriesLeft 0 = .ok (.aload_n 0, 1) := by decide +kernel
theorem dX2_entriesLeft_1 : decode cX2_entriesLeft 1 = .ok (.getfield 18, 3) := by decide +kernel
theorem dX2_entriesLeft_4 : decode cX2_entriesLeft 4 = .ok (.aload_n 0, 1) := by decide +kernel
theorem dX2_entriesLeft_5 : decode cX2_entriesLeft 5 = .ok (.getfield 22, 3) := by decide +kernel
theorem dX2_entriesLeft_8 : decode cX2_entriesLeft 8 = .ok (.invokestatic 25, 3) := by decide +kernel
theorem dX2_entriesLeft_11 : decode cX2_entriesLeft 11 = .ok (.isub, 1) := by decide +kernel
theorem dX2_entriesLeft_12 : decode cX2_entriesLeft 12 = .ok (.ireturn, 1) := by decide +kernel
theorem dX2_eventBits_0 : decode cX2_eventBits 0 = .ok (.iconst 0, 1) := by decide +kernel
theorem dX2_eventBits_1 : decode cX2_eventBits 1 = .ok (.istore_n 1, 1) := by decide +kernel
theorem dX2_eventBits_2 : decode cX2_eventBits 2 = .ok (.iconst 0, 1) := by decide +kernel
theorem dX2_eventBits_3 : decode cX2_eventBits 3 = .ok (.istore_n 2, 1) := by decide +kernel
theorem dX2_eventBits_4 : decode cX2_eventBits 4 = .ok (.iload_n 2, 1) := by decide +kernel
theorem dX2_eventBits_5 : decode cX2_eventBits 5 = .ok (.aload_n 0, 1) := by decide +kernel
theorem dX2_eventBits_6 : decode cX2_eventBits 6 = .ok (.getfield 18, 3) := by decide +kernel
theorem dX2_eventBits_9 : decode cX2_eventBits 9 = .ok (.if_icmp .ge 28, 3) := by decide +kernel
theorem dX2_eventBits_12 : decode cX2_eventBits 12 = .ok (.aload_n 0, 1) := by decide +kernel
theorem dX2_eventBits_13 : decode cX2_eventBits 13 = .ok (.iload_n 2, 1) := by decide +kernel
theorem dX2_eventBits_14 : decode cX2_eventBits 14 = .ok (.invokevirtual 31, 3) := by decide +kernel
theorem dX2_eventBits_17 : decode cX2_eventBits 17 = .ok (.ifCond .ne 14, 3) := by decide +kernel
theorem dX2_eventBits_20 : decode cX2_eventBits 20 = .ok (.iload_n 1, 1) := by decide +kernel
theorem dX2_eventBits_21 : decode cX2_eventBits 21 = .ok (.iconst 1, 1) := by decide +kernel
theorem dX2_eventBits_22 : decode cX2_eventBits 22 = .ok (.aload_n 0, 1) := by decide +kernel
theorem dX2_eventBits_23 : decode cX2_eventBits 23 = .ok (.getfield 9, 3) := by decide +kernel
theorem dX2_eventBits_26 : decode cX2_eventBits 26 = .ok (.iload_n 2, 1) := by decide +kernel
theorem dX2_eventBits_27 : decode cX2_eventBits 27 = .ok (.iaload, 1) := by decide +kernel
theorem dX2_eventBits_28 : decode cX2_eventBits 28 = .ok (.ishl, 1) := by decide +kernel
theorem dX2_eventBits_29 : decode cX2_eventBits 29 = .ok (.ior, 1) := by decide +kernel
theorem dX2_eventBits_30 : decode cX2_eventBits 30 = .ok (.istore_n 1, 1) := by decide +kernel
theorem dX2_eventBits_31 : decode cX2_eventBits 31 = .ok (.iinc 2 1, 3) := by decide +kernel
theorem dX2_eventBits_34 : decode cX2_eventBits 34 = .ok (.goto (-30), 3) := by decide +kernel
theorem dX2_eventBits_37 : decode cX2_eventBits 37 = .ok (.iload_n 1, 1) := by decide +kernel
theorem dX2_eventBits_38 : decode cX2_eventBits 38 = .ok (.ireturn, 1) := by decide +kernel
theorem dX2_placeOf_0 : decode cX2_placeOf 0 = .ok (.iconst 0, 1) := by decide +kernel
theorem dX2_placeOf_1 : decode cX2_placeOf 1 = .ok (.istore_n 2, 1) := by decide +kernel
theorem dX2_placeOf_2 : decode cX2_placeOf 2 = .ok (.iload_n 2, 1) := by decide +kernel
theorem dX2_placeOf_3 : decode cX2_placeOf 3 = .ok (.aload_n 0, 1) := by decide +kernel
theorem dX2_placeOf_4 : decode cX2_placeOf 4 = .ok (.getfield 18, 3) := by decide +kernel
theorem dX2_placeOf_7 : decode cX2_placeOf 7 = .ok (.if_icmp .ge 29, 3) := by decide +kernel
theorem dX2_placeOf_10 : decode cX2_placeOf 10 = .ok (.aload_n 0, 1) := by decide +kernel
theorem dX2_placeOf_11 : decode cX2_placeOf 11 = .ok (.getfield 9, 3) := by decide +kernel
theorem dX2_placeOf_14 : decode cX2_placeOf 14 = .ok (.iload_n 2, 1) := by decide +kernel
theorem dX2_placeOf_15 : decode cX2_placeOf 15 = .ok (.iaload, 1) := by decide +kernel
theorem dX2_placeOf_16 : decode cX2_placeOf 16 = .ok (.iload_n 1, 1) := by decide +kernel
theorem dX2_placeOf_17 : decode cX2_placeOf 17 = .ok (.if_icmp .ne 13, 3) := by decide +kernel
theorem dX2_placeOf_20 : decode cX2_placeOf 20 = .ok (.aload_n 0, 1) := by decide +kernel
theorem dX2_placeOf_21 : decode cX2_placeOf 21 = .ok (.iload_n 2, 1) := by decide +kernel
theorem dX2_placeOf_22 : decode cX2_placeOf 22 = .ok (.invokevirtual 31, 3) := by decide +kernel
theorem dX2_placeOf_25 : decode cX2_placeOf 25 = .ok (.ifCond .ne 5, 3) := by decide +kernel
theorem dX2_placeOf_28 : decode cX2_placeOf 28 = .ok (.iload_n 2, 1) := by decide +kernel
theorem dX2_placeOf_29 : decode cX2_placeOf 29 = .ok (.ireturn, 1) := by decide +kernel
theorem dX2_placeOf_30 : decode cX2_placeOf 30 = .ok (.iinc 2 1, 3) := by decide +kernel
theorem dX2_placeOf_33 : decode cX2_placeOf 33 = .ok (.goto (-31), 3) := by decide +kernel
theorem dX2_placeOf_36 : decode cX2_placeOf 36 = .ok (.iconst (-1), 1) := by decide +kernel
theorem dX2_placeOf_37 : decode cX2_placeOf 37 = .ok (.ireturn, 1) := by decide +kernel
theorem dX3_init_0 : decode cX3_init 0 = .ok (.aload_n 0, 1) := by decide +kernel
theorem dX3_init_1 : decode cX3_init 1 = .ok (.invokespecial 3, 3) := by decide +kernel
theorem dX3_init_4 : decode cX3_init 4 = .ok (.aload_n 0, 1) := by decide +kernel
theorem dX3_init_5 : decode cX3_init 5 = .ok (.bipush 8, 2) := by decide +kernel
theorem dX3_init_7 : decode cX3_init 7 = .ok (.newarray .int, 2) := by decide +kernel
theorem dX3_init_9 : decode cX3_init 9 = .ok (.putfield 9, 3) := by decide +kernel
theorem dX3_init_12 : decode cX3_init 12 = .ok (.aload_n 0, 1) := by decide +kernel
theorem dX3_init_13 : decode cX3_init 13 = .ok (.bipush 8, 2) := by decide +kernel
theorem dX3_init_15 : decode cX3_init 15 = .ok (.newarray .int, 2) := by decide +kernel
theorem dX3_init_17 : decode cX3_init 17 = .ok (.putfield 15, 3) := by decide +kernel
theorem dX3_init_20 : decode cX3_init 20 = .ok (.return_, 1) := by decide +kernel
theorem dX3_look_0 : decode cX3_look 0 = .ok (.aload_n 0, 1) := by decide +kernel
theorem dX3_look_1 : decode cX3_look 1 = .ok (.invokevirtual 18, 3) := by decide +kernel
theorem dX3_look_4 : decode cX3_look 4 = .ok (.iconst 0, 1) := by decide +kernel
theorem dX3_look_5 : decode cX3_look 5 = .ok (.istore_n 3, 1) := by decide +kernel
theorem dX3_look_6 : decode cX3_look 6 = .ok (.iload_n 3, 1) := by decide +kernel
theorem dX3_look_7 : decode cX3_look 7 = .ok (.aload_n 1, 1) := by decide +kernel
theorem dX3_look_8 : decode cX3_look 8 = .ok (.getfield 21, 3) := by decide +kernel
theorem dX3_look_11 : decode cX3_look 11 = .ok (.if_icmp .ge 36, 3) := by decide +kernel
theorem dX3_look_14 : decode cX3_look 14 = .ok (.iload_n 2, 1) := by decide +kernel
theorem dX3_look_15 : decode cX3_look 15 = .ok (.iload_n 3, 1) := by decide +kernel
theorem dX3_look_16 : decode cX3_look 16 = .ok (.ishr, 1) := by decide +kernel
theorem dX3_look_17 : decode cX3_look 17 = .ok (.iconst 1, 1) := by decide +kernel
theorem dX3_look_18 : decode cX3_look 18 = .ok (.iand, 1) := by decide +kernel
theorem dX3_look_19 : decode cX3_look 19 = .ok (.ifCond .ne 22, 3) := by decide +kernel
theorem dX3_look_22 : decode cX3_look 22 = .ok (.aload_n 0, 1) := by decide +kernel
theorem dX3_look_23 : decode cX3_look 23 = .ok (.aload_n 1, 1) := by decide +kernel
theorem dX3_look_24 : decode cX3_look 24 = .ok (.getfield 27, 3) := by decide +kernel
theorem dX3_look_27 : decode cX3_look 27 = .ok (.iload_n 3, 1) := by decide +kernel
theorem dX3_look_28 : decode cX3_look 28 = .ok (.aaload, 1) := by decide +kernel
theorem dX3_look_29 : decode cX3_look 29 = .ok (.aload_n 1, 1) := by decide +kernel
theorem dX3_look_30 : decode cX3_look 30 = .ok (.getfield 27, 3) := by decide +kernel
theorem dX3_look_33 : decode cX3_look 33 = .ok (.iload_n 3, 1) := by decide +kernel
theorem dX3_look_34 : decode cX3_look 34 = .ok (.aaload, 1) := by decide +kernel
theorem dX3_look_35 : decode cX3_look 35 = .ok (.getfield 31, 3) := by decide +kernel
theorem dX3_look_38 : decode cX3_look 38 = .ok (.invokevirtual 36, 3) := by decide +kernel
theorem dX3_look_41 : decode cX3_look 41 = .ok (.iinc 3 1, 3) := by decide +kernel
theorem dX3_look_44 : decode cX3_look 44 = .ok (.goto (-38), 3) := by decide +kernel
theorem dX3_look_47 : decode cX3_look 47 = .ok (.aload_n 0, 1) := by decide +kernel
theorem dX3_look_48 : decode cX3_look 48 = .ok (.invokevirtual 40, 3) := by decide +kernel
theorem dX3_look_51 : decode cX3_look 51 = .ok (.return_, 1) := by decide +kernel
theorem dX3_lookStruck_0 : decode cX3_lookStruck 0 = .ok (.aload_n 0, 1) := by decide +kernel
theorem dX3_lookStruck_1 : decode cX3_lookStruck 1 = .ok (.invokevirtual 18, 3) := by decide +kernel
theorem dX3_lookStruck_4 : decode cX3_lookStruck 4 = .ok (.iconst 0, 1) := by decide +kernel
theorem dX3_lookStruck_5 : decode cX3_lookStruck 5 = .ok (.istore 4, 2) := by decide +kernel
theorem dX3_lookStruck_7 : decode cX3_lookStruck 7 = .ok (.iload 4, 2) := by decide +kernel
theorem dX3_lookStruck_9 : decode cX3_lookStruck 9 = .ok (.aload_n 1, 1) := by decide +kernel
theorem dX3_lookStruck_10 : decode cX3_lookStruck 10 = .ok (.getfield 21, 3) := by decide +kernel
theorem dX3_lookStruck_13 : decode cX3_lookStruck 13 = .ok (.if_icmp .ge 48, 3) := by decide +kernel
theorem dX3_lookStruck_16 : decode cX3_lookStruck 16 = .ok (.iload 4, 2) := by decide +kernel
theorem dX3_lookStruck_18 : decode cX3_lookStruck 18 = .ok (.iload_n 2, 1) := by decide +kernel
theorem dX3_lookStruck_19 : decode cX3_lookStruck 19 = .ok (.if_icmp .ne 9, 3) := by decide +kernel
theorem dX3_lookStruck_22 : decode cX3_lookStruck 22 = .ok (.iconst 1, 1) := by decide +kernel
theorem dX3_lookStruck_23 : decode cX3_lookStruck 23 = .ok (.iload_n 3, 1) := by decide +kernel
theorem dX3_lookStruck_24 : decode cX3_lookStruck 24 = .ok (.ishl, 1) := by decide +kernel
theorem dX3_lookStruck_25 : decode cX3_lookStruck 25 = .ok (.goto 4, 3) := by decide +kernel
theorem dX3_lookStruck_28 : decode cX3_lookStruck 28 = .ok (.iconst 0, 1) := by decide +kernel
theorem dX3_lookStruck_29 : decode cX3_lookStruck 29 = .ok (.istore 5, 2) := by decide +kernel
theorem dX3_lookStruck_31 : decode cX3_lookStruck 31 = .ok (.aload_n 0, 1) := by decide +kernel
theorem dX3_lookStruck_32 : decode cX3_lookStruck 32 = .ok (.aload_n 1, 1) := by decide +kernel
theorem dX3_lookStruck_33 : decode cX3_lookStruck 33 = .ok (.getfield 27, 3) := by decide +kernel
theorem dX3_lookStruck_36 : decode cX3_lookStruck 36 = .ok (.iload 4, 2) := by decide +kernel
theorem dX3_lookStruck_38 : decode cX3_lookStruck 38 = .ok (.aaload, 1) := by decide +kernel
theorem dX3_lookStruck_39 : decode cX3_lookStruck 39 = .ok (.aload_n 1, 1) := by decide +kernel
theorem dX3_lookStruck_40 : decode cX3_lookStruck 40 = .ok (.getfield 27, 3) := by decide +kernel
theorem dX3_lookStruck_43 : decode cX3_lookStruck 43 = .ok (.iload 4, 2) := by decide +kernel
theorem dX3_lookStruck_45 : decode cX3_lookStruck 45 = .ok (.aaload, 1) := by decide +kernel
theorem dX3_lookStruck_46 : decode cX3_lookStruck 46 = .ok (.getfield 31, 3) := by decide +kernel
theorem dX3_lookStruck_49 : decode cX3_lookStruck 49 = .ok (.iload 5, 2) := by decide +kernel
theorem dX3_lookStruck_51 : decode cX3_lookStruck 51 = .ok (.ior, 1) := by decide +kernel
theorem dX3_lookStruck_52 : decode cX3_lookStruck 52 = .ok (.invokevirtual 36, 3) := by decide +kernel
theorem dX3_lookStruck_55 : decode cX3_lookStruck 55 = .ok (.iinc 4 1, 3) := by decide +kernel
theorem dX3_lookStruck_58 : decode cX3_lookStruck 58 = .ok (.goto (-51), 3) := by decide +kernel
theorem dX3_lookStruck_61 : decode cX3_lookStruck 61 = .ok (.aload_n 0, 1) := by decide +kernel
theorem dX3_lookStruck_62 : decode cX3_lookStruck 62 = .ok (.invokevirtual 40, 3) := by decide +kernel
theorem dX3_lookStruck_65 : decode cX3_lookStruck 65 = .ok (.return_, 1) := by decide +kernel
theorem dX3_empty_0 : decode cX3_empty 0 = .ok (.iconst 0, 1) := by decide +kernel
theorem dX3_empty_1 : decode cX3_empty 1 = .ok (.istore_n 1, 1) := by decide +kernel
theorem dX3_empty_2 : decode cX3_empty 2 = .ok (.iload_n 1, 1) := by decide +kernel
theorem dX3_empty_3 : decode cX3_empty 3 = .ok (.bipush 8, 2) := by decide +kernel
theorem dX3_empty_5 : decode cX3_empty 5 = .ok (.if_icmp .ge 16, 3) := by decide +kernel
theorem dX3_empty_8 : decode cX3_empty 8 = .ok (.aload_n 0, 1) := by decide +kernel
theorem dX3_empty_9 : decode cX3_empty 9 = .ok (.getfield 9, 3) := by decide +kernel
theorem dX3_empty_12 : decode cX3_empty 12 = .ok (.iload_n 1, 1) := by decide +kernel
theorem dX3_empty_13 : decode cX3_empty 13 = .ok (.iconst 0, 1) := by decide +kernel
theorem dX3_empty_14 : decode cX3_empty 14 = .ok (.iastore, 1) := by decide +kernel
theorem dX3_empty_15 : decode cX3_empty 15 = .ok (.iinc 1 1, 3) := by decide +kernel
theorem dX3_empty_18 : decode cX3_empty 18 = .ok (.goto (-16), 3) := by decide +kernel
theorem dX3_empty_21 : decode cX3_empty 21 = .ok (.return_, 1) := by decide +kernel
theorem dX3_ask_0 : decode cX3_ask 0 = .ok (.iconst 0, 1) := by decide +kernel
theorem dX3_ask_1 : decode cX3_ask 1 = .ok (.istore_n 3, 1) := by decide +kernel
theorem dX3_ask_2 : decode cX3_ask 2 = .ok (.iload_n 3, 1) := by decide +kernel
theorem dX3_ask_3 : decode cX3_ask 3 = .ok (.aload_n 1, 1) := by decide +kernel
theorem dX3_ask_4 : decode cX3_ask 4 = .ok (.getfield 43, 3) := by decide +kernel
theorem dX3_ask_7 : decode cX3_ask 7 = .ok (.if_icmp .ge 93, 3) := by decide +kernel
theorem dX3_ask_10 : decode cX3_ask 10 = .ok (.iload_n 3, 1) := by decide +kernel
theorem dX3_ask_11 : decode cX3_ask 11 = .ok (.iconst 1, 1) := by decide +kernel
theorem dX3_ask_12 : decode cX3_ask 12 = .ok (.iadd, 1) := by decide +kernel
theorem dX3_ask_13 : decode cX3_ask 13 = .ok (.istore 4, 2) := by decide +kernel
theorem dX3_ask_15 : decode cX3_ask 15 = .ok (.iload 4, 2) := by decide +kernel
theorem dX3_ask_17 : decode cX3_ask 17 = .ok (.aload_n 1, 1) := by decide +kernel
theorem dX3_ask_18 : decode cX3_ask 18 = .ok (.getfield 43, 3) := by decide +kernel
theorem dX3_ask_21 : decode cX3_ask 21 = .ok (.if_icmp .ge 73, 3) := by decide +kernel
theorem dX3_ask_24 : decode cX3_ask 24 = .ok (.iload_n 2, 1) := by decide +kernel
theorem dX3_ask_25 : decode cX3_ask 25 = .ok (.iload_n 3, 1) := by decide +kernel
theorem dX3_ask_26 : decode cX3_ask 26 = .ok (.ishr, 1) := by decide +kernel
theorem dX3_ask_27 : decode cX3_ask 27 = .ok (.iload_n 2, 1) := by decide +kernel
theorem dX3_ask_28 : decode cX3_ask 28 = .ok (.iload 4, 2) := by decide +kernel
theorem dX3_ask_30 : decode cX3_ask 30 = .ok (.ishr, 1) := by decide +kernel
theorem dX3_ask_31 : decode cX3_ask 31 = .ok (.ior, 1) := by decide +kernel
theorem dX3_ask_32 : decode cX3_ask 32 = .ok (.iconst 1, 1) := by decide +kernel
theorem dX3_ask_33 : decode cX3_ask 33 = .ok (.iand, 1) := by decide +kernel
theorem dX3_ask_34 : decode cX3_ask 34 = .ok (.ifCond .ne 7, 3) := by decide +kernel
theorem dX3_ask_37 : decode cX3_ask 37 = .ok (.iconst 1, 1) := by decide +kernel
theorem dX3_ask_38 : decode cX3_ask 38 = .ok (.goto 4, 3) := by decide +kernel
theorem dX3_ask_41 : decode cX3_ask 41 = .ok (.iconst 0, 1) := by decide +kernel
theorem dX3_ask_42 : decode cX3_ask 42 = .ok (.istore 5, 2) := by decide +kernel
theorem dX3_ask_44 : decode cX3_ask 44 = .ok (.iload 5, 2) := by decide +kernel
theorem dX3_ask_46 : decode cX3_ask 46 = .ok (.ifCond .eq 42, 3) := by decide +kernel
theorem dX3_ask_49 : decode cX3_ask 49 = .ok (.aload_n 1, 1) := by decide +kernel
theorem dX3_ask_50 : decode cX3_ask 50 = .ok (.getfield 44, 3) := by decide +kernel
theorem dX3_ask_53 : decode cX3_ask 53 = .ok (.iload_n 3, 1) := by decide +kernel
theorem dX3_ask_54 : decode cX3_ask 54 = .ok (.iaload, 1) := by decide +kernel
theorem dX3_ask_55 : decode cX3_ask 55 = .ok (.aload_n 1, 1) := by decide +kernel
theorem dX3_ask_56 : decode cX3_ask 56 = .ok (.getfield 44, 3) := by decide +kernel
theorem dX3_ask_59 : decode cX3_ask 59 = .ok (.iload 4, 2) := by decide +kernel
theorem dX3_ask_61 : decode cX3_ask 61 = .ok (.iaload, 1) := by decide +kernel
theorem dX3_ask_62 : decode cX3_ask 62 = .ok (.if_icmp .ge 26, 3) := by decide +kernel
theorem dX3_ask_65 : decode cX3_ask 65 = .ok (.aload_n 0, 1) := by decide +kernel
theorem dX3_ask_66 : decode cX3_ask 66 = .ok (.getfield 9, 3) := by decide +kernel
theorem dX3_ask_69 : decode cX3_ask 69 = .ok (.aload_n 1, 1) := by decide +kernel
theorem dX3_ask_70 : decode cX3_ask 70 = .ok (.getfield 47, 3) := by decide +kernel
theorem dX3_ask_73 : decode cX3_ask 73 = .ok (.iload_n 3, 1) := by decide +kernel
theorem dX3_ask_74 : decode cX3_ask 74 = .ok (.iaload, 1) := by decide +kernel
theorem dX3_ask_75 : decode cX3_ask 75 = .ok (.dup2, 1) := by decide +kernel
theorem dX3_ask_76 : decode cX3_ask 76 = .ok (.iaload, 1) := by decide +kernel
theorem dX3_ask_77 : decode cX3_ask 77 = .ok (.iconst 1, 1) := by decide +kernel
theorem dX3_ask_78 : decode cX3_ask 78 = .ok (.aload_n 1, 1) := by decide +kernel
theorem dX3_ask_79 : decode cX3_ask 79 = .ok (.getfield 47, 3) := by decide +kernel
theorem dX3_ask_82 : decode cX3_ask 82 = .ok (.iload 4, 2) := by decide +kernel
theorem dX3_ask_84 : decode cX3_ask 84 = .ok (.iaload, 1) := by decide +kernel
theorem dX3_ask_85 : decode cX3_ask 85 = .ok (.ishl, 1) := by decide +kernel
theorem dX3_ask_86 : decode cX3_ask 86 = .ok (.ior, 1) := by decide +kernel
theorem dX3_ask_87 : decode cX3_ask 87 = .ok (.iastore, 1) := by decide +kernel
theorem dX3_ask_88 : decode cX3_ask 88 = .ok (.iinc 4 1, 3) := by decide +kernel
theorem dX3_ask_91 : decode cX3_ask 91 = .ok (.goto (-76), 3) := by decide +kernel
theorem dX3_ask_94 : decode cX3_ask 94 = .ok (.iinc 3 1, 3) := by decide +kernel
theorem dX3_ask_97 : decode cX3_ask 97 = .ok (.goto (-95), 3) := by decide +kernel
theorem dX3_ask_100 : decode cX3_ask 100 = .ok (.return_, 1) := by decide +kernel
theorem dX3_chain_0 : decode cX3_chain 0 = .ok (.iconst 0, 1) := by decide +kernel
theorem dX3_chain_1 : decode cX3_chain 1 = .ok (.istore_n 1, 1) := by decide +kernel
theorem dX3_chain_2 : decode cX3_chain 2 = .ok (.iload_n 1, 1) := by decide +kernel
theorem dX3_chain_3 : decode cX3_chain 3 = .ok (.bipush 8, 2) := by decide +kernel
theorem dX3_chain_5 : decode cX3_chain 5 = .ok (.if_icmp .ge 21, 3) := by decide +kernel
theorem dX3_chain_8 : decode cX3_chain 8 = .ok (.aload_n 0, 1) := by decide +kernel
theorem dX3_chain_9 : decode cX3_chain 9 = .ok (.getfield 15, 3) := by decide +kernel
theorem dX3_chain_12 : decode cX3_chain 12 = .ok (.iload_n 1, 1) := by decide +kernel
theorem dX3_chain_13 : decode cX3_chain 13 = .ok (.aload_n 0, 1) := by decide +kernel
theorem dX3_chain_14 : decode cX3_chain 14 = .ok (.getfield 9, 3) := by decide +kernel
theorem dX3_chain_17 : decode cX3_chain 17 = .ok (.iload_n 1, 1) := by decide +kernel
theorem dX3_chain_18 : decode cX3_chain 18 = .ok (.iaload, 1) := by decide +kernel
theorem dX3_chain_19 : decode cX3_chain 19 = .ok (.iastore, 1) := by decide +kernel
theorem dX3_chain_20 : decode cX3_chain 20 = .ok (.iinc 1 1, 3) := by decide +kernel
theorem dX3_chain_23 : decode cX3_chain 23 = .ok (.goto (-21), 3) := by decide +kernel
theorem dX3_chain_26 : decode cX3_chain 26 = .ok (.iconst 0, 1) := by decide +kernel
theorem dX3_chain_27 : decode cX3_chain 27 = .ok (.istore_n 1, 1) := by decide +kernel
theorem dX3_chain_28 : decode cX3_chain 28 = .ok (.iload_n 1, 1) := by decide +kernel
theorem dX3_chain_29 : decode cX3_chain 29 = .ok (.bipush 8, 2) := by decide +kernel
theorem dX3_chain_31 : decode cX3_chain 31 = .ok (.if_icmp .ge 51, 3) := by decide +kernel
theorem dX3_chain_34 : decode cX3_chain 34 = .ok (.iconst 0, 1) := by decide +kernel
theorem dX3_chain_35 : decode cX3_chain 35 = .ok (.istore_n 2, 1) := by decide +kernel
theorem dX3_chain_36 : decode cX3_chain 36 = .ok (.iload_n 2, 1) := by decide +kernel
theorem dX3_chain_37 : decode cX3_chain 37 = .ok (.bipush 8, 2) := by decide +kernel
theorem dX3_chain_39 : decode cX3_chain 39 = .ok (.if_icmp .ge 37, 3) := by decide +kernel
theorem dX3_chain_42 : decode cX3_chain 42 = .ok (.aload_n 0, 1) := by decide +kernel
theorem dX3_chain_43 : decode cX3_chain 43 = .ok (.getfield 15, 3) := by decide +kernel
theorem dX3_chain_46 : decode cX3_chain 46 = .ok (.iload_n 2, 1) := by decide +kernel
theorem dX3_chain_47 : decode cX3_chain 47 = .ok (.iaload, 1) := by decide +kernel
theorem dX3_chain_48 : decode cX3_chain 48 = .ok (.iload_n 1, 1) := by decide +kernel
theorem dX3_chain_49 : decode cX3_chain 49 = .ok (.ishr, 1) := by decide +kernel
theorem dX3_chain_50 : decode cX3_chain 50 = .ok (.iconst 1, 1) := by decide +kernel
theorem dX3_chain_51 : decode cX3_chain 51 = .ok (.iand, 1) := by decide +kernel
theorem dX3_chain_52 : decode cX3_chain 52 = .ok (.ifCond .eq 18, 3) := by decide +kernel
theorem dX3_chain_55 : decode cX3_chain 55 = .ok (.aload_n 0, 1) := by decide +kernel
theorem dX3_chain_56 : decode cX3_chain 56 = .ok (.getfield 15, 3) := by decide +kernel
theorem dX3_chain_59 : decode cX3_chain 59 = .ok (.iload_n 2, 1) := by decide +kernel
theorem dX3_chain_60 : decode cX3_chain 60 = .ok (.dup2, 1) := by decide +kernel
theorem dX3_chain_61 : decode cX3_chain 61 = .ok (.iaload, 1) := by decide +kernel
theorem dX3_chain_62 : decode cX3_chain 62 = .ok (.aload_n 0, 1) := by decide +kernel
theorem dX3_chain_63 : decode cX3_chain 63 = .ok (.getfield 15, 3) := by decide +kernel
theorem dX3_chain_66 : decode cX3_chain 66 = .ok (.iload_n 1, 1) := by decide +kernel
theorem dX3_chain_67 : decode cX3_chain 67 = .ok (.iaload, 1) := by decide +kernel
theorem dX3_chain_68 : decode cX3_chain 68 = .ok (.ior, 1) := by decide +kernel
theorem dX3_chain_69 : decode cX3_chain 69 = .ok (.iastore, 1) := by decide +kernel
theorem dX3_chain_70 : decode cX3_chain 70 = .ok (.iinc 2 1, 3) := by decide +kernel
theorem dX3_chain_73 : decode cX3_chain 73 = .ok (.goto (-37), 3) := by decide +kernel
theorem dX3_chain_76 : decode cX3_chain 76 = .ok (.iinc 1 1, 3) := by decide +kernel
theorem dX3_chain_79 : decode cX3_chain 79 = .ok (.goto (-51), 3) := by decide +kernel
theorem dX3_chain_82 : decode cX3_chain 82 = .ok (.return_, 1) := by decide +kernel
theorem dX3_knots_0 : decode cX3_knots 0 = .ok (.iconst 0, 1) := by decide +kernel
theorem dX3_knots_1 : decode cX3_knots 1 = .ok (.istore_n 1, 1) := by decide +kernel
theorem dX3_knots_2 : decode cX3_knots 2 = .ok (.iconst 0, 1) := by decide +kernel
theorem dX3_knots_3 : decode cX3_knots 3 = .ok (.istore_n 2, 1) := by decide +kernel
theorem dX3_knots_4 : decode cX3_knots 4 = .ok (.iload_n 2, 1) := by decide +kernel
theorem dX3_knots_5 : decode cX3_knots 5 = .ok (.bipush 8, 2) := by decide +kernel
theorem dX3_knots_7 : decode cX3_knots 7 = .ok (.if_icmp .ge 22, 3) := by decide +kernel
theorem dX3_knots_10 : decode cX3_knots 10 = .ok (.iload_n 1, 1) := by decide +kernel
theorem dX3_knots_11 : decode cX3_knots 11 = .ok (.aload_n 0, 1) := by decide +kernel
theorem dX3_knots_12 : decode cX3_knots 12 = .ok (.getfield 15, 3) := by decide +kernel
theorem dX3_knots_15 : decode cX3_knots 15 = .ok (.iload_n 2, 1) := by decide +kernel
theorem dX3_knots_16 : decode cX3_knots 16 = .ok (.iaload, 1) := by decide +kernel
theorem dX3_knots_17 : decode cX3_knots 17 = .ok (.iconst 1, 1) := by decide +kernel
theorem dX3_knots_18 : decode cX3_knots 18 = .ok (.iload_n 2, 1) := by decide +kernel
theorem dX3_knots_19 : decode cX3_knots 19 = .ok (.ishl, 1) := by decide +kernel
theorem dX3_knots_20 : decode cX3_knots 20 = .ok (.iand, 1) := by decide +kernel
theorem dX3_knots_21 : decode cX3_knots 21 = .ok (.ior, 1) := by decide +kernel
theorem dX3_knots_22 : decode cX3_knots 22 = .ok (.istore_n 1, 1) := by decide +kernel
theorem dX3_knots_23 : decode cX3_knots 23 = .ok (.iinc 2 1, 3) := by decide +kernel
theorem dX3_knots_26 : decode cX3_knots 26 = .ok (.goto (-22), 3) := by decide +kernel
theorem dX3_knots_29 : decode cX3_knots 29 = .ok (.iload_n 1, 1) := by decide +kernel
theorem dX3_knots_30 : decode cX3_knots 30 = .ok (.ireturn, 1) := by decide +kernel
theorem dX3_inLine_0 : decode cX3_inLine 0 = .ok (.iload_n 1, 1) := by decide +kernel
theorem dX3_inLine_1 : decode cX3_inLine 1 = .ok (.istore_n 3, 1) := by decide +kernel
theorem dX3_inLine_2 : decode cX3_inLine 2 = .ok (.iconst 0, 1) := by decide +kernel
theorem dX3_inLine_3 : decode cX3_inLine 3 = .ok (.istore 4, 2) := by decide +kernel
theorem dX3_inLine_5 : decode cX3_inLine 5 = .ok (.iload 4, 2) := by decide +kernel
theorem dX3_inLine_7 : decode cX3_inLine 7 = .ok (.bipush 8, 2) := by decide +kernel
theorem dX3_inLine_9 : decode cX3_inLine 9 = .ok (.if_icmp .ge 46, 3) := by decide +kernel
theorem dX3_inLine_12 : decode cX3_inLine 12 = .ok (.iload_n 3, 1) := by decide +kernel
theorem dX3_inLine_13 : decode cX3_inLine 13 = .ok (.ifCond .eq 42, 3) := by decide +kernel
theorem dX3_inLine_16 : decode cX3_inLine 16 = .ok (.aload_n 0, 1) := by decide +kernel
theorem dX3_inLine_17 : decode cX3_inLine 17 = .ok (.iload_n 3, 1) := by decide +kernel
theorem dX3_inLine_18 : decode cX3_inLine 18 = .ok (.invokevirtual 50, 3) := by decide +kernel
theorem dX3_inLine_21 : decode cX3_inLine 21 = .ok (.istore 5, 2) := by decide +kernel
theorem dX3_inLine_23 : decode cX3_inLine 23 = .ok (.iload 5, 2) := by decide +kernel
theorem dX3_inLine_25 : decode cX3_inLine 25 = .ok (.ifCond .ge 6, 3) := by decide +kernel
theorem dX3_inLine_28 : decode cX3_inLine 28 = .ok (.bipush (-9), 2) := by decide +kernel
theorem dX3_inLine_30 : decode cX3_inLine 30 = .ok (.ireturn, 1) := by decide +kernel
theorem dX3_inLine_31 : decode cX3_inLine 31 = .ok (.iload 4, 2) := by decide +kernel
theorem dX3_inLine_33 : decode cX3_inLine 33 = .ok (.iload_n 2, 1) := by decide +kernel
theorem dX3_inLine_34 : decode cX3_inLine 34 = .ok (.if_icmp .ne 6, 3) := by decide +kernel
theorem dX3_inLine_37 : decode cX3_inLine 37 = .ok (.iload 5, 2) := by decide +kernel
theorem dX3_inLine_39 : decode cX3_inLine 39 = .ok (.ireturn, 1) := by decide +kernel
theorem dX3_inLine_40 : decode cX3_inLine 40 = .ok (.iload_n 3, 1) := by decide +kernel
theorem dX3_inLine_41 : decode cX3_inLine 41 = .ok (.iconst 1, 1) := by decide +kernel
theorem dX3_inLine_42 : decode cX3_inLine 42 = .ok (.iload 5, 2) := by decide +kernel
theorem dX3_inLine_44 : decode cX3_inLine 44 = .ok (.ishl, 1) := by decide +kernel
theorem dX3_inLine_45 : decode cX3_inLine 45 = .ok (.iconst (-1), 1) := by decide +kernel
theorem dX3_inLine_46 : decode cX3_inLine 46 = .ok (.ixor, 1) := by decide +kernel
theorem dX3_inLine_47 : decode cX3_inLine 47 = .ok (.iand, 1) := by decide +kernel
theorem dX3_inLine_48 : decode cX3_inLine 48 = .ok (.istore_n 3, 1) := by decide +kernel
theorem dX3_inLine_49 : decode cX3_inLine 49 = .ok (.iinc 4 1, 3) := by decide +kernel
theorem dX3_inLine_52 : decode cX3_inLine 52 = .ok (.goto (-47), 3) := by decide +kernel
theorem dX3_inLine_55 : decode cX3_inLine 55 = .ok (.bipush (-9), 2) := by decide +kernel
theorem dX3_inLine_57 : decode cX3_inLine 57 = .ok (.ireturn, 1) := by decide +kernel
theorem dX3_lowestFree_0 : decode cX3_lowestFree 0 = .ok (.iconst 0, 1) := by decide +kernel
theorem dX3_lowestFree_1 : decode cX3_lowestFree 1 = .ok (.istore_n 2, 1) := by decide +kernel
theorem dX3_lowestFree_2 : decode cX3_lowestFree 2 = .ok (.iconst 0, 1) := by decide +kernel
theorem dX3_lowestFree_3 : decode cX3_lowestFree 3 = .ok (.istore_n 3, 1) := by decide +kernel
theorem dX3_lowestFree_4 : decode cX3_lowestFree 4 = .ok (.iload_n 3, 1) := by decide +kernel
theorem dX3_lowestFree_5 : decode cX3_lowestFree 5 = .ok (.bipush 8, 2) := by decide +kernel
theorem dX3_lowestFree_7 : decode cX3_lowestFree 7 = .ok (.if_icmp .ge 26, 3) := by decide +kernel
theorem dX3_lowestFree_10 : decode cX3_lowestFree 10 = .ok (.iload_n 1, 1) := by decide +kernel
theorem dX3_lowestFree_11 : decode cX3_lowestFree 11 = .ok (.iload_n 3, 1) := by decide +kernel
theorem dX3_lowestFree_12 : decode cX3_lowestFree 12 = .ok (.ishr, 1) := by decide +kernel
theorem dX3_lowestFree_13 : decode cX3_lowestFree 13 = .ok (.iconst 1, 1) := by decide +kernel
theorem dX3_lowestFree_14 : decode cX3_lowestFree 14 = .ok (.iand, 1) := by decide +kernel
theorem dX3_lowestFree_15 : decode cX3_lowestFree 15 = .ok (.ifCond .eq 12, 3) := by decide +kernel
theorem dX3_lowestFree_18 : decode cX3_lowestFree 18 = .ok (.iload_n 2, 1) := by decide +kernel
theorem dX3_lowestFree_19 : decode cX3_lowestFree 19 = .ok (.aload_n 0, 1) := by decide +kernel
theorem dX3_lowestFree_20 : decode cX3_lowestFree 20 = .ok (.getfield 9, 3) := by decide +kernel
theorem dX3_lowestFree_23 : decode cX3_lowestFree 23 = .ok (.iload_n 3, 1) := by decide +kernel
theorem dX3_lowestFree_24 : decode cX3_lowestFree 24 = .ok (.iaload, 1) := by decide +kernel
theorem dX3_lowestFree_25 : decode cX3_lowestFree 25 = .ok (.ior, 1) := by decide +kernel
theorem dX3_lowestFree_26 : decode cX3_lowestFree 26 = .ok (.istore_n 2, 1) := by decide +kernel
theorem dX3_lowestFree_27 : decode cX3_lowestFree 27 = .ok (.iinc 3 1, 3) := by decide +kernel
theorem dX3_lowestFree_30 : decode cX3_lowestFree 30 = .ok (.goto (-26), 3) := by decide +kernel
theorem dX3_lowestFree_33 : decode cX3_lowestFree 33 = .ok (.iload_n 1, 1) := by decide +kernel
theorem dX3_lowestFree_34 : decode cX3_lowestFree 34 = .ok (.iload_n 2, 1) := by decide +kernel
theorem dX3_lowestFree_35 : decode cX3_lowestFree 35 = .ok (.iconst (-1), 1) := by decide +kernel
theorem dX3_lowestFree_36 : decode cX3_lowestFree 36 = .ok (.ixor, 1) := by decide +kernel
theorem dX3_lowestFree_37 : decode cX3_lowestFree 37 = .ok (.iand, 1) := by decide +kernel
theorem dX3_lowestFree_38 : decode cX3_lowestFree 38 = .ok (.istore_n 3, 1) := by decide +kernel
theorem dX3_lowestFree_39 : decode cX3_lowestFree 39 = .ok (.iconst 0, 1) := by decide +kernel
theorem dX3_lowestFree_40 : decode cX3_lowestFree 40 = .ok (.istore 4, 2) := by decide +kernel
theorem dX3_lowestFree_42 : decode cX3_lowestFree 42 = .ok (.iload 4, 2) := by decide +kernel
theorem dX3_lowestFree_44 : decode cX3_lowestFree 44 = .ok (.bipush 8, 2) := by decide +kernel
theorem dX3_lowestFree_46 : decode cX3_lowestFree 46 = .ok (.if_icmp .ge 21, 3) := by decide +kernel
theorem dX3_lowestFree_49 : decode cX3_lowestFree 49 = .ok (.iload_n 3, 1) := by decide +kernel
theorem dX3_lowestFree_50 : decode cX3_lowestFree 50 = .ok (.iload 4, 2) := by decide +kernel
theorem dX3_lowestFree_52 : decode cX3_lowestFree 52 = .ok (.ishr, 1) := by decide +kernel
theorem dX3_lowestFree_53 : decode cX3_lowestFree 53 = .ok (.iconst 1, 1) := by decide +kernel
theorem dX3_lowestFree_54 : decode cX3_lowestFree 54 = .ok (.iand, 1) := by decide +kernel
theorem dX3_lowestFree_55 : decode cX3_lowestFree 55 = .ok (.ifCond .eq 6, 3) := by decide +kernel
theorem dX3_lowestFree_58 : decode cX3_lowestFree 58 = .ok (.iload 4, 2) := by decide +kernel
theorem dX3_lowestFree_60 : decode cX3_lowestFree 60 = .ok (.ireturn, 1) := by decide +kernel
theorem dX3_lowestFree_61 : decode cX3_lowestFree 61 = .ok (.iinc 4 1, 3) := by decide +kernel
theorem dX3_lowestFree_64 : decode cX3_lowestFree 64 = .ok (.goto (-22), 3) := by decide +kernel
theorem dX3_lowestFree_67 : decode cX3_lowestFree 67 = .ok (.iconst (-1), 1) := by decide +kernel
theorem dX3_lowestFree_68 : decode cX3_lowestFree 68 = .ok (.ireturn, 1) := by decide +kernel
theorem dX4_init_0 : decode cX4_init 0 = .ok (.aload_n 0, 1) := by decide +kernel
theorem dX4_init_1 : decode cX4_init 1 = .ok (.invokespecial 3, 3) := by decide +kernel
theorem dX4_init_4 : decode cX4_init 4 = .ok (.aload_n 0, 1) := by decide +kernel
theorem dX4_init_5 : decode cX4_init 5 = .ok (.bipush 6, 2) := by decide +kernel
theorem dX4_init_7 : decode cX4_init 7 = .ok (.newarray .int, 2) := by decide +kernel
theorem dX4_init_9 : decode cX4_init 9 = .ok (.putfield 9, 3) := by decide +kernel
theorem dX4_init_12 : decode cX4_init 12 = .ok (.aload_n 0, 1) := by decide +kernel
theorem dX4_init_13 : decode cX4_init 13 = .ok (.bipush 6, 2) := by decide +kernel
theorem dX4_init_15 : decode cX4_init 15 = .ok (.newarray .int, 2) := by decide +kernel
theorem dX4_init_17 : decode cX4_init 17 = .ok (.putfield 15, 3) := by decide +kernel
theorem dX4_init_20 : decode cX4_init 20 = .ok (.aload_n 0, 1) := by decide +kernel
theorem dX4_init_21 : decode cX4_init 21 = .ok (.iconst 0, 1) := by decide +kernel
theorem dX4_init_22 : decode cX4_init 22 = .ok (.putfield 18, 3) := by decide +kernel
theorem dX4_init_25 : decode cX4_init 25 = .ok (.return_, 1) := by decide +kernel
end
section
theorem dX4_join_0 : decode cX4_join 0 = .ok (.aload_n 0, 1) := by decide +kernel
theorem dX4_join_1 : decode cX4_join 1 = .ok (.iconst 0, 1) := by decide +kernel
theorem dX4_join_2 : decode cX4_join 2 = .ok (.putfield 18, 3) := by decide +kernel
theorem dX4_join_5 : decode cX4_join 5 = .ok (.iconst 0, 1) := by decide +kernel
theorem dX4_join_6 : decode cX4_join 6 = .ok (.istore_n 3, 1) := by decide +kernel
theorem dX4_join_7 : decode cX4_join 7 = .ok (.iload_n 3, 1) := by decide +kernel
theorem dX4_join_8 : decode cX4_join 8 = .ok (.aload_n 1, 1) := by decide +kernel
theorem dX4_join_9 : decode cX4_join 9 = .ok (.getfield 22, 3) := by decide +kernel
theorem dX4_join_12 : decode cX4_join 12 = .ok (.if_icmp .ge 86, 3) := by decide +kernel
theorem dX4_join_15 : decode cX4_join 15 = .ok (.aload_n 1, 1) := by decide +kernel
theorem dX4_join_16 : decode cX4_join 16 = .ok (.iload_n 3, 1) := by decide +kernel
theorem dX4_join_17 : decode cX4_join 17 = .ok (.invokevirtual 25, 3) := by decide +kernel
theorem dX4_join_20 : decode cX4_join 20 = .ok (.ifCond .eq 7, 3) := by decide +kernel
theorem dX4_join_23 : decode cX4_join 23 = .ok (.iconst (-1), 1) := by decide +kernel
theorem dX4_join_24 : decode cX4_join 24 = .ok (.goto 13, 3) := by decide +kernel
theorem dX4_join_27 : decode cX4_join 27 = .ok (.aload_n 2, 1) := by decide +kernel
theorem dX4_join_28 : decode cX4_join 28 = .ok (.aload_n 1, 1) := by decide +kernel
theorem dX4_join_29 : decode cX4_join 29 = .ok (.getfield 29, 3) := by decide +kernel
theorem dX4_join_32 : decode cX4_join 32 = .ok (.iload_n 3, 1) := by decide +kernel
theorem dX4_join_33 : decode cX4_join 33 = .ok (.iaload, 1) := by decide +kernel
theorem dX4_join_34 : decode cX4_join 34 = .ok (.invokevirtual 30, 3) := by decide +kernel
theorem dX4_join_37 : decode cX4_join 37 = .ok (.istore 4, 2) := by decide +kernel
theorem dX4_join_39 : decode cX4_join 39 = .ok (.iload 4, 2) := by decide +kernel
theorem dX4_join_41 : decode cX4_join 41 = .ok (.ifCond .lt 51, 3) := by decide +kernel
theorem dX4_join_44 : decode cX4_join 44 = .ok (.aload_n 0, 1) := by decide +kernel
theorem dX4_join_45 : decode cX4_join 45 = .ok (.getfield 9, 3) := by decide +kernel
theorem dX4_join_48 : decode cX4_join 48 = .ok (.aload_n 0, 1) := by decide +kernel
theorem dX4_join_49 : decode cX4_join 49 = .ok (.getfield 18, 3) := by decide +kernel
theorem dX4_join_52 : decode cX4_join 52 = .ok (.aload_n 1, 1) := by decide +kernel
theorem dX4_join_53 : decode cX4_join 53 = .ok (.getfield 29, 3) := by decide +kernel
theorem dX4_join_56 : decode cX4_join 56 = .ok (.iload_n 3, 1) := by decide +kernel
theorem dX4_join_57 : decode cX4_join 57 = .ok (.iaload, 1) := by decide +kernel
theorem dX4_join_58 : decode cX4_join 58 = .ok (.iastore, 1) := by decide +kernel
theorem dX4_join_59 : decode cX4_join 59 = .ok (.aload_n 0, 1) := by decide +kernel
theorem dX4_join_60 : decode cX4_join 60 = .ok (.getfield 15, 3) := by decide +kernel
theorem dX4_join_63 : decode cX4_join 63 = .ok (.aload_n 0, 1) := by decide +kernel
theorem dX4_join_64 : decode cX4_join 64 = .ok (.getfield 18, 3) := by decide +kernel
theorem dX4_join_67 : decode cX4_join 67 = .ok (.aload_n 2, 1) := by decide +kernel
theorem dX4_join_68 : decode cX4_join 68 = .ok (.getfield 34, 3) := by decide +kernel
theorem dX4_join_71 : decode cX4_join 71 = .ok (.iload 4, 2) := by decide +kernel
theorem dX4_join_73 : decode cX4_join 73 = .ok (.iaload, 1) := by decide +kernel
theorem dX4_join_74 : decode cX4_join 74 = .ok (.aload_n 1, 1) := by decide +kernel
theorem dX4_join_75 : decode cX4_join 75 = .ok (.getfield 34, 3) := by decide +kernel
theorem dX4_join_78 : decode cX4_join 78 = .ok (.iload_n 3, 1) := by decide +kernel
theorem dX4_join_79 : decode cX4_join 79 = .ok (.iaload, 1) := by decide +kernel
theorem dX4_join_80 : decode cX4_join 80 = .ok (.isub, 1) := by decide +kernel
theorem dX4_join_81 : decode cX4_join 81 = .ok (.iastore, 1) := by decide +kernel
theorem dX4_join_82 : decode cX4_join 82 = .ok (.aload_n 0, 1) := by decide +kernel
theorem dX4_join_83 : decode cX4_join 83 = .ok (.dup, 1) := by decide +kernel
theorem dX4_join_84 : decode cX4_join 84 = .ok (.getfield 18, 3) := by decide +kernel
theorem dX4_join_87 : decode cX4_join 87 = .ok (.iconst 1, 1) := by decide +kernel
theorem dX4_join_88 : decode cX4_join 88 = .ok (.iadd, 1) := by decide +kernel
theorem dX4_join_89 : decode cX4_join 89 = .ok (.putfield 18, 3) := by decide +kernel
theorem dX4_join_92 : decode cX4_join 92 = .ok (.iinc 3 1, 3) := by decide +kernel
theorem dX4_join_95 : decode cX4_join 95 = .ok (.goto (-88), 3) := by decide +kernel
theorem dX4_join_98 : decode cX4_join 98 = .ok (.return_, 1) := by decide +kernel
theorem dX4_spanEnd_0 : decode cX4_spanEnd 0 = .ok (.aload_n 0, 1) := by decide +kernel
theorem dX4_spanEnd_1 : decode cX4_spanEnd 1 = .ok (.getfield 15, 3) := by decide +kernel
theorem dX4_spanEnd_4 : decode cX4_spanEnd 4 = .ok (.iload_n 1, 1) := by decide +kernel
theorem dX4_spanEnd_5 : decode cX4_spanEnd 5 = .ok (.iaload, 1) := by decide +kernel
theorem dX4_spanEnd_6 : decode cX4_spanEnd 6 = .ok (.istore_n 3, 1) := by decide +kernel
theorem dX4_spanEnd_7 : decode cX4_spanEnd 7 = .ok (.aload_n 0, 1) := by decide +kernel
theorem dX4_spanEnd_8 : decode cX4_spanEnd 8 = .ok (.getfield 15, 3) := by decide +kernel
theorem dX4_spanEnd_11 : decode cX4_spanEnd 11 = .ok (.iload_n 1, 1) := by decide +kernel
theorem dX4_spanEnd_12 : decode cX4_spanEnd 12 = .ok (.iaload, 1) := by decide +kernel
theorem dX4_spanEnd_13 : decode cX4_spanEnd 13 = .ok (.istore 4, 2) := by decide +kernel
theorem dX4_spanEnd_15 : decode cX4_spanEnd 15 = .ok (.iload_n 1, 1) := by decide +kernel
theorem dX4_spanEnd_16 : decode cX4_spanEnd 16 = .ok (.iconst 1, 1) := by decide +kernel
theorem dX4_spanEnd_17 : decode cX4_spanEnd 17 = .ok (.iadd, 1) := by decide +kernel
theorem dX4_spanEnd_18 : decode cX4_spanEnd 18 = .ok (.istore 5, 2) := by decide +kernel
theorem dX4_spanEnd_20 : decode cX4_spanEnd 20 = .ok (.iload 5, 2) := by decide +kernel
theorem dX4_spanEnd_22 : decode cX4_spanEnd 22 = .ok (.aload_n 0, 1) := by decide +kernel
theorem dX4_spanEnd_23 : decode cX4_spanEnd 23 = .ok (.getfield 18, 3) := by decide +kernel
theorem dX4_spanEnd_26 : decode cX4_spanEnd 26 = .ok (.if_icmp .ge 46, 3) := by decide +kernel
theorem dX4_spanEnd_29 : decode cX4_spanEnd 29 = .ok (.iload_n 3, 1) := by decide +kernel
theorem dX4_spanEnd_30 : decode cX4_spanEnd 30 = .ok (.aload_n 0, 1) := by decide +kernel
theorem dX4_spanEnd_31 : decode cX4_spanEnd 31 = .ok (.getfield 15, 3) := by decide +kernel
theorem dX4_spanEnd_34 : decode cX4_spanEnd 34 = .ok (.iload 5, 2) := by decide +kernel
theorem dX4_spanEnd_36 : decode cX4_spanEnd 36 = .ok (.iaload, 1) := by decide +kernel
theorem dX4_spanEnd_37 : decode cX4_spanEnd 37 = .ok (.invokestatic 37, 3) := by decide +kernel
theorem dX4_spanEnd_40 : decode cX4_spanEnd 40 = .ok (.istore_n 3, 1) := by decide +kernel
theorem dX4_spanEnd_41 : decode cX4_spanEnd 41 = .ok (.iload 4, 2) := by decide +kernel
theorem dX4_spanEnd_43 : decode cX4_spanEnd 43 = .ok (.aload_n 0, 1) := by decide +kernel
theorem dX4_spanEnd_44 : decode cX4_spanEnd 44 = .ok (.getfield 15, 3) := by decide +kernel
theorem dX4_spanEnd_47 : decode cX4_spanEnd 47 = .ok (.iload 5, 2) := by decide +kernel
theorem dX4_spanEnd_49 : decode cX4_spanEnd 49 = .ok (.iaload, 1) := by decide +kernel
theorem dX4_spanEnd_50 : decode cX4_spanEnd 50 = .ok (.invokestatic 43, 3) := by decide +kernel
theorem dX4_spanEnd_53 : decode cX4_spanEnd 53 = .ok (.istore 4, 2) := by decide +kernel
theorem dX4_spanEnd_55 : decode cX4_spanEnd 55 = .ok (.iload 4, 2) := by decide +kernel
theorem dX4_spanEnd_57 : decode cX4_spanEnd 57 = .ok (.iload_n 3, 1) := by decide +kernel
theorem dX4_spanEnd_58 : decode cX4_spanEnd 58 = .ok (.isub, 1) := by decide +kernel
theorem dX4_spanEnd_59 : decode cX4_spanEnd 59 = .ok (.iload_n 2, 1) := by decide +kernel
theorem dX4_spanEnd_60 : decode cX4_spanEnd 60 = .ok (.if_icmp .le 6, 3) := by decide +kernel
theorem dX4_spanEnd_63 : decode cX4_spanEnd 63 = .ok (.iload 5, 2) := by decide +kernel
theorem dX4_spanEnd_65 : decode cX4_spanEnd 65 = .ok (.ireturn, 1) := by decide +kernel
theorem dX4_spanEnd_66 : decode cX4_spanEnd 66 = .ok (.iinc 5 1, 3) := by decide +kernel
theorem dX4_spanEnd_69 : decode cX4_spanEnd 69 = .ok (.goto (-49), 3) := by decide +kernel
theorem dX4_spanEnd_72 : decode cX4_spanEnd 72 = .ok (.aload_n 0, 1) := by decide +kernel
theorem dX4_spanEnd_73 : decode cX4_spanEnd 73 = .ok (.getfield 18, 3) := by decide +kernel
theorem dX4_spanEnd_76 : decode cX4_spanEnd 76 = .ok (.ireturn, 1) := by decide +kernel
theorem dX4_spans_0 : decode cX4_spans 0 = .ok (.iconst 0, 1) := by decide +kernel
theorem dX4_spans_1 : decode cX4_spans 1 = .ok (.istore_n 2, 1) := by decide +kernel
theorem dX4_spans_2 : decode cX4_spans 2 = .ok (.iconst 0, 1) := by decide +kernel
theorem dX4_spans_3 : decode cX4_spans 3 = .ok (.istore_n 3, 1) := by decide +kernel
theorem dX4_spans_4 : decode cX4_spans 4 = .ok (.iload_n 3, 1) := by decide +kernel
theorem dX4_spans_5 : decode cX4_spans 5 = .ok (.aload_n 0, 1) := by decide +kernel
theorem dX4_spans_6 : decode cX4_spans 6 = .ok (.getfield 18, 3) := by decide +kernel
theorem dX4_spans_9 : decode cX4_spans 9 = .ok (.if_icmp .ge 22, 3) := by decide +kernel
theorem dX4_spans_12 : decode cX4_spans 12 = .ok (.iload_n 2, 1) := by decide +kernel
theorem dX4_spans_13 : decode cX4_spans 13 = .ok (.bipush 6, 2) := by decide +kernel
theorem dX4_spans_15 : decode cX4_spans 15 = .ok (.if_icmp .ge 16, 3) := by decide +kernel
theorem dX4_spans_18 : decode cX4_spans 18 = .ok (.aload_n 0, 1) := by decide +kernel
theorem dX4_spans_19 : decode cX4_spans 19 = .ok (.iload_n 3, 1) := by decide +kernel
theorem dX4_spans_20 : decode cX4_spans 20 = .ok (.iload_n 1, 1) := by decide +kernel
theorem dX4_spans_21 : decode cX4_spans 21 = .ok (.invokevirtual 46, 3) := by decide +kernel
theorem dX4_spans_24 : decode cX4_spans 24 = .ok (.istore_n 3, 1) := by decide +kernel
theorem dX4_spans_25 : decode cX4_spans 25 = .ok (.iinc 2 1, 3) := by decide +kernel
theorem dX4_spans_28 : decode cX4_spans 28 = .ok (.goto (-24), 3) := by decide +kernel
theorem dX4_spans_31 : decode cX4_spans 31 = .ok (.iload_n 2, 1) := by decide +kernel
theorem dX4_spans_32 : decode cX4_spans 32 = .ok (.ireturn, 1) := by decide +kernel
theorem dX4_spanStart_0 : decode cX4_spanStart 0 = .ok (.iconst 0, 1) := by decide +kernel
theorem dX4_spanStart_1 : decode cX4_spanStart 1 = .ok (.istore_n 3, 1) := by decide +kernel
theorem dX4_spanStart_2 : decode cX4_spanStart 2 = .ok (.iconst 0, 1) := by decide +kernel
theorem dX4_spanStart_3 : decode cX4_spanStart 3 = .ok (.istore 4, 2) := by decide +kernel
theorem dX4_spanStart_5 : decode cX4_spanStart 5 = .ok (.iload 4, 2) := by decide +kernel
theorem dX4_spanStart_7 : decode cX4_spanStart 7 = .ok (.iload_n 1, 1) := by decide +kernel
theorem dX4_spanStart_8 : decode cX4_spanStart 8 = .ok (.if_icmp .ge 24, 3) := by decide +kernel
theorem dX4_spanStart_11 : decode cX4_spanStart 11 = .ok (.iload_n 3, 1) := by decide +kernel
theorem dX4_spanStart_12 : decode cX4_spanStart 12 = .ok (.aload_n 0, 1) := by decide +kernel
theorem dX4_spanStart_13 : decode cX4_spanStart 13 = .ok (.getfield 18, 3) := by decide +kernel
theorem dX4_spanStart_16 : decode cX4_spanStart 16 = .ok (.if_icmp .ge 16, 3) := by decide +kernel
theorem dX4_spanStart_19 : decode cX4_spanStart 19 = .ok (.aload_n 0, 1) := by decide +kernel
theorem dX4_spanStart_20 : decode cX4_spanStart 20 = .ok (.iload_n 3, 1) := by decide +kernel
theorem dX4_spanStart_21 : decode cX4_spanStart 21 = .ok (.iload_n 2, 1) := by decide +kernel
theorem dX4_spanStart_22 : decode cX4_spanStart 22 = .ok (.invokevirtual 46, 3) := by decide +kernel
theorem dX4_spanStart_25 : decode cX4_spanStart 25 = .ok (.istore_n 3, 1) := by decide +kernel
theorem dX4_spanStart_26 : decode cX4_spanStart 26 = .ok (.iinc 4 1, 3) := by decide +kernel
theorem dX4_spanStart_29 : decode cX4_spanStart 29 = .ok (.goto (-24), 3) := by decide +kernel
theorem dX4_spanStart_32 : decode cX4_spanStart 32 = .ok (.iload_n 3, 1) := by decide +kernel
theorem dX4_spanStart_33 : decode cX4_spanStart 33 = .ok (.ireturn, 1) := by decide +kernel
theorem dX4_leastOffset_0 : decode cX4_leastOffset 0 = .ok (.aload_n 0, 1) := by decide +kernel
theorem dX4_leastOffset_1 : decode cX4_leastOffset 1 = .ok (.getfield 15, 3) := by decide +kernel
theorem dX4_leastOffset_4 : decode cX4_leastOffset 4 = .ok (.iload_n 1, 1) := by decide +kernel
theorem dX4_leastOffset_5 : decode cX4_leastOffset 5 = .ok (.iaload, 1) := by decide +kernel
theorem dX4_leastOffset_6 : decode cX4_leastOffset 6 = .ok (.istore_n 3, 1) := by decide +kernel
theorem dX4_leastOffset_7 : decode cX4_leastOffset 7 = .ok (.iload_n 1, 1) := by decide +kernel
theorem dX4_leastOffset_8 : decode cX4_leastOffset 8 = .ok (.iconst 1, 1) := by decide +kernel
theorem dX4_leastOffset_9 : decode cX4_leastOffset 9 = .ok (.iadd, 1) := by decide +kernel
theorem dX4_leastOffset_10 : decode cX4_leastOffset 10 = .ok (.istore 4, 2) := by decide +kernel
theorem dX4_leastOffset_12 : decode cX4_leastOffset 12 = .ok (.iload 4, 2) := by decide +kernel
theorem dX4_leastOffset_14 : decode cX4_leastOffset 14 = .ok (.iload_n 2, 1) := by decide +kernel
theorem dX4_leastOffset_15 : decode cX4_leastOffset 15 = .ok (.if_icmp .ge 21, 3) := by decide +kernel
theorem dX4_leastOffset_18 : decode cX4_leastOffset 18 = .ok (.iload_n 3, 1) := by decide +kernel
theorem dX4_leastOffset_19 : decode cX4_leastOffset 19 = .ok (.aload_n 0, 1) := by decide +kernel
theorem dX4_leastOffset_20 : decode cX4_leastOffset 20 = .ok (.getfield 15, 3) := by decide +kernel
theorem dX4_leastOffset_23 : decode cX4_leastOffset 23 = .ok (.iload 4, 2) := by decide +kernel
theorem dX4_leastOffset_25 : decode cX4_leastOffset 25 = .ok (.iaload, 1) := by decide +kernel
theorem dX4_leastOffset_26 : decode cX4_leastOffset 26 = .ok (.invokestatic 37, 3) := by decide +kernel
theorem dX4_leastOffset_29 : decode cX4_leastOffset 29 = .ok (.istore_n 3, 1) := by decide +kernel
theorem dX4_leastOffset_30 : decode cX4_leastOffset 30 = .ok (.iinc 4 1, 3) := by decide +kernel
theorem dX4_leastOffset_33 : decode cX4_leastOffset 33 = .ok (.goto (-21), 3) := by decide +kernel
theorem dX4_leastOffset_36 : decode cX4_leastOffset 36 = .ok (.iload_n 3, 1) := by decide +kernel
theorem dX4_leastOffset_37 : decode cX4_leastOffset 37 = .ok (.ireturn, 1) := by decide +kernel
theorem dX4_commonestOffset_0 : decode cX4_commonestOffset 0 = .ok (.iconst 0, 1) := by decide +kernel
theorem dX4_commonestOffset_1 : decode cX4_commonestOffset 1 = .ok (.istore_n 1, 1) := by decide +kernel
theorem dX4_commonestOffset_2 : decode cX4_commonestOffset 2 = .ok (.iconst 0, 1) := by decide +kernel
theorem dX4_commonestOffset_3 : decode cX4_commonestOffset 3 = .ok (.istore_n 2, 1) := by decide +kernel
theorem dX4_commonestOffset_4 : decode cX4_commonestOffset 4 = .ok (.iconst 0, 1) := by decide +kernel
theorem dX4_commonestOffset_5 : decode cX4_commonestOffset 5 = .ok (.istore_n 3, 1) := by decide +kernel
theorem dX4_commonestOffset_6 : decode cX4_commonestOffset 6 = .ok (.iload_n 3, 1) := by decide +kernel
theorem dX4_commonestOffset_7 : decode cX4_commonestOffset 7 = .ok (.aload_n 0, 1) := by decide +kernel
theorem dX4_commonestOffset_8 : decode cX4_commonestOffset 8 = .ok (.getfield 18, 3) := by decide +kernel
theorem dX4_commonestOffset_11 : decode cX4_commonestOffset 11 = .ok (.if_icmp .ge 59, 3) := by decide +kernel
theorem dX4_commonestOffset_14 : decode cX4_commonestOffset 14 = .ok (.aload_n 0, 1) := by decide +kernel
theorem dX4_commonestOffset_15 : decode cX4_commonestOffset 15 = .ok (.aload_n 0, 1) := by decide +kernel
theorem dX4_commonestOffset_16 : decode cX4_commonestOffset 16 = .ok (.getfield 15, 3) := by decide +kernel
theorem dX4_commonestOffset_19 : decode cX4_commonestOffset 19 = .ok (.iload_n 3, 1) := by decide +kernel
theorem dX4_commonestOffset_20 : decode cX4_commonestOffset 20 = .ok (.iaload, 1) := by decide +kernel
theorem dX4_commonestOffset_21 : decode cX4_commonestOffset 21 = .ok (.invokevirtual 49, 3) := by decide +kernel
theorem dX4_commonestOffset_24 : decode cX4_commonestOffset 24 = .ok (.invokestatic 52, 3) := by decide +kernel
theorem dX4_commonestOffset_27 : decode cX4_commonestOffset 27 = .ok (.istore 4, 2) := by decide +kernel
theorem dX4_commonestOffset_29 : decode cX4_commonestOffset 29 = .ok (.iload 4, 2) := by decide +kernel
theorem dX4_commonestOffset_31 : decode cX4_commonestOffset 31 = .ok (.iload_n 2, 1) := by decide +kernel
theorem dX4_commonestOffset_32 : decode cX4_commonestOffset 32 = .ok (.if_icmp .gt 22, 3) := by decide +kernel
theorem dX4_commonestOffset_35 : decode cX4_commonestOffset 35 = .ok (.iload 4, 2) := by decide +kernel
theorem dX4_commonestOffset_37 : decode cX4_commonestOffset 37 = .ok (.iload_n 2, 1) := by decide +kernel
theorem dX4_commonestOffset_38 : decode cX4_commonestOffset 38 = .ok (.if_icmp .ne 26, 3) := by decide +kernel
theorem dX4_commonestOffset_41 : decode cX4_commonestOffset 41 = .ok (.aload_n 0, 1) := by decide +kernel
theorem dX4_commonestOffset_42 : decode cX4_commonestOffset 42 = .ok (.getfield 15, 3) := by decide +kernel
theorem dX4_commonestOffset_45 : decode cX4_commonestOffset 45 = .ok (.iload_n 3, 1) := by decide +kernel
theorem dX4_commonestOffset_46 : decode cX4_commonestOffset 46 = .ok (.iaload, 1) := by decide +kernel
theorem dX4_commonestOffset_47 : decode cX4_commonestOffset 47 = .ok (.iload_n 1, 1) := by decide +kernel
theorem dX4_commonestOffset_48 : decode cX4_commonestOffset 48 = .ok (.invokestatic 57, 3) := by decide +kernel
theorem dX4_commonestOffset_51 : decode cX4_commonestOffset 51 = .ok (.ifCond .eq 13, 3) := by decide +kernel
theorem dX4_commonestOffset_54 : decode cX4_commonestOffset 54 = .ok (.aload_n 0, 1) := by decide +kernel
theorem dX4_commonestOffset_55 : decode cX4_commonestOffset 55 = .ok (.getfield 15, 3) := by decide +kernel
theorem dX4_commonestOffset_58 : decode cX4_commonestOffset 58 = .ok (.iload_n 3, 1) := by decide +kernel
theorem dX4_commonestOffset_59 : decode cX4_commonestOffset 59 = .ok (.iaload, 1) := by decide +kernel
theorem dX4_commonestOffset_60 : decode cX4_commonestOffset 60 = .ok (.istore_n 1, 1) := by decide +kernel
theorem dX4_commonestOffset_61 : decode cX4_commonestOffset 61 = .ok (.iload 4, 2) := by decide +kernel
theorem dX4_commonestOffset_63 : decode cX4_commonestOffset 63 = .ok (.istore_n 2, 1) := by decide +kernel
theorem dX4_commonestOffset_64 : decode cX4_commonestOffset 64 = .ok (.iinc 3 1, 3) := by decide +kernel
theorem dX4_commonestOffset_67 : decode cX4_commonestOffset 67 = .ok (.goto (-61), 3) := by decide +kernel
theorem dX4_commonestOffset_70 : decode cX4_commonestOffset 70 = .ok (.iload_n 1, 1) := by decide +kernel
theorem dX4_commonestOffset_71 : decode cX4_commonestOffset 71 = .ok (.ireturn, 1) := by decide +kernel
theorem dX4_isNearer_0 : decode cX4_isNearer 0 = .ok (.iload_n 0, 1) := by decide +kernel
theorem dX4_isNearer_1 : decode cX4_isNearer 1 = .ok (.invokestatic 61, 3) := by decide +kernel
theorem dX4_isNearer_4 : decode cX4_isNearer 4 = .ok (.iload_n 1, 1) := by decide +kernel
theorem dX4_isNearer_5 : decode cX4_isNearer 5 = .ok (.invokestatic 61, 3) := by decide +kernel
theorem dX4_isNearer_8 : decode cX4_isNearer 8 = .ok (.isub, 1) := by decide +kernel
theorem dX4_isNearer_9 : decode cX4_isNearer 9 = .ok (.istore_n 2, 1) := by decide +kernel
theorem dX4_isNearer_10 : decode cX4_isNearer 10 = .ok (.iload_n 2, 1) := by decide +kernel
theorem dX4_isNearer_11 : decode cX4_isNearer 11 = .ok (.ifCond .lt 12, 3) := by decide +kernel
theorem dX4_isNearer_14 : decode cX4_isNearer 14 = .ok (.iload_n 2, 1) := by decide +kernel
theorem dX4_isNearer_15 : decode cX4_isNearer 15 = .ok (.ifCond .ne 12, 3) := by decide +kernel
theorem dX4_isNearer_18 : decode cX4_isNearer 18 = .ok (.iload_n 0, 1) := by decide +kernel
theorem dX4_isNearer_19 : decode cX4_isNearer 19 = .ok (.iload_n 1, 1) := by decide +kernel
theorem dX4_isNearer_20 : decode cX4_isNearer 20 = .ok (.if_icmp .ge 7, 3) := by decide +kernel
theorem dX4_isNearer_23 : decode cX4_isNearer 23 = .ok (.iconst 1, 1) := by decide +kernel
theorem dX4_isNearer_24 : decode cX4_isNearer 24 = .ok (.goto 4, 3) := by decide +kernel
theorem dX4_isNearer_27 : decode cX4_isNearer 27 = .ok (.iconst 0, 1) := by decide +kernel
theorem dX4_isNearer_28 : decode cX4_isNearer 28 = .ok (.ireturn, 1) := by decide +kernel
theorem dX4_eventsWith_0 : decode cX4_eventsWith 0 = .ok (.iconst 0, 1) := by decide +kernel
theorem dX4_eventsWith_1 : decode cX4_eventsWith 1 = .ok (.istore_n 2, 1) := by decide +kernel
theorem dX4_eventsWith_2 : decode cX4_eventsWith 2 = .ok (.iconst 0, 1) := by decide +kernel
theorem dX4_eventsWith_3 : decode cX4_eventsWith 3 = .ok (.istore_n 3, 1) := by decide +kernel
theorem dX4_eventsWith_4 : decode cX4_eventsWith 4 = .ok (.iload_n 3, 1) := by decide +kernel
theorem dX4_eventsWith_5 : decode cX4_eventsWith 5 = .ok (.aload_n 0, 1) := by decide +kernel
theorem dX4_eventsWith_6 : decode cX4_eventsWith 6 = .ok (.getfield 18, 3) := by decide +kernel
theorem dX4_eventsWith_9 : decode cX4_eventsWith 9 = .ok (.if_icmp .ge 30, 3) := by decide +kernel
theorem dX4_eventsWith_12 : decode cX4_eventsWith 12 = .ok (.aload_n 0, 1) := by decide +kernel
theorem dX4_eventsWith_13 : decode cX4_eventsWith 13 = .ok (.getfield 15, 3) := by decide +kernel
theorem dX4_eventsWith_16 : decode cX4_eventsWith 16 = .ok (.iload_n 3, 1) := by decide +kernel
theorem dX4_eventsWith_17 : decode cX4_eventsWith 17 = .ok (.iaload, 1) := by decide +kernel
theorem dX4_eventsWith_18 : decode cX4_eventsWith 18 = .ok (.iload_n 1, 1) := by decide +kernel
theorem dX4_eventsWith_19 : decode cX4_eventsWith 19 = .ok (.if_icmp .ne 14, 3) := by decide +kernel
theorem dX4_eventsWith_22 : decode cX4_eventsWith 22 = .ok (.iload_n 2, 1) := by decide +kernel
theorem dX4_eventsWith_23 : decode cX4_eventsWith 23 = .ok (.iconst 1, 1) := by decide +kernel
theorem dX4_eventsWith_24 : decode cX4_eventsWith 24 = .ok (.aload_n 0, 1) := by decide +kernel
theorem dX4_eventsWith_25 : decode cX4_eventsWith 25 = .ok (.getfield 9, 3) := by decide +kernel
theorem dX4_eventsWith_28 : decode cX4_eventsWith 28 = .ok (.iload_n 3, 1) := by decide +kernel
theorem dX4_eventsWith_29 : decode cX4_eventsWith 29 = .ok (.iaload, 1) := by decide +kernel
theorem dX4_eventsWith_30 : decode cX4_eventsWith 30 = .ok (.ishl, 1) := by decide +kernel
theorem dX4_eventsWith_31 : decode cX4_eventsWith 31 = .ok (.ior, 1) := by decide +kernel
theorem dX4_eventsWith_32 : decode cX4_eventsWith 32 = .ok (.istore_n 2, 1) := by decide +kernel
theorem dX4_eventsWith_33 : decode cX4_eventsWith 33 = .ok (.iinc 3 1, 3) := by decide +kernel
theorem dX4_eventsWith_36 : decode cX4_eventsWith 36 = .ok (.goto (-32), 3) := by decide +kernel
theorem dX4_eventsWith_39 : decode cX4_eventsWith 39 = .ok (.iload_n 2, 1) := by decide +kernel
theorem dX4_eventsWith_40 : decode cX4_eventsWith 40 = .ok (.ireturn, 1) := by decide +kernel
theorem dX4_eventBits_0 : decode cX4_eventBits 0 = .ok (.iconst 0, 1) := by decide +kernel
theorem dX4_eventBits_1 : decode cX4_eventBits 1 = .ok (.istore_n 1, 1) := by decide +kernel
theorem dX4_eventBits_2 : decode cX4_eventBits 2 = .ok (.iconst 0, 1) := by decide +kernel
theorem dX4_eventBits_3 : decode cX4_eventBits 3 = .ok (.istore_n 2, 1) := by decide +kernel
theorem dX4_eventBits_4 : decode cX4_eventBits 4 = .ok (.iload_n 2, 1) := by decide +kernel
theorem dX4_eventBits_5 : decode cX4_eventBits 5 = .ok (.aload_n 0, 1) := by decide +kernel
theorem dX4_eventBits_6 : decode cX4_eventBits 6 = .ok (.getfield 18, 3) := by decide +kernel
theorem dX4_eventBits_9 : decode cX4_eventBits 9 = .ok (.if_icmp .ge 20, 3) := by decide +kernel
theorem dX4_eventBits_12 : decode cX4_eventBits 12 = .ok (.iload_n 1, 1) := by decide +kernel
theorem dX4_eventBits_13 : decode cX4_eventBits 13 = .ok (.iconst 1, 1) := by decide +kernel
theorem dX4_eventBits_14 : decode cX4_eventBits 14 = .ok (.aload_n 0, 1) := by decide +kernel
theorem dX4_eventBits_15 : decode cX4_eventBits 15 = .ok (.getfield 9, 3) := by decide +kernel
theorem dX4_eventBits_18 : decode cX4_eventBits 18 = .ok (.iload_n 2, 1) := by decide +kernel
theorem dX4_eventBits_19 : decode cX4_eventBits 19 = .ok (.iaload, 1) := by decide +kernel
theorem dX4_eventBits_20 : decode cX4_eventBits 20 = .ok (.ishl, 1) := by decide +kernel
theorem dX4_eventBits_21 : decode cX4_eventBits 21 = .ok (.ior, 1) := by decide +kernel
theorem dX4_eventBits_22 : decode cX4_eventBits 22 = .ok (.istore_n 1, 1) := by decide +kernel
theorem dX4_eventBits_23 : decode cX4_eventBits 23 = .ok (.iinc 2 1, 3) := by decide +kernel
theorem dX4_eventBits_26 : decode cX4_eventBits 26 = .ok (.goto (-22), 3) := by decide +kernel
theorem dX4_eventBits_29 : decode cX4_eventBits 29 = .ok (.iload_n 1, 1) := by decide +kernel
theorem dX4_eventBits_30 : decode cX4_eventBits 30 = .ok (.ireturn, 1) := by decide +kernel
theorem dX5_init_0 : decode cX5_init 0 = .ok (.aload_n 0, 1) := by decide +kernel
theorem dX5_init_1 : decode cX5_init 1 = .ok (.invokespecial 3, 3) := by decide +kernel
theorem dX5_init_4 : decode cX5_init 4 = .ok (.aload_n 0, 1) := by decide +kernel
theorem dX5_init_5 : decode cX5_init 5 = .ok (.bipush 110, 2) := by decide +kernel
theorem dX5_init_7 : decode cX5_init 7 = .ok (.newarray .int, 2) := by decide +kernel
theorem dX5_init_9 : decode cX5_init 9 = .ok (.putfield 9, 3) := by decide +kernel
theorem dX5_init_12 : decode cX5_init 12 = .ok (.aload_n 0, 1) := by decide +kernel
theorem dX5_init_13 : decode cX5_init 13 = .ok (.iconst 0, 1) := by decide +kernel
theorem dX5_init_14 : decode cX5_init 14 = .ok (.putfield 15, 3) := by decide +kernel
theorem dX5_init_17 : decode cX5_init 17 = .ok (.return_, 1) := by decide +kernel
theorem dX5_put_0 : decode cX5_put 0 = .ok (.aload_n 0, 1) := by decide +kernel
theorem dX5_put_1 : decode cX5_put 1 = .ok (.getfield 15, 3) := by decide +kernel
theorem dX5_put_4 : decode cX5_put 4 = .ok (.bipush 110, 2) := by decide +kernel
theorem dX5_put_6 : decode cX5_put 6 = .ok (.if_icmp .lt 5, 3) := by decide +kernel
theorem dX5_put_9 : decode cX5_put 9 = .ok (.iconst 0, 1) := by decide +kernel
theorem dX5_put_10 : decode cX5_put 10 = .ok (.ireturn, 1) := by decide +kernel
theorem dX5_put_11 : decode cX5_put 11 = .ok (.aload_n 0, 1) := by decide +kernel
theorem dX5_put_12 : decode cX5_put 12 = .ok (.getfield 9, 3) := by decide +kernel
theorem dX5_put_15 : decode cX5_put 15 = .ok (.aload_n 0, 1) := by decide +kernel
theorem dX5_put_16 : decode cX5_put 16 = .ok (.getfield 15, 3) := by decide +kernel
theorem dX5_put_19 : decode cX5_put 19 = .ok (.iload_n 1, 1) := by decide +kernel
theorem dX5_put_20 : decode cX5_put 20 = .ok (.iastore, 1) := by decide +kernel
theorem dX5_put_21 : decode cX5_put 21 = .ok (.aload_n 0, 1) := by decide +kernel
theorem dX5_put_22 : decode cX5_put 22 = .ok (.dup, 1) := by decide +kernel
theorem dX5_put_23 : decode cX5_put 23 = .ok (.getfield 15, 3) := by decide +kernel
theorem dX5_put_26 : decode cX5_put 26 = .ok (.iconst 1, 1) := by decide +kernel
theorem dX5_put_27 : decode cX5_put 27 = .ok (.iadd, 1) := by decide +kernel
theorem dX5_put_28 : decode cX5_put 28 = .ok (.putfield 15, 3) := by decide +kernel
theorem dX5_put_31 : decode cX5_put 31 = .ok (.iconst 1, 1) := by decide +kernel
theorem dX5_put_32 : decode cX5_put 32 = .ok (.ireturn, 1) := by decide +kernel
theorem dX5_read_0 : decode cX5_read 0 = .ok (.aload_n 1, 1) := by decide +kernel
theorem dX5_read_1 : decode cX5_read 1 = .ok (.invokevirtual 19, 3) := by decide +kernel
theorem dX5_read_4 : decode cX5_read 4 = .ok (.aload_n 0, 1) := by decide +kernel
theorem dX5_read_5 : decode cX5_read 5 = .ok (.iconst 0, 1) := by decide +kernel
theorem dX5_read_6 : decode cX5_read 6 = .ok (.putfield 24, 3) := by decide +kernel
theorem dX5_read_9 : decode cX5_read 9 = .ok (.aload_n 0, 1) := by decide +kernel
theorem dX5_read_10 : decode cX5_read 10 = .ok (.iconst 0, 1) := by decide +kernel
theorem dX5_read_11 : decode cX5_read 11 = .ok (.putfield 27, 3) := by decide +kernel
theorem dX5_read_14 : decode cX5_read 14 = .ok (.aload_n 0, 1) := by decide +kernel
theorem dX5_read_15 : decode cX5_read 15 = .ok (.iconst 0, 1) := by decide +kernel
theorem dX5_read_16 : decode cX5_read 16 = .ok (.putfield 30, 3) := by decide +kernel
theorem dX5_read_19 : decode cX5_read 19 = .ok (.aload_n 0, 1) := by decide +kernel
theorem dX5_read_20 : decode cX5_read 20 = .ok (.iconst 0, 1) := by decide +kernel
theorem dX5_read_21 : decode cX5_read 21 = .ok (.putfield 33, 3) := by decide +kernel
theorem dX5_read_24 : decode cX5_read 24 = .ok (.aload_n 0, 1) := by decide +kernel
theorem dX5_read_25 : decode cX5_read 25 = .ok (.invokevirtual 37, 3) := by decide +kernel
theorem dX5_read_28 : decode cX5_read 28 = .ok (.iconst 0, 1) := by decide +kernel
theorem dX5_read_29 : decode cX5_read 29 = .ok (.istore_n 2, 1) := by decide +kernel
theorem dX5_read_30 : decode cX5_read 30 = .ok (.iload_n 2, 1) := by decide +kernel
theorem dX5_read_31 : decode cX5_read 31 = .ok (.bipush 110, 2) := by decide +kernel
theorem dX5_read_33 : decode cX5_read 33 = .ok (.if_icmp .ge 36, 3) := by decide +kernel
theorem dX5_read_36 : decode cX5_read 36 = .ok (.aload_n 0, 1) := by decide +kernel
theorem dX5_read_37 : decode cX5_read 37 = .ok (.getfield 40, 3) := by decide +kernel
theorem dX5_read_40 : decode cX5_read 40 = .ok (.ifCond .eq 29, 3) := by decide +kernel
theorem dX5_read_43 : decode cX5_read 43 = .ok (.aload_n 0, 1) := by decide +kernel
theorem dX5_read_44 : decode cX5_read 44 = .ok (.aload_n 1, 1) := by decide +kernel
theorem dX5_read_45 : decode cX5_read 45 = .ok (.invokevirtual 43, 3) := by decide +kernel
theorem dX5_read_48 : decode cX5_read 48 = .ok (.ifCond .ne 11, 3) := by decide +kernel
theorem dX5_read_51 : decode cX5_read 51 = .ok (.bipush (-10), 2) := by decide +kernel
theorem dX5_read_53 : decode cX5_read 53 = .ok (.aload_n 0, 1) := by decide +kernel
theorem dX5_read_54 : decode cX5_read 54 = .ok (.getfield 47, 3) := by decide +kernel
theorem dX5_read_57 : decode cX5_read 57 = .ok (.isub, 1) := by decide +kernel
theorem dX5_read_58 : decode cX5_read 58 = .ok (.ireturn, 1) := by decide +kernel
theorem dX5_read_59 : decode cX5_read 59 = .ok (.aload_n 0, 1) := by decide +kernel
theorem dX5_read_60 : decode cX5_read 60 = .ok (.invokevirtual 37, 3) := by decide +kernel
theorem dX5_read_63 : decode cX5_read 63 = .ok (.iinc 2 1, 3) := by decide +kernel
theorem dX5_read_66 : decode cX5_read 66 = .ok (.goto (-36), 3) := by decide +kernel
theorem dX5_read_69 : decode cX5_read 69 = .ok (.aload_n 0, 1) := by decide +kernel
theorem dX5_read_70 : decode cX5_read 70 = .ok (.getfield 27, 3) := by decide +kernel
theorem dX5_read_73 : decode cX5_read 73 = .ok (.ifCond .ne 10, 3) := by decide +kernel
theorem dX5_read_76 : decode cX5_read 76 = .ok (.aload_n 0, 1) := by decide +kernel
theorem dX5_read_77 : decode cX5_read 77 = .ok (.getfield 30, 3) := by decide +kernel
theorem dX5_read_80 : decode cX5_read 80 = .ok (.goto 10, 3) := by decide +kernel
theorem dX5_read_83 : decode cX5_read 83 = .ok (.bipush (-10), 2) := by decide +kernel
theorem dX5_read_85 : decode cX5_read 85 = .ok (.aload_n 0, 1) := by decide +kernel
theorem dX5_read_86 : decode cX5_read 86 = .ok (.getfield 47, 3) := by decide +kernel
theorem dX5_read_89 : decode cX5_read 89 = .ok (.isub, 1) := by decide +kernel
theorem dX5_read_90 : decode cX5_read 90 = .ok (.ireturn, 1) := by decide +kernel
theorem dX5_take_0 : decode cX5_take 0 = .ok (.aload_n 0, 1) := by decide +kernel
theorem dX5_take_1 : decode cX5_take 1 = .ok (.getfield 27, 3) := by decide +kernel
theorem dX5_take_4 : decode cX5_take 4 = .ok (.tableswitch 86 0 3 #[32, 53, 59, 80], 32) := by decide +kernel
theorem dX5_take_36 : decode cX5_take 36 = .ok (.aload_n 0, 1) := by decide +kernel
theorem dX5_take_37 : decode cX5_take 37 = .ok (.getfield 40, 3) := by decide +kernel
theorem dX5_take_40 : decode cX5_take 40 = .ok (.iconst 1, 1) := by decide +kernel
theorem dX5_take_41 : decode cX5_take 41 = .ok (.if_icmp .ne 10, 3) := by decide +kernel
theorem dX5_take_44 : decode cX5_take 44 = .ok (.aload_n 0, 1) := by decide +kernel
theorem dX5_take_45 : decode cX5_take 45 = .ok (.invokevirtual 50, 3) := by decide +kernel
theorem dX5_take_48 : decode cX5_take 48 = .ok (.goto 8, 3) := by decide +kernel
theorem dX5_take_51 : decode cX5_take 51 = .ok (.aload_n 0, 1) := by decide +kernel
theorem dX5_take_52 : decode cX5_take 52 = .ok (.aload_n 1, 1) := by decide +kernel
theorem dX5_take_53 : decode cX5_take 53 = .ok (.invokevirtual 54, 3) := by decide +kernel
theorem dX5_take_56 : decode cX5_take 56 = .ok (.ireturn, 1) := by decide +kernel
theorem dX5_take_57 : decode cX5_take 57 = .ok (.aload_n 0, 1) := by decide +kernel
theorem dX5_take_58 : decode cX5_take 58 = .ok (.aload_n 1, 1) := by decide +kernel
theorem dX5_take_59 : decode cX5_take 59 = .ok (.invokevirtual 57, 3) := by decide +kernel
theorem dX5_take_62 : decode cX5_take 62 = .ok (.ireturn, 1) := by decide +kernel
theorem dX5_take_63 : decode cX5_take 63 = .ok (.aload_n 0, 1) := by decide +kernel
theorem dX5_take_64 : decode cX5_take 64 = .ok (.getfield 40, 3) := by decide +kernel
theorem dX5_take_67 : decode cX5_take 67 = .ok (.iconst 5, 1) := by decide +kernel
theorem dX5_take_68 : decode cX5_take 68 = .ok (.if_icmp .ne 10, 3) := by decide +kernel
theorem dX5_take_71 : decode cX5_take 71 = .ok (.aload_n 0, 1) := by decide +kernel
theorem dX5_take_72 : decode cX5_take 72 = .ok (.invokevirtual 60, 3) := by decide +kernel
theorem dX5_take_75 : decode cX5_take 75 = .ok (.goto 8, 3) := by decide +kernel
theorem dX5_take_78 : decode cX5_take 78 = .ok (.aload_n 0, 1) := by decide +kernel
theorem dX5_take_79 : decode cX5_take 79 = .ok (.aload_n 1, 1) := by decide +kernel
theorem dX5_take_80 : decode cX5_take 80 = .ok (.invokevirtual 63, 3) := by decide +kernel
theorem dX5_take_83 : decode cX5_take 83 = .ok (.ireturn, 1) := by decide +kernel
theorem dX5_take_84 : decode cX5_take 84 = .ok (.aload_n 0, 1) := by decide +kernel
theorem dX5_take_85 : decode cX5_take 85 = .ok (.aload_n 1, 1) := by decide +kernel
theorem dX5_take_86 : decode cX5_take 86 = .ok (.invokevirtual 66, 3) := by decide +kernel
theorem dX5_take_89 : decode cX5_take 89 = .ok (.ireturn, 1) := by decide +kernel
theorem dX5_take_90 : decode cX5_take 90 = .ok (.aload_n 0, 1) := by decide +kernel
theorem dX5_take_91 : decode cX5_take 91 = .ok (.invokevirtual 60, 3) := by decide +kernel
theorem dX5_take_94 : decode cX5_take 94 = .ok (.ireturn, 1) := by decide +kernel
theorem dX5_takeSlackSign_0 : decode cX5_takeSlackSign 0 = .ok (.aload_n 0, 1) := by decide +kernel
theorem dX5_takeSlackSign_1 : decode cX5_takeSlackSign 1 = .ok (.getfield 33, 3) := by decide +kernel
theorem dX5_takeSlackSign_4 : decode cX5_takeSlackSign 4 = .ok (.ifCond .ne 7, 3) := by decide +kernel
theorem dX5_takeSlackSign_7 : decode cX5_takeSlackSign 7 = .ok (.iconst 1, 1) := by decide +kernel
theorem dX5_takeSlackSign_8 : decode cX5_takeSlackSign 8 = .ok (.goto 4, 3) := by decide +kernel
theorem dX5_takeSlackSign_11 : decode cX5_takeSlackSign 11 = .ok (.iconst 0, 1) := by decide +kernel
theorem dX5_takeSlackSign_12 : decode cX5_takeSlackSign 12 = .ok (.istore_n 1, 1) := by decide +kernel
theorem dX5_takeSlackSign_13 : decode cX5_takeSlackSign 13 = .ok (.aload_n 0, 1) := by decide +kernel
theorem dX5_takeSlackSign_14 : decode cX5_takeSlackSign 14 = .ok (.iconst 1, 1) := by decide +kernel
theorem dX5_takeSlackSign_15 : decode cX5_takeSlackSign 15 = .ok (.putfield 33, 3) := by decide +kernel
theorem dX5_takeSlackSign_18 : decode cX5_takeSlackSign 18 = .ok (.aload_n 0, 1) := by decide +kernel
theorem dX5_takeSlackSign_19 : decode cX5_takeSlackSign 19 = .ok (.iconst 1, 1) := by decide +kernel
theorem dX5_takeSlackSign_20 : decode cX5_takeSlackSign 20 = .ok (.putfield 27, 3) := by decide +kernel
theorem dX5_takeSlackSign_23 : decode cX5_takeSlackSign 23 = .ok (.iload_n 1, 1) := by decide +kernel
theorem dX5_takeSlackSign_24 : decode cX5_takeSlackSign 24 = .ok (.ireturn, 1) := by decide +kernel
theorem dX5_takeSlack_0 : decode cX5_takeSlack 0 = .ok (.aload_n 1, 1) := by decide +kernel
theorem dX5_takeSlack_1 : decode cX5_takeSlack 1 = .ok (.aload_n 0, 1) := by decide +kernel
theorem dX5_takeSlack_2 : decode cX5_takeSlack 2 = .ok (.getfield 69, 3) := by decide +kernel
theorem dX5_takeSlack_5 : decode cX5_takeSlack 5 = .ok (.putfield 72, 3) := by decide +kernel
theorem dX5_takeSlack_8 : decode cX5_takeSlack 8 = .ok (.aload_n 0, 1) := by decide +kernel
theorem dX5_takeSlack_9 : decode cX5_takeSlack 9 = .ok (.iconst 4, 1) := by decide +kernel
theorem dX5_takeSlack_10 : decode cX5_takeSlack 10 = .ok (.putfield 27, 3) := by decide +kernel
theorem dX5_takeSlack_13 : decode cX5_takeSlack 13 = .ok (.aload_n 0, 1) := by decide +kernel
theorem dX5_takeSlack_14 : decode cX5_takeSlack 14 = .ok (.getfield 40, 3) := by decide +kernel
theorem dX5_takeSlack_17 : decode cX5_takeSlack 17 = .ok (.iconst 4, 1) := by decide +kernel
theorem dX5_takeSlack_18 : decode cX5_takeSlack 18 = .ok (.if_icmp .ne 16, 3) := by decide +kernel
theorem dX5_takeSlack_21 : decode cX5_takeSlack 21 = .ok (.aload_n 0, 1) := by decide +kernel
theorem dX5_takeSlack_22 : decode cX5_takeSlack 22 = .ok (.getfield 69, 3) := by decide +kernel
theorem dX5_takeSlack_25 : decode cX5_takeSlack 25 = .ok (.bipush 9, 2) := by decide +kernel
theorem dX5_takeSlack_27 : decode cX5_takeSlack 27 = .ok (.if_icmp .gt 7, 3) := by decide +kernel
theorem dX5_takeSlack_30 : decode cX5_takeSlack 30 = .ok (.iconst 1, 1) := by decide +kernel
theorem dX5_takeSlack_31 : decode cX5_takeSlack 31 = .ok (.goto 4, 3) := by decide +kernel
theorem dX5_takeSlack_34 : decode cX5_takeSlack 34 = .ok (.iconst 0, 1) := by decide +kernel
theorem dX5_takeSlack_35 : decode cX5_takeSlack 35 = .ok (.ireturn, 1) := by decide +kernel
theorem dX5_takeHouseSign_0 : decode cX5_takeHouseSign 0 = .ok (.aload_n 0, 1) := by decide +kernel
theorem dX5_takeHouseSign_1 : decode cX5_takeHouseSign 1 = .ok (.getfield 40, 3) := by decide +kernel
theorem dX5_takeHouseSign_4 : decode cX5_takeHouseSign 4 = .ok (.iconst 2, 1) := by decide +kernel
theorem dX5_takeHouseSign_5 : decode cX5_takeHouseSign 5 = .ok (.if_icmp .ne 11, 3) := by decide +kernel
theorem dX5_takeHouseSign_8 : decode cX5_takeHouseSign 8 = .ok (.aload_n 1, 1) := by decide +kernel
theorem dX5_takeHouseSign_9 : decode cX5_takeHouseSign 9 = .ok (.getfield 75, 3) := by decide +kernel
theorem dX5_takeHouseSign_12 : decode cX5_takeHouseSign 12 = .ok (.iconst 4, 1) := by decide +kernel
theorem dX5_takeHouseSign_13 : decode cX5_takeHouseSign 13 = .ok (.if_icmp .lt 5, 3) := by decide +kernel
theorem dX5_takeHouseSign_16 : decode cX5_takeHouseSign 16 = .ok (.iconst 0, 1) := by decide +kernel
theorem dX5_takeHouseSign_17 : decode cX5_takeHouseSign 17 = .ok (.ireturn, 1) := by decide +kernel
theorem dX5_takeHouseSign_18 : decode cX5_takeHouseSign 18 = .ok (.aload_n 1, 1) := by decide +kernel
theorem dX5_takeHouseSign_19 : decode cX5_takeHouseSign 19 = .ok (.dup, 1) := by decide +kernel
theorem dX5_takeHouseSign_20 : decode cX5_takeHouseSign 20 = .ok (.getfield 75, 3) := by decide +kernel
theorem dX5_takeHouseSign_23 : decode cX5_takeHouseSign 23 = .ok (.iconst 1, 1) := by decide +kernel
theorem dX5_takeHouseSign_24 : decode cX5_takeHouseSign 24 = .ok (.iadd, 1) := by decide +kernel
theorem dX5_takeHouseSign_25 : decode cX5_takeHouseSign 25 = .ok (.putfield 75, 3) := by decide +kernel
theorem dX5_takeHouseSign_28 : decode cX5_takeHouseSign 28 = .ok (.aload_n 0, 1) := by decide +kernel
theorem dX5_takeHouseSign_29 : decode cX5_takeHouseSign 29 = .ok (.iconst 2, 1) := by decide +kernel
theorem dX5_takeHouseSign_30 : decode cX5_takeHouseSign 30 = .ok (.putfield 27, 3) := by decide +kernel
theorem dX5_takeHouseSign_33 : decode cX5_takeHouseSign 33 = .ok (.iconst 1, 1) := by decide +kernel
theorem dX5_takeHouseSign_34 : decode cX5_takeHouseSign 34 = .ok (.ireturn, 1) := by decide +kernel
theorem dX5_takeEvent_0 : decode cX5_takeEvent 0 = .ok (.aload_n 1, 1) := by decide +kernel
theorem dX5_takeEvent_1 : decode cX5_takeEvent 1 = .ok (.invokevirtual 76, 3) := by decide +kernel
theorem dX5_takeEvent_4 : decode cX5_takeEvent 4 = .ok (.astore_n 2, 1) := by decide +kernel
theorem dX5_takeEvent_5 : decode cX5_takeEvent 5 = .ok (.aload_n 0, 1) := by decide +kernel
theorem dX5_takeEvent_6 : decode cX5_takeEvent 6 = .ok (.aload_n 0, 1) := by decide +kernel
theorem dX5_takeEvent_7 : decode cX5_takeEvent 7 = .ok (.getfield 69, 3) := by decide +kernel
theorem dX5_takeEvent_10 : decode cX5_takeEvent 10 = .ok (.putfield 80, 3) := by decide +kernel
theorem dX5_takeEvent_13 : decode cX5_takeEvent 13 = .ok (.aload_n 0, 1) := by decide +kernel
theorem dX5_takeEvent_14 : decode cX5_takeEvent 14 = .ok (.iconst 3, 1) := by decide +kernel
theorem dX5_takeEvent_15 : decode cX5_takeEvent 15 = .ok (.putfield 27, 3) := by decide +kernel
theorem dX5_takeEvent_18 : decode cX5_takeEvent 18 = .ok (.aload_n 0, 1) := by decide +kernel
theorem dX5_takeEvent_19 : decode cX5_takeEvent 19 = .ok (.getfield 40, 3) := by decide +kernel
theorem dX5_takeEvent_22 : decode cX5_takeEvent 22 = .ok (.iconst 3, 1) := by decide +kernel
theorem dX5_takeEvent_23 : decode cX5_takeEvent 23 = .ok (.if_icmp .ne 27, 3) := by decide +kernel
theorem dX5_takeEvent_26 : decode cX5_takeEvent 26 = .ok (.aload_n 2, 1) := by decide +kernel
theorem dX5_takeEvent_27 : decode cX5_takeEvent 27 = .ok (.getfield 83, 3) := by decide +kernel
theorem dX5_takeEvent_30 : decode cX5_takeEvent 30 = .ok (.bipush 6, 2) := by decide +kernel
theorem dX5_takeEvent_32 : decode cX5_takeEvent 32 = .ok (.if_icmp .ge 18, 3) := by decide +kernel
theorem dX5_takeEvent_35 : decode cX5_takeEvent 35 = .ok (.aload_n 2, 1) := by decide +kernel
theorem dX5_takeEvent_36 : decode cX5_takeEvent 36 = .ok (.aload_n 0, 1) := by decide +kernel
theorem dX5_takeEvent_37 : decode cX5_takeEvent 37 = .ok (.getfield 69, 3) := by decide +kernel
theorem dX5_takeEvent_40 : decode cX5_takeEvent 40 = .ok (.invokevirtual 86, 3) := by decide +kernel
theorem dX5_takeEvent_43 : decode cX5_takeEvent 43 = .ok (.ifCond .ge 7, 3) := by decide +kernel
theorem dX5_takeEvent_46 : decode cX5_takeEvent 46 = .ok (.iconst 1, 1) := by decide +kernel
theorem dX5_takeEvent_47 : decode cX5_takeEvent 47 = .ok (.goto 4, 3) := by decide +kernel
theorem dX5_takeEvent_50 : decode cX5_takeEvent 50 = .ok (.iconst 0, 1) := by decide +kernel
theorem dX5_takeEvent_51 : decode cX5_takeEvent 51 = .ok (.ireturn, 1) := by decide +kernel
theorem dX5_takeYear_0 : decode cX5_takeYear 0 = .ok (.aload_n 1, 1) := by decide +kernel
theorem dX5_takeYear_1 : decode cX5_takeYear 1 = .ok (.invokevirtual 76, 3) := by decide +kernel
theorem dX5_takeYear_4 : decode cX5_takeYear 4 = .ok (.astore_n 2, 1) := by decide +kernel
theorem dX5_takeYear_5 : decode cX5_takeYear 5 = .ok (.aload_n 0, 1) := by decide +kernel
theorem dX5_takeYear_6 : decode cX5_takeYear 6 = .ok (.iconst 2, 1) := by decide +kernel
theorem dX5_takeYear_7 : decode cX5_takeYear 7 = .ok (.putfield 27, 3) := by decide +kernel
theorem dX5_takeYear_10 : decode cX5_takeYear 10 = .ok (.aload_n 0, 1) := by decide +kernel
theorem dX5_takeYear_11 : decode cX5_takeYear 11 = .ok (.getfield 40, 3) := by decide +kernel
theorem dX5_takeYear_14 : decode cX5_takeYear 14 = .ok (.iconst 4, 1) := by decide +kernel
theorem dX5_takeYear_15 : decode cX5_takeYear 15 = .ok (.if_icmp .ne 37, 3) := by decide +kernel
theorem dX5_takeYear_18 : decode cX5_takeYear 18 = .ok (.aload_n 2, 1) := by decide +kernel
theorem dX5_takeYear_19 : decode cX5_takeYear 19 = .ok (.aload_n 2, 1) := by decide +kernel
theorem dX5_takeYear_20 : decode cX5_takeYear 20 = .ok (.getfield 83, 3) := by decide +kernel
theorem dX5_takeYear_23 : decode cX5_takeYear 23 = .ok (.aload_n 0, 1) := by decide +kernel
theorem dX5_takeYear_24 : decode cX5_takeYear 24 = .ok (.getfield 69, 3) := by decide +kernel
theorem dX5_takeYear_27 : decode cX5_takeYear 27 = .ok (.invokevirtual 90, 3) := by decide +kernel
theorem dX5_takeYear_30 : decode cX5_takeYear 30 = .ok (.ifCond .eq 22, 3) := by decide +kernel
theorem dX5_takeYear_33 : decode cX5_takeYear 33 = .ok (.aload_n 2, 1) := by decide +kernel
theorem dX5_takeYear_34 : decode cX5_takeYear 34 = .ok (.aload_n 0, 1) := by decide +kernel
theorem dX5_takeYear_35 : decode cX5_takeYear 35 = .ok (.getfield 80, 3) := by decide +kernel
theorem dX5_takeYear_38 : decode cX5_takeYear 38 = .ok (.aload_n 0, 1) := by decide +kernel
theorem dX5_takeYear_39 : decode cX5_takeYear 39 = .ok (.getfield 69, 3) := by decide +kernel
theorem dX5_takeYear_42 : decode cX5_takeYear 42 = .ok (.invokevirtual 94, 3) := by decide +kernel
theorem dX5_takeYear_45 : decode cX5_takeYear 45 = .ok (.ifCond .eq 7, 3) := by decide +kernel
theorem dX5_takeYear_48 : decode cX5_takeYear 48 = .ok (.iconst 1, 1) := by decide +kernel
theorem dX5_takeYear_49 : decode cX5_takeYear 49 = .ok (.goto 4, 3) := by decide +kernel
theorem dX5_takeYear_52 : decode cX5_takeYear 52 = .ok (.iconst 0, 1) := by decide +kernel
theorem dX5_takeYear_53 : decode cX5_takeYear 53 = .ok (.ireturn, 1) := by decide +kernel
theorem dX5_takeStop_0 : decode cX5_takeStop 0 = .ok (.aload_n 0, 1) := by decide +kernel
theorem dX5_takeStop_1 : decode cX5_takeStop 1 = .ok (.dup, 1) := by decide +kernel
theorem dX5_takeStop_2 : decode cX5_takeStop 2 = .ok (.getfield 30, 3) := by decide +kernel
theorem dX5_takeStop_5 : decode cX5_takeStop 5 = .ok (.iconst 1, 1) := by decide +kernel
theorem dX5_takeStop_6 : decode cX5_takeStop 6 = .ok (.iadd, 1) := by decide +kernel
theorem dX5_takeStop_7 : decode cX5_takeStop 7 = .ok (.putfield 30, 3) := by decide +kernel
theorem dX5_takeStop_10 : decode cX5_takeStop 10 = .ok (.aload_n 0, 1) := by decide +kernel
theorem dX5_takeStop_11 : decode cX5_takeStop 11 = .ok (.iconst 0, 1) := by decide +kernel
theorem dX5_takeStop_12 : decode cX5_takeStop 12 = .ok (.putfield 27, 3) := by decide +kernel
theorem dX5_takeStop_15 : decode cX5_takeStop 15 = .ok (.aload_n 0, 1) := by decide +kernel
theorem dX5_takeStop_16 : decode cX5_takeStop 16 = .ok (.getfield 40, 3) := by decide +kernel
theorem dX5_takeStop_19 : decode cX5_takeStop 19 = .ok (.iconst 5, 1) := by decide +kernel
theorem dX5_takeStop_20 : decode cX5_takeStop 20 = .ok (.if_icmp .ne 7, 3) := by decide +kernel
theorem dX5_takeStop_23 : decode cX5_takeStop 23 = .ok (.iconst 1, 1) := by decide +kernel
theorem dX5_takeStop_24 : decode cX5_takeStop 24 = .ok (.goto 4, 3) := by decide +kernel
theorem dX5_takeStop_27 : decode cX5_takeStop 27 = .ok (.iconst 0, 1) := by decide +kernel
theorem dX5_takeStop_28 : decode cX5_takeStop 28 = .ok (.ireturn, 1) := by decide +kernel
theorem dX5_advance_0 : decode cX5_advance 0 = .ok (.aload_n 0, 1) := by decide +kernel
theorem dX5_advance_1 : decode cX5_advance 1 = .ok (.getfield 24, 3) := by decide +kernel
theorem dX5_advance_4 : decode cX5_advance 4 = .ok (.aload_n 0, 1) := by decide +kernel
theorem dX5_advance_5 : decode cX5_advance 5 = .ok (.getfield 15, 3) := by decide +kernel
theorem dX5_advance_8 : decode cX5_advance 8 = .ok (.if_icmp .ge 30, 3) := by decide +kernel
theorem dX5_advance_11 : decode cX5_advance 11 = .ok (.aload_n 0, 1) := by decide +kernel
theorem dX5_advance_12 : decode cX5_advance 12 = .ok (.getfield 9, 3) := by decide +kernel
theorem dX5_advance_15 : decode cX5_advance 15 = .ok (.aload_n 0, 1) := by decide +kernel
theorem dX5_advance_16 : decode cX5_advance 16 = .ok (.getfield 24, 3) := by decide +kernel
theorem dX5_advance_19 : decode cX5_advance 19 = .ok (.iaload, 1) := by decide +kernel
theorem dX5_advance_20 : decode cX5_advance 20 = .ok (.bipush 32, 2) := by decide +kernel
theorem dX5_advance_22 : decode cX5_advance 22 = .ok (.if_icmp .ne 16, 3) := by decide +kernel
theorem dX5_advance_25 : decode cX5_advance 25 = .ok (.aload_n 0, 1) := by decide +kernel
theorem dX5_advance_26 : decode cX5_advance 26 = .ok (.dup, 1) := by decide +kernel
theorem dX5_advance_27 : decode cX5_advance 27 = .ok (.getfield 24, 3) := by decide +kernel
theorem dX5_advance_30 : decode cX5_advance 30 = .ok (.iconst 1, 1) := by decide +kernel
theorem dX5_advance_31 : decode cX5_advance 31 = .ok (.iadd, 1) := by decide +kernel
theorem dX5_advance_32 : decode cX5_advance 32 = .ok (.putfield 24, 3) := by decide +kernel
theorem dX5_advance_35 : decode cX5_advance 35 = .ok (.goto (-35), 3) := by decide +kernel
theorem dX5_advance_38 : decode cX5_advance 38 = .ok (.aload_n 0, 1) := by decide +kernel
theorem dX5_advance_39 : decode cX5_advance 39 = .ok (.aload_n 0, 1) := by decide +kernel
theorem dX5_advance_40 : decode cX5_advance 40 = .ok (.getfield 24, 3) := by decide +kernel
theorem dX5_advance_43 : decode cX5_advance 43 = .ok (.putfield 47, 3) := by decide +kernel
theorem dX5_advance_46 : decode cX5_advance 46 = .ok (.aload_n 0, 1) := by decide +kernel
theorem dX5_advance_47 : decode cX5_advance 47 = .ok (.getfield 24, 3) := by decide +kernel
theorem dX5_advance_50 : decode cX5_advance 50 = .ok (.aload_n 0, 1) := by decide +kernel
theorem dX5_advance_51 : decode cX5_advance 51 = .ok (.getfield 15, 3) := by decide +kernel
theorem dX5_advance_54 : decode cX5_advance 54 = .ok (.if_icmp .lt 9, 3) := by decide +kernel
theorem dX5_advance_57 : decode cX5_advance 57 = .ok (.aload_n 0, 1) := by decide +kernel
theorem dX5_advance_58 : decode cX5_advance 58 = .ok (.iconst 0, 1) := by decide +kernel
theorem dX5_advance_59 : decode cX5_advance 59 = .ok (.putfield 40, 3) := by decide +kernel
theorem dX5_advance_62 : decode cX5_advance 62 = .ok (.return_, 1) := by decide +kernel
theorem dX5_advance_63 : decode cX5_advance 63 = .ok (.aload_n 0, 1) := by decide +kernel
theorem dX5_advance_64 : decode cX5_advance 64 = .ok (.getfield 9, 3) := by decide +kernel
theorem dX5_advance_67 : decode cX5_advance 67 = .ok (.aload_n 0, 1) := by decide +kernel
theorem dX5_advance_68 : decode cX5_advance 68 = .ok (.getfield 24, 3) := by decide +kernel
theorem dX5_advance_71 : decode cX5_advance 71 = .ok (.iaload, 1) := by decide +kernel
theorem dX5_advance_72 : decode cX5_advance 72 = .ok (.istore_n 1, 1) := by decide +kernel
theorem dX5_advance_73 : decode cX5_advance 73 = .ok (.iload_n 1, 1) := by decide +kernel
theorem dX5_advance_74 : decode cX5_advance 74 = .ok (.invokestatic 97, 3) := by decide +kernel
theorem dX5_advance_77 : decode cX5_advance 77 = .ok (.ifCond .eq 8, 3) := by decide +kernel
theorem dX5_advance_80 : decode cX5_advance 80 = .ok (.aload_n 0, 1) := by decide +kernel
theorem dX5_advance_81 : decode cX5_advance 81 = .ok (.invokevirtual 101, 3) := by decide +kernel
theorem dX5_advance_84 : decode cX5_advance 84 = .ok (.return_, 1) := by decide +kernel
theorem dX5_advance_85 : decode cX5_advance 85 = .ok (.aload_n 0, 1) := by decide +kernel
theorem dX5_advance_86 : decode cX5_advance 86 = .ok (.dup, 1) := by decide +kernel
theorem dX5_advance_87 : decode cX5_advance 87 = .ok (.getfield 24, 3) := by decide +kernel
theorem dX5_advance_90 : decode cX5_advance 90 = .ok (.iconst 1, 1) := by decide +kernel
theorem dX5_advance_91 : decode cX5_advance 91 = .ok (.iadd, 1) := by decide +kernel
theorem dX5_advance_92 : decode cX5_advance 92 = .ok (.putfield 24, 3) := by decide +kernel
theorem dX5_advance_95 : decode cX5_advance 95 = .ok (.aload_n 0, 1) := by decide +kernel
theorem dX5_advance_96 : decode cX5_advance 96 = .ok (.iload_n 1, 1) := by decide +kernel
theorem dX5_advance_97 : decode cX5_advance 97 = .ok (.invokestatic 104, 3) := by decide +kernel
theorem dX5_advance_100 : decode cX5_advance 100 = .ok (.putfield 40, 3) := by decide +kernel
theorem dX5_advance_103 : decode cX5_advance 103 = .ok (.aload_n 0, 1) := by decide +kernel
theorem dX5_advance_104 : decode cX5_advance 104 = .ok (.iload_n 1, 1) := by decide +kernel
theorem dX5_advance_105 : decode cX5_advance 105 = .ok (.bipush 97, 2) := by decide +kernel
theorem dX5_advance_107 : decode cX5_advance 107 = .ok (.isub, 1) := by decide +kernel
theorem dX5_advance_108 : decode cX5_advance 108 = .ok (.putfield 69, 3) := by decide +kernel
theorem dX5_advance_111 : decode cX5_advance 111 = .ok (.return_, 1) := by decide +kernel
theorem dX5_isFigure_0 : decode cX5_isFigure 0 = .ok (.iload_n 0, 1) := by decide +kernel
theorem dX5_isFigure_1 : decode cX5_isFigure 1 = .ok (.bipush 48, 2) := by decide +kernel
theorem dX5_isFigure_3 : decode cX5_isFigure 3 = .ok (.if_icmp .lt 13, 3) := by decide +kernel
theorem dX5_isFigure_6 : decode cX5_isFigure 6 = .ok (.iload_n 0, 1) := by decide +kernel
theorem dX5_isFigure_7 : decode cX5_isFigure 7 = .ok (.bipush 57, 2) := by decide +kernel
theorem dX5_isFigure_9 : decode cX5_isFigure 9 = .ok (.if_icmp .gt 7, 3) := by decide +kernel
theorem dX5_isFigure_12 : decode cX5_isFigure 12 = .ok (.iconst 1, 1) := by decide +kernel
theorem dX5_isFigure_13 : decode cX5_isFigure 13 = .ok (.goto 4, 3) := by decide +kernel
theorem dX5_isFigure_16 : decode cX5_isFigure 16 = .ok (.iconst 0, 1) := by decide +kernel
theorem dX5_isFigure_17 : decode cX5_isFigure 17 = .ok (.ireturn, 1) := by decide +kernel
theorem dX5_signOf_0 : decode cX5_signOf 0 = .ok (.iload_n 0, 1) := by decide +kernel
theorem dX5_signOf_1 : decode cX5_signOf 1 = .ok (.bipush 97, 2) := by decide +kernel
theorem dX5_signOf_3 : decode cX5_signOf 3 = .ok (.if_icmp .lt 11, 3) := by decide +kernel
theorem dX5_signOf_6 : decode cX5_signOf 6 = .ok (.iload_n 0, 1) := by decide +kernel
theorem dX5_signOf_7 : decode cX5_signOf 7 = .ok (.bipush 105, 2) := by decide +kernel
theorem dX5_signOf_9 : decode cX5_signOf 9 = .ok (.if_icmp .ge 5, 3) := by decide +kernel
theorem dX5_signOf_12 : decode cX5_signOf 12 = .ok (.iconst 3, 1) := by decide +kernel
theorem dX5_signOf_13 : decode cX5_signOf 13 = .ok (.ireturn, 1) := by decide +kernel
theorem dX5_signOf_14 : decode cX5_signOf 14 = .ok (.iload_n 0, 1) := by decide +kernel
theorem dX5_signOf_15 : decode cX5_signOf 15 = .ok (.lookupswitch 39 #[(59, 37), (113, 35), (115, 33)], 33) := by decide +kernel
theorem dX5_signOf_48 : decode cX5_signOf 48 = .ok (.iconst 1, 1) := by decide +kernel
theorem dX5_signOf_49 : decode cX5_signOf 49 = .ok (.ireturn, 1) := by decide +kernel
theorem dX5_signOf_50 : decode cX5_signOf 50 = .ok (.iconst 2, 1) := by decide +kernel
theorem dX5_signOf_51 : decode cX5_signOf 51 = .ok (.ireturn, 1) := by decide +kernel
theorem dX5_signOf_52 : decode cX5_signOf 52 = .ok (.iconst 5, 1) := by decide +kernel
theorem dX5_signOf_53 : decode cX5_signOf 53 = .ok (.ireturn, 1) := by decide +kernel
theorem dX5_signOf_54 : decode cX5_signOf 54 = .ok (.bipush 6, 2) := by decide +kernel
theorem dX5_signOf_56 : decode cX5_signOf 56 = .ok (.ireturn, 1) := by decide +kernel
theorem dX5_takeNumber_0 : decode cX5_takeNumber 0 = .ok (.aload_n 0, 1) := by decide +kernel
theorem dX5_takeNumber_1 : decode cX5_takeNumber 1 = .ok (.getfield 9, 3) := by decide +kernel
theorem dX5_takeNumber_4 : decode cX5_takeNumber 4 = .ok (.aload_n 0, 1) := by decide +kernel
theorem dX5_takeNumber_5 : decode cX5_takeNumber 5 = .ok (.getfield 24, 3) := by decide +kernel
theorem dX5_takeNumber_8 : decode cX5_takeNumber 8 = .ok (.iaload, 1) := by decide +kernel
theorem dX5_takeNumber_9 : decode cX5_takeNumber 9 = .ok (.istore_n 1, 1) := by decide +kernel
theorem dX5_takeNumber_10 : decode cX5_takeNumber 10 = .ok (.iconst 0, 1) := by decide +kernel
theorem dX5_takeNumber_11 : decode cX5_takeNumber 11 = .ok (.istore_n 2, 1) := by decide +kernel
theorem dX5_takeNumber_12 : decode cX5_takeNumber 12 = .ok (.aload_n 0, 1) := by decide +kernel
theorem dX5_takeNumber_13 : decode cX5_takeNumber 13 = .ok (.iconst 0, 1) := by decide +kernel
theorem dX5_takeNumber_14 : decode cX5_takeNumber 14 = .ok (.putfield 69, 3) := by decide +kernel
theorem dX5_takeNumber_17 : decode cX5_takeNumber 17 = .ok (.aload_n 0, 1) := by decide +kernel
theorem dX5_takeNumber_18 : decode cX5_takeNumber 18 = .ok (.getfield 24, 3) := by decide +kernel
theorem dX5_takeNumber_21 : decode cX5_takeNumber 21 = .ok (.aload_n 0, 1) := by decide +kernel
theorem dX5_takeNumber_22 : decode cX5_takeNumber 22 = .ok (.getfield 15, 3) := by decide +kernel
theorem dX5_takeNumber_25 : decode cX5_takeNumber 25 = .ok (.if_icmp .ge 63, 3) := by decide +kernel
theorem dX5_takeNumber_28 : decode cX5_takeNumber 28 = .ok (.aload_n 0, 1) := by decide +kernel
theorem dX5_takeNumber_29 : decode cX5_takeNumber 29 = .ok (.getfield 9, 3) := by decide +kernel
theorem dX5_takeNumber_32 : decode cX5_takeNumber 32 = .ok (.aload_n 0, 1) := by decide +kernel
theorem dX5_takeNumber_33 : decode cX5_takeNumber 33 = .ok (.getfield 24, 3) := by decide +kernel
theorem dX5_takeNumber_36 : decode cX5_takeNumber 36 = .ok (.iaload, 1) := by decide +kernel
theorem dX5_takeNumber_37 : decode cX5_takeNumber 37 = .ok (.invokestatic 97, 3) := by decide +kernel
theorem dX5_takeNumber_40 : decode cX5_takeNumber 40 = .ok (.ifCond .eq 48, 3) := by decide +kernel
theorem dX5_takeNumber_43 : decode cX5_takeNumber 43 = .ok (.iload_n 2, 1) := by decide +kernel
theorem dX5_takeNumber_44 : decode cX5_takeNumber 44 = .ok (.iconst 2, 1) := by decide +kernel
theorem dX5_takeNumber_45 : decode cX5_takeNumber 45 = .ok (.if_icmp .ge 27, 3) := by decide +kernel
theorem dX5_takeNumber_48 : decode cX5_takeNumber 48 = .ok (.aload_n 0, 1) := by decide +kernel
theorem dX5_takeNumber_49 : decode cX5_takeNumber 49 = .ok (.bipush 10, 2) := by decide +kernel
theorem dX5_takeNumber_51 : decode cX5_takeNumber 51 = .ok (.aload_n 0, 1) := by decide +kernel
theorem dX5_takeNumber_52 : decode cX5_takeNumber 52 = .ok (.getfield 69, 3) := by decide +kernel
theorem dX5_takeNumber_55 : decode cX5_takeNumber 55 = .ok (.imul, 1) := by decide +kernel
theorem dX5_takeNumber_56 : decode cX5_takeNumber 56 = .ok (.aload_n 0, 1) := by decide +kernel
theorem dX5_takeNumber_57 : decode cX5_takeNumber 57 = .ok (.getfield 9, 3) := by decide +kernel
theorem dX5_takeNumber_60 : decode cX5_takeNumber 60 = .ok (.aload_n 0, 1) := by decide +kernel
theorem dX5_takeNumber_61 : decode cX5_takeNumber 61 = .ok (.getfield 24, 3) := by decide +kernel
theorem dX5_takeNumber_64 : decode cX5_takeNumber 64 = .ok (.iaload, 1) := by decide +kernel
theorem dX5_takeNumber_65 : decode cX5_takeNumber 65 = .ok (.iadd, 1) := by decide +kernel
theorem dX5_takeNumber_66 : decode cX5_takeNumber 66 = .ok (.bipush 48, 2) := by decide +kernel
theorem dX5_takeNumber_68 : decode cX5_takeNumber 68 = .ok (.isub, 1) := by decide +kernel
theorem dX5_takeNumber_69 : decode cX5_takeNumber 69 = .ok (.putfield 69, 3) := by decide +kernel
theorem dX5_takeNumber_72 : decode cX5_takeNumber 72 = .ok (.iinc 2 1, 3) := by decide +kernel
theorem dX5_takeNumber_75 : decode cX5_takeNumber 75 = .ok (.aload_n 0, 1) := by decide +kernel
theorem dX5_takeNumber_76 : decode cX5_takeNumber 76 = .ok (.dup, 1) := by decide +kernel
theorem dX5_takeNumber_77 : decode cX5_takeNumber 77 = .ok (.getfield 24, 3) := by decide +kernel
theorem dX5_takeNumber_80 : decode cX5_takeNumber 80 = .ok (.iconst 1, 1) := by decide +kernel
theorem dX5_takeNumber_81 : decode cX5_takeNumber 81 = .ok (.iadd, 1) := by decide +kernel
theorem dX5_takeNumber_82 : decode cX5_takeNumber 82 = .ok (.putfield 24, 3) := by decide +kernel
theorem dX5_takeNumber_85 : decode cX5_takeNumber 85 = .ok (.goto (-68), 3) := by decide +kernel
theorem dX5_takeNumber_88 : decode cX5_takeNumber 88 = .ok (.iload_n 2, 1) := by decide +kernel
theorem dX5_takeNumber_89 : decode cX5_takeNumber 89 = .ok (.iconst 2, 1) := by decide +kernel
theorem dX5_takeNumber_90 : decode cX5_takeNumber 90 = .ok (.if_icmp .gt 14, 3) := by decide +kernel
theorem dX5_takeNumber_93 : decode cX5_takeNumber 93 = .ok (.iload_n 2, 1) := by decide +kernel
theorem dX5_takeNumber_94 : decode cX5_takeNumber 94 = .ok (.iconst 2, 1) := by decide +kernel
theorem dX5_takeNumber_95 : decode cX5_takeNumber 95 = .ok (.if_icmp .ne 13, 3) := by decide +kernel
theorem dX5_takeNumber_98 : decode cX5_takeNumber 98 = .ok (.iload_n 1, 1) := by decide +kernel
theorem dX5_takeNumber_99 : decode cX5_takeNumber 99 = .ok (.bipush 48, 2) := by decide +kernel
theorem dX5_takeNumber_101 : decode cX5_takeNumber 101 = .ok (.if_icmp .ne 7, 3) := by decide +kernel
theorem dX5_takeNumber_104 : decode cX5_takeNumber 104 = .ok (.iconst 1, 1) := by decide +kernel
theorem dX5_takeNumber_105 : decode cX5_takeNumber 105 = .ok (.goto 4, 3) := by decide +kernel
theorem dX5_takeNumber_108 : decode cX5_takeNumber 108 = .ok (.iconst 0, 1) := by decide +kernel
theorem dX5_takeNumber_109 : decode cX5_takeNumber 109 = .ok (.istore_n 3, 1) := by decide +kernel
theorem dX5_takeNumber_110 : decode cX5_takeNumber 110 = .ok (.aload_n 0, 1) := by decide +kernel
theorem dX5_takeNumber_111 : decode cX5_takeNumber 111 = .ok (.iload_n 3, 1) := by decide +kernel
theorem dX5_takeNumber_112 : decode cX5_takeNumber 112 = .ok (.ifCond .eq 8, 3) := by decide +kernel
theorem dX5_takeNumber_115 : decode cX5_takeNumber 115 = .ok (.bipush 6, 2) := by decide +kernel
theorem dX5_takeNumber_117 : decode cX5_takeNumber 117 = .ok (.goto 4, 3) := by decide +kernel
theorem dX5_takeNumber_120 : decode cX5_takeNumber 120 = .ok (.iconst 4, 1) := by decide +kernel
theorem dX5_takeNumber_121 : decode cX5_takeNumber 121 = .ok (.putfield 40, 3) := by decide +kernel
theorem dX5_takeNumber_124 : decode cX5_takeNumber 124 = .ok (.return_, 1) := by decide +kernel
theorem dX6_init_0 : decode cX6_init 0 = .ok (.aload_n 0, 1) := by decide +kernel
theorem dX6_init_1 : decode cX6_init 1 = .ok (.invokespecial 1, 3) := by decide +kernel
theorem dX6_init_4 : decode cX6_init 4 = .ok (.aload_n 0, 1) := by decide +kernel
theorem dX6_init_5 : decode cX6_init 5 = .ok (.new 7, 3) := by decide +kernel
theorem dX6_init_8 : decode cX6_init 8 = .ok (.dup, 1) := by decide +kernel
theorem dX6_init_9 : decode cX6_init 9 = .ok (.invokespecial 9, 3) := by decide +kernel
theorem dX6_init_12 : decode cX6_init 12 = .ok (.putfield 10, 3) := by decide +kernel
theorem dX6_init_15 : decode cX6_init 15 = .ok (.aload_n 0, 1) := by decide +kernel
theorem dX6_init_16 : decode cX6_init 16 = .ok (.new 16, 3) := by decide +kernel
theorem dX6_init_19 : decode cX6_init 19 = .ok (.dup, 1) := by decide +kernel
theorem dX6_init_20 : decode cX6_init 20 = .ok (.invokespecial 18, 3) := by decide +kernel
theorem dX6_init_23 : decode cX6_init 23 = .ok (.putfield 19, 3) := by decide +kernel
theorem dX6_init_26 : decode cX6_init 26 = .ok (.aload_n 0, 1) := by decide +kernel
theorem dX6_init_27 : decode cX6_init 27 = .ok (.new 16, 3) := by decide +kernel
theorem dX6_init_30 : decode cX6_init 30 = .ok (.dup, 1) := by decide +kernel
theorem dX6_init_31 : decode cX6_init 31 = .ok (.invokespecial 18, 3) := by decide +kernel
theorem dX6_init_34 : decode cX6_init 34 = .ok (.putfield 23, 3) := by decide +kernel
theorem dX6_init_37 : decode cX6_init 37 = .ok (.aload_n 0, 1) := by decide +kernel
theorem dX6_init_38 : decode cX6_init 38 = .ok (.iconst 2, 1) := by decide +kernel
theorem dX6_init_39 : decode cX6_init 39 = .ok (.anewarray 16, 3) := by decide +kernel
theorem dX6_init_42 : decode cX6_init 42 = .ok (.putfield 26, 3) := by decide +kernel
theorem dX6_init_45 : decode cX6_init 45 = .ok (.iconst 0, 1) := by decide +kernel
theorem dX6_init_46 : decode cX6_init 46 = .ok (.istore_n 1, 1) := by decide +kernel
theorem dX6_init_47 : decode cX6_init 47 = .ok (.iload_n 1, 1) := by decide +kernel
theorem dX6_init_48 : decode cX6_init 48 = .ok (.iconst 2, 1) := by decide +kernel
theorem dX6_init_49 : decode cX6_init 49 = .ok (.if_icmp .ge 22, 3) := by decide +kernel
theorem dX6_init_52 : decode cX6_init 52 = .ok (.aload_n 0, 1) := by decide +kernel
theorem dX6_init_53 : decode cX6_init 53 = .ok (.getfield 26, 3) := by decide +kernel
theorem dX6_init_56 : decode cX6_init 56 = .ok (.iload_n 1, 1) := by decide +kernel
theorem dX6_init_57 : decode cX6_init 57 = .ok (.new 16, 3) := by decide +kernel
theorem dX6_init_60 : decode cX6_init 60 = .ok (.dup, 1) := by decide +kernel
theorem dX6_init_61 : decode cX6_init 61 = .ok (.invokespecial 18, 3) := by decide +kernel
theorem dX6_init_64 : decode cX6_init 64 = .ok (.aastore, 1) := by decide +kernel
theorem dX6_init_65 : decode cX6_init 65 = .ok (.iinc 1 1, 3) := by decide +kernel
theorem dX6_init_68 : decode cX6_init 68 = .ok (.goto (-21), 3) := by decide +kernel
theorem dX6_init_71 : decode cX6_init 71 = .ok (.aload_n 0, 1) := by decide +kernel
theorem dX6_init_72 : decode cX6_init 72 = .ok (.iconst 0, 1) := by decide +kernel
theorem dX6_init_73 : decode cX6_init 73 = .ok (.putfield 30, 3) := by decide +kernel
theorem dX6_init_76 : decode cX6_init 76 = .ok (.aload_n 0, 1) := by decide +kernel
theorem dX6_init_77 : decode cX6_init 77 = .ok (.new 34, 3) := by decide +kernel
theorem dX6_init_80 : decode cX6_init 80 = .ok (.dup, 1) := by decide +kernel
theorem dX6_init_81 : decode cX6_init 81 = .ok (.invokespecial 36, 3) := by decide +kernel
theorem dX6_init_84 : decode cX6_init 84 = .ok (.putfield 37, 3) := by decide +kernel
theorem dX6_init_87 : decode cX6_init 87 = .ok (.aload_n 0, 1) := by decide +kernel
theorem dX6_init_88 : decode cX6_init 88 = .ok (.new 41, 3) := by decide +kernel
theorem dX6_init_91 : decode cX6_init 91 = .ok (.dup, 1) := by decide +kernel
theorem dX6_init_92 : decode cX6_init 92 = .ok (.invokespecial 43, 3) := by decide +kernel
theorem dX6_init_95 : decode cX6_init 95 = .ok (.putfield 44, 3) := by decide +kernel
theorem dX6_init_98 : decode cX6_init 98 = .ok (.aload_n 0, 1) := by decide +kernel
theorem dX6_init_99 : decode cX6_init 99 = .ok (.new 48, 3) := by decide +kernel
theorem dX6_init_102 : decode cX6_init 102 = .ok (.dup, 1) := by decide +kernel
theorem dX6_init_103 : decode cX6_init 103 = .ok (.invokespecial 50, 3) := by decide +kernel
theorem dX6_init_106 : decode cX6_init 106 = .ok (.putfield 51, 3) := by decide +kernel
theorem dX6_init_109 : decode cX6_init 109 = .ok (.aload_n 0, 1) := by decide +kernel
theorem dX6_init_110 : decode cX6_init 110 = .ok (.iconst 4, 1) := by decide +kernel
theorem dX6_init_111 : decode cX6_init 111 = .ok (.newarray .int, 2) := by decide +kernel
theorem dX6_init_113 : decode cX6_init 113 = .ok (.putfield 55, 3) := by decide +kernel
theorem dX6_init_116 : decode cX6_init 116 = .ok (.aload_n 0, 1) := by decide +kernel
theorem dX6_init_117 : decode cX6_init 117 = .ok (.bipush 6, 2) := by decide +kernel
theorem dX6_init_119 : decode cX6_init 119 = .ok (.newarray .int, 2) := by decide +kernel
theorem dX6_init_121 : decode cX6_init 121 = .ok (.putfield 59, 3) := by decide +kernel
theorem dX6_init_124 : decode cX6_init 124 = .ok (.aload_n 0, 1) := by decide +kernel
theorem dX6_init_125 : decode cX6_init 125 = .ok (.iconst 0, 1) := by decide +kernel
theorem dX6_init_126 : decode cX6_init 126 = .ok (.putfield 62, 3) := by decide +kernel
theorem dX6_init_129 : decode cX6_init 129 = .ok (.return_, 1) := by decide +kernel
theorem dX6_type_0 : decode cX6_type 0 = .ok (.iload_n 1, 1) := by decide +kernel
theorem dX6_type_1 : decode cX6_type 1 = .ok (.ifCond .lt 10, 3) := by decide +kernel
theorem dX6_type_4 : decode cX6_type 4 = .ok (.iload_n 1, 1) := by decide +kernel
theorem dX6_type_5 : decode cX6_type 5 = .ok (.sipush 255, 3) := by decide +kernel
theorem dX6_type_8 : decode cX6_type 8 = .ok (.if_icmp .le 5, 3) := by decide +kernel
theorem dX6_type_11 : decode cX6_type 11 = .ok (.iconst (-1), 1) := by decide +kernel
theorem dX6_type_12 : decode cX6_type 12 = .ok (.ireturn, 1) := by decide +kernel
theorem dX6_type_13 : decode cX6_type 13 = .ok (.aload_n 0, 1) := by decide +kernel
theorem dX6_type_14 : decode cX6_type 14 = .ok (.getfield 10, 3) := by decide +kernel
theorem dX6_type_17 : decode cX6_type 17 = .ok (.iload_n 1, 1) := by decide +kernel
theorem dX6_type_18 : decode cX6_type 18 = .ok (.invokevirtual 65, 3) := by decide +kernel
theorem dX6_type_21 : decode cX6_type 21 = .ok (.ifCond .eq 13, 3) := by decide +kernel
theorem dX6_type_24 : decode cX6_type 24 = .ok (.aload_n 0, 1) := by decide +kernel
theorem dX6_type_25 : decode cX6_type 25 = .ok (.getfield 10, 3) := by decide +kernel
theorem dX6_type_28 : decode cX6_type 28 = .ok (.getfield 69, 3) := by decide +kernel
theorem dX6_type_31 : decode cX6_type 31 = .ok (.goto 5, 3) := by decide +kernel
theorem dX6_type_34 : decode cX6_type 34 = .ok (.bipush (-3), 2) := by decide +kernel
theorem dX6_type_36 : decode cX6_type 36 = .ok (.ireturn, 1) := by decide +kernel
theorem dX6_clear_0 : decode cX6_clear 0 = .ok (.aload_n 0, 1) := by decide +kernel
theorem dX6_clear_1 : decode cX6_clear 1 = .ok (.getfield 10, 3) := by decide +kernel
theorem dX6_clear_4 : decode cX6_clear 4 = .ok (.getfield 69, 3) := by decide +kernel
theorem dX6_clear_7 : decode cX6_clear 7 = .ok (.istore_n 1, 1) := by decide +kernel
theorem dX6_clear_8 : decode cX6_clear 8 = .ok (.aload_n 0, 1) := by decide +kernel
theorem dX6_clear_9 : decode cX6_clear 9 = .ok (.getfield 10, 3) := by decide +kernel
theorem dX6_clear_12 : decode cX6_clear 12 = .ok (.iconst 0, 1) := by decide +kernel
theorem dX6_clear_13 : decode cX6_clear 13 = .ok (.putfield 69, 3) := by decide +kernel
theorem dX6_clear_16 : decode cX6_clear 16 = .ok (.iload_n 1, 1) := by decide +kernel
theorem dX6_clear_17 : decode cX6_clear 17 = .ok (.ireturn, 1) := by decide +kernel
theorem dX6_houses_0 : decode cX6_houses 0 = .ok (.aload_n 0, 1) := by decide +kernel
theorem dX6_houses_1 : decode cX6_houses 1 = .ok (.getfield 10, 3) := by decide +kernel
theorem dX6_houses_4 : decode cX6_houses 4 = .ok (.aload_n 0, 1) := by decide +kernel
theorem dX6_houses_5 : decode cX6_houses 5 = .ok (.getfield 23, 3) := by decide +kernel
theorem dX6_houses_8 : decode cX6_houses 8 = .ok (.invokevirtual 72, 3) := by decide +kernel
theorem dX6_houses_11 : decode cX6_houses 11 = .ok (.istore_n 1, 1) := by decide +kernel
theorem dX6_houses_12 : decode cX6_houses 12 = .ok (.iload_n 1, 1) := by decide +kernel
theorem dX6_houses_13 : decode cX6_houses 13 = .ok (.ifCond .ge 5, 3) := by decide +kernel
theorem dX6_houses_16 : decode cX6_houses 16 = .ok (.iload_n 1, 1) := by decide +kernel
theorem dX6_houses_17 : decode cX6_houses 17 = .ok (.ireturn, 1) := by decide +kernel
theorem dX6_houses_18 : decode cX6_houses 18 = .ok (.aload_n 0, 1) := by decide +kernel
theorem dX6_houses_19 : decode cX6_houses 19 = .ok (.getfield 19, 3) := by decide +kernel
theorem dX6_houses_22 : decode cX6_houses 22 = .ok (.aload_n 0, 1) := by decide +kernel
theorem dX6_houses_23 : decode cX6_houses 23 = .ok (.getfield 23, 3) := by decide +kernel
theorem dX6_houses_26 : decode cX6_houses 26 = .ok (.invokevirtual 76, 3) := by decide +kernel
theorem dX6_houses_29 : decode cX6_houses 29 = .ok (.aload_n 0, 1) := by decide +kernel
theorem dX6_houses_30 : decode cX6_houses 30 = .ok (.getfield 10, 3) := by decide +kernel
theorem dX6_houses_33 : decode cX6_houses 33 = .ok (.iconst 0, 1) := by decide +kernel
theorem dX6_houses_34 : decode cX6_houses 34 = .ok (.putfield 69, 3) := by decide +kernel
theorem dX6_houses_37 : decode cX6_houses 37 = .ok (.aload_n 0, 1) := by decide +kernel
theorem dX6_houses_38 : decode cX6_houses 38 = .ok (.iconst 0, 1) := by decide +kernel
theorem dX6_houses_39 : decode cX6_houses 39 = .ok (.putfield 30, 3) := by decide +kernel
theorem dX6_houses_42 : decode cX6_houses 42 = .ok (.aload_n 0, 1) := by decide +kernel
theorem dX6_houses_43 : decode cX6_houses 43 = .ok (.getfield 37, 3) := by decide +kernel
theorem dX6_houses_46 : decode cX6_houses 46 = .ok (.iconst 0, 1) := by decide +kernel
theorem dX6_houses_47 : decode cX6_houses 47 = .ok (.putfield 80, 3) := by decide +kernel
theorem dX6_houses_50 : decode cX6_houses 50 = .ok (.aload_n 0, 1) := by decide +kernel
theorem dX6_houses_51 : decode cX6_houses 51 = .ok (.iconst 0, 1) := by decide +kernel
theorem dX6_houses_52 : decode cX6_houses 52 = .ok (.putfield 62, 3) := by decide +kernel
theorem dX6_houses_55 : decode cX6_houses 55 = .ok (.iload_n 1, 1) := by decide +kernel
theorem dX6_houses_56 : decode cX6_houses 56 = .ok (.ireturn, 1) := by decide +kernel
theorem dX6_entry_0 : decode cX6_entry 0 = .ok (.aload_n 0, 1) := by decide +kernel
theorem dX6_entry_1 : decode cX6_entry 1 = .ok (.getfield 19, 3) := by decide +kernel
theorem dX6_entry_4 : decode cX6_entry 4 = .ok (.iload_n 1, 1) := by decide +kernel
theorem dX6_entry_5 : decode cX6_entry 5 = .ok (.iload_n 2, 1) := by decide +kernel
theorem dX6_entry_6 : decode cX6_entry 6 = .ok (.invokevirtual 81, 3) := by decide +kernel
theorem dX6_entry_9 : decode cX6_entry 9 = .ok (.ifCond .ne 5, 3) := by decide +kernel
theorem dX6_entry_12 : decode cX6_entry 12 = .ok (.iconst (-1), 1) := by decide +kernel
theorem dX6_entry_13 : decode cX6_entry 13 = .ok (.ireturn, 1) := by decide +kernel
theorem dX6_entry_14 : decode cX6_entry 14 = .ok (.aload_n 0, 1) := by decide +kernel
theorem dX6_entry_15 : decode cX6_entry 15 = .ok (.getfield 19, 3) := by decide +kernel
theorem dX6_entry_18 : decode cX6_entry 18 = .ok (.getfield 85, 3) := by decide +kernel
theorem dX6_entry_21 : decode cX6_entry 21 = .ok (.iload_n 1, 1) := by decide +kernel
theorem dX6_entry_22 : decode cX6_entry 22 = .ok (.aaload, 1) := by decide +kernel
theorem dX6_entry_23 : decode cX6_entry 23 = .ok (.astore 4, 2) := by decide +kernel
theorem dX6_entry_25 : decode cX6_entry 25 = .ok (.iload_n 3, 1) := by decide +kernel
theorem dX6_entry_26 : decode cX6_entry 26 = .ok (.tableswitch 57 0 2 #[26, 34, 42], 26) := by decide +kernel
theorem dX6_entry_52 : decode cX6_entry 52 = .ok (.aload 4, 2) := by decide +kernel
theorem dX6_entry_54 : decode cX6_entry 54 = .ok (.getfield 89, 3) := by decide +kernel
theorem dX6_entry_57 : decode cX6_entry 57 = .ok (.iload_n 2, 1) := by decide +kernel
theorem dX6_entry_58 : decode cX6_entry 58 = .ok (.iaload, 1) := by decide +kernel
theorem dX6_entry_59 : decode cX6_entry 59 = .ok (.ireturn, 1) := by decide +kernel
theorem dX6_entry_60 : decode cX6_entry 60 = .ok (.aload 4, 2) := by decide +kernel
theorem dX6_entry_62 : decode cX6_entry 62 = .ok (.getfield 94, 3) := by decide +kernel
theorem dX6_entry_65 : decode cX6_entry 65 = .ok (.iload_n 2, 1) := by decide +kernel
theorem dX6_entry_66 : decode cX6_entry 66 = .ok (.iaload, 1) := by decide +kernel
theorem dX6_entry_67 : decode cX6_entry 67 = .ok (.ireturn, 1) := by decide +kernel
theorem dX6_entry_68 : decode cX6_entry 68 = .ok (.aload 4, 2) := by decide +kernel
theorem dX6_entry_70 : decode cX6_entry 70 = .ok (.iload_n 2, 1) := by decide +kernel
theorem dX6_entry_71 : decode cX6_entry 71 = .ok (.invokevirtual 97, 3) := by decide +kernel
theorem dX6_entry_74 : decode cX6_entry 74 = .ok (.ifCond .eq 7, 3) := by decide +kernel
theorem dX6_entry_77 : decode cX6_entry 77 = .ok (.iconst 1, 1) := by decide +kernel
theorem dX6_entry_78 : decode cX6_entry 78 = .ok (.goto 4, 3) := by decide +kernel
theorem dX6_entry_81 : decode cX6_entry 81 = .ok (.iconst 0, 1) := by decide +kernel
theorem dX6_entry_82 : decode cX6_entry 82 = .ok (.ireturn, 1) := by decide +kernel
theorem dX6_entry_83 : decode cX6_entry 83 = .ok (.iconst (-1), 1) := by decide +kernel
theorem dX6_entry_84 : decode cX6_entry 84 = .ok (.ireturn, 1) := by decide +kernel
theorem dX6_strikes_0 : decode cX6_strikes 0 = .ok (.aload_n 0, 1) := by decide +kernel
theorem dX6_strikes_1 : decode cX6_strikes 1 = .ok (.getfield 19, 3) := by decide +kernel
theorem dX6_strikes_4 : decode cX6_strikes 4 = .ok (.iload_n 1, 1) := by decide +kernel
theorem dX6_strikes_5 : decode cX6_strikes 5 = .ok (.iload_n 2, 1) := by decide +kernel
theorem dX6_strikes_6 : decode cX6_strikes 6 = .ok (.invokevirtual 81, 3) := by decide +kernel
theorem dX6_strikes_9 : decode cX6_strikes 9 = .ok (.ifCond .ne 5, 3) := by decide +kernel
theorem dX6_strikes_12 : decode cX6_strikes 12 = .ok (.iconst (-1), 1) := by decide +kernel
theorem dX6_strikes_13 : decode cX6_strikes 13 = .ok (.ireturn, 1) := by decide +kernel
theorem dX6_strikes_14 : decode cX6_strikes 14 = .ok (.aload_n 0, 1) := by decide +kernel
theorem dX6_strikes_15 : decode cX6_strikes 15 = .ok (.getfield 19, 3) := by decide +kernel
theorem dX6_strikes_18 : decode cX6_strikes 18 = .ok (.getfield 85, 3) := by decide +kernel
theorem dX6_strikes_21 : decode cX6_strikes 21 = .ok (.iload_n 1, 1) := by decide +kernel
theorem dX6_strikes_22 : decode cX6_strikes 22 = .ok (.aaload, 1) := by decide +kernel
theorem dX6_strikes_23 : decode cX6_strikes 23 = .ok (.astore_n 3, 1) := by decide +kernel
theorem dX6_strikes_24 : decode cX6_strikes 24 = .ok (.aload_n 0, 1) := by decide +kernel
theorem dX6_strikes_25 : decode cX6_strikes 25 = .ok (.getfield 37, 3) := by decide +kernel
theorem dX6_strikes_28 : decode cX6_strikes 28 = .ok (.iconst 0, 1) := by decide +kernel
theorem dX6_strikes_29 : decode cX6_strikes 29 = .ok (.iload_n 1, 1) := by decide +kernel
theorem dX6_strikes_30 : decode cX6_strikes 30 = .ok (.iload_n 2, 1) := by decide +kernel
theorem dX6_strikes_31 : decode cX6_strikes 31 = .ok (.iconst 0, 1) := by decide +kernel
theorem dX6_strikes_32 : decode cX6_strikes 32 = .ok (.invokevirtual 100, 3) := by decide +kernel
theorem dX6_strikes_35 : decode cX6_strikes 35 = .ok (.aload_n 3, 1) := by decide +kernel
theorem dX6_strikes_36 : decode cX6_strikes 36 = .ok (.iload_n 2, 1) := by decide +kernel
theorem dX6_strikes_37 : decode cX6_strikes 37 = .ok (.invokevirtual 104, 3) := by decide +kernel
theorem dX6_strikes_40 : decode cX6_strikes 40 = .ok (.aload_n 3, 1) := by decide +kernel
theorem dX6_strikes_41 : decode cX6_strikes 41 = .ok (.iload_n 2, 1) := by decide +kernel
theorem dX6_strikes_42 : decode cX6_strikes 42 = .ok (.invokevirtual 97, 3) := by decide +kernel
theorem dX6_strikes_45 : decode cX6_strikes 45 = .ok (.ifCond .eq 7, 3) := by decide +kernel
theorem dX6_strikes_48 : decode cX6_strikes 48 = .ok (.iconst 1, 1) := by decide +kernel
theorem dX6_strikes_49 : decode cX6_strikes 49 = .ok (.goto 4, 3) := by decide +kernel
theorem dX6_strikes_52 : decode cX6_strikes 52 = .ok (.iconst 0, 1) := by decide +kernel
theorem dX6_strikes_53 : decode cX6_strikes 53 = .ok (.ireturn, 1) := by decide +kernel
end
section
theorem dX6_tells_0 : decode cX6_tells 0 = .ok (.aload_n 0, 1) := by decide +kernel
theorem dX6_tells_1 : decode cX6_tells 1 = .ok (.getfield 19, 3) := by decide +kernel
theorem dX6_tells_4 : decode cX6_tells 4 = .ok (.iload_n 1, 1) := by decide +kernel
theorem dX6_tells_5 : decode cX6_tells 5 = .ok (.iload_n 2, 1) := by decide +kernel
theorem dX6_tells_6 : decode cX6_tells 6 = .ok (.invokevirtual 81, 3) := by decide +kernel
theorem dX6_tells_9 : decode cX6_tells 9 = .ok (.ifCond .eq 13, 3) := by decide +kernel
theorem dX6_tells_12 : decode cX6_tells 12 = .ok (.iload_n 3, 1) := by decide +kernel
theorem dX6_tells_13 : decode cX6_tells 13 = .ok (.ifCond .lt 9, 3) := by decide +kernel
theorem dX6_tells_16 : decode cX6_tells 16 = .ok (.iload_n 3, 1) := by decide +kernel
theorem dX6_tells_17 : decode cX6_tells 17 = .ok (.bipush 99, 2) := by decide +kernel
theorem dX6_tells_19 : decode cX6_tells 19 = .ok (.if_icmp .le 5, 3) := by decide +kernel
theorem dX6_tells_22 : decode cX6_tells 22 = .ok (.iconst (-1), 1) := by decide +kernel
theorem dX6_tells_23 : decode cX6_tells 23 = .ok (.ireturn, 1) := by decide +kernel
theorem dX6_tells_24 : decode cX6_tells 24 = .ok (.aload_n 0, 1) := by decide +kernel
theorem dX6_tells_25 : decode cX6_tells 25 = .ok (.getfield 19, 3) := by decide +kernel
theorem dX6_tells_28 : decode cX6_tells 28 = .ok (.getfield 85, 3) := by decide +kernel
theorem dX6_tells_31 : decode cX6_tells 31 = .ok (.iload_n 1, 1) := by decide +kernel
theorem dX6_tells_32 : decode cX6_tells 32 = .ok (.aaload, 1) := by decide +kernel
theorem dX6_tells_33 : decode cX6_tells 33 = .ok (.astore 4, 2) := by decide +kernel
theorem dX6_tells_35 : decode cX6_tells 35 = .ok (.aload 4, 2) := by decide +kernel
theorem dX6_tells_37 : decode cX6_tells 37 = .ok (.getfield 94, 3) := by decide +kernel
theorem dX6_tells_40 : decode cX6_tells 40 = .ok (.iload_n 2, 1) := by decide +kernel
theorem dX6_tells_41 : decode cX6_tells 41 = .ok (.iaload, 1) := by decide +kernel
theorem dX6_tells_42 : decode cX6_tells 42 = .ok (.istore 5, 2) := by decide +kernel
theorem dX6_tells_44 : decode cX6_tells 44 = .ok (.iload_n 3, 1) := by decide +kernel
theorem dX6_tells_45 : decode cX6_tells 45 = .ok (.iload 5, 2) := by decide +kernel
theorem dX6_tells_47 : decode cX6_tells 47 = .ok (.if_icmp .eq 13, 3) := by decide +kernel
theorem dX6_tells_50 : decode cX6_tells 50 = .ok (.aload 4, 2) := by decide +kernel
theorem dX6_tells_52 : decode cX6_tells 52 = .ok (.iload_n 2, 1) := by decide +kernel
theorem dX6_tells_53 : decode cX6_tells 53 = .ok (.iload_n 3, 1) := by decide +kernel
theorem dX6_tells_54 : decode cX6_tells 54 = .ok (.invokevirtual 108, 3) := by decide +kernel
theorem dX6_tells_57 : decode cX6_tells 57 = .ok (.ifCond .ne 6, 3) := by decide +kernel
theorem dX6_tells_60 : decode cX6_tells 60 = .ok (.bipush (-2), 2) := by decide +kernel
theorem dX6_tells_62 : decode cX6_tells 62 = .ok (.ireturn, 1) := by decide +kernel
theorem dX6_tells_63 : decode cX6_tells 63 = .ok (.aload_n 0, 1) := by decide +kernel
theorem dX6_tells_64 : decode cX6_tells 64 = .ok (.getfield 37, 3) := by decide +kernel
theorem dX6_tells_67 : decode cX6_tells 67 = .ok (.iconst 1, 1) := by decide +kernel
theorem dX6_tells_68 : decode cX6_tells 68 = .ok (.iload_n 1, 1) := by decide +kernel
theorem dX6_tells_69 : decode cX6_tells 69 = .ok (.iload_n 2, 1) := by decide +kernel
theorem dX6_tells_70 : decode cX6_tells 70 = .ok (.iload 5, 2) := by decide +kernel
theorem dX6_tells_72 : decode cX6_tells 72 = .ok (.invokevirtual 100, 3) := by decide +kernel
theorem dX6_tells_75 : decode cX6_tells 75 = .ok (.aload 4, 2) := by decide +kernel
theorem dX6_tells_77 : decode cX6_tells 77 = .ok (.getfield 94, 3) := by decide +kernel
theorem dX6_tells_80 : decode cX6_tells 80 = .ok (.iload_n 2, 1) := by decide +kernel
theorem dX6_tells_81 : decode cX6_tells 81 = .ok (.iload_n 3, 1) := by decide +kernel
theorem dX6_tells_82 : decode cX6_tells 82 = .ok (.iastore, 1) := by decide +kernel
theorem dX6_tells_83 : decode cX6_tells 83 = .ok (.iload 5, 2) := by decide +kernel
theorem dX6_tells_85 : decode cX6_tells 85 = .ok (.ireturn, 1) := by decide +kernel
theorem dX6_slacks_0 : decode cX6_slacks 0 = .ok (.iload_n 1, 1) := by decide +kernel
theorem dX6_slacks_1 : decode cX6_slacks 1 = .ok (.ifCond .lt 9, 3) := by decide +kernel
theorem dX6_slacks_4 : decode cX6_slacks 4 = .ok (.iload_n 1, 1) := by decide +kernel
theorem dX6_slacks_5 : decode cX6_slacks 5 = .ok (.bipush 9, 2) := by decide +kernel
theorem dX6_slacks_7 : decode cX6_slacks 7 = .ok (.if_icmp .le 5, 3) := by decide +kernel
theorem dX6_slacks_10 : decode cX6_slacks 10 = .ok (.iconst (-1), 1) := by decide +kernel
theorem dX6_slacks_11 : decode cX6_slacks 11 = .ok (.ireturn, 1) := by decide +kernel
theorem dX6_slacks_12 : decode cX6_slacks 12 = .ok (.aload_n 0, 1) := by decide +kernel
theorem dX6_slacks_13 : decode cX6_slacks 13 = .ok (.getfield 19, 3) := by decide +kernel
theorem dX6_slacks_16 : decode cX6_slacks 16 = .ok (.getfield 111, 3) := by decide +kernel
theorem dX6_slacks_19 : decode cX6_slacks 19 = .ok (.istore_n 2, 1) := by decide +kernel
theorem dX6_slacks_20 : decode cX6_slacks 20 = .ok (.iload_n 1, 1) := by decide +kernel
theorem dX6_slacks_21 : decode cX6_slacks 21 = .ok (.iload_n 2, 1) := by decide +kernel
theorem dX6_slacks_22 : decode cX6_slacks 22 = .ok (.if_icmp .ne 6, 3) := by decide +kernel
theorem dX6_slacks_25 : decode cX6_slacks 25 = .ok (.bipush (-2), 2) := by decide +kernel
theorem dX6_slacks_27 : decode cX6_slacks 27 = .ok (.ireturn, 1) := by decide +kernel
theorem dX6_slacks_28 : decode cX6_slacks 28 = .ok (.aload_n 0, 1) := by decide +kernel
theorem dX6_slacks_29 : decode cX6_slacks 29 = .ok (.getfield 37, 3) := by decide +kernel
theorem dX6_slacks_32 : decode cX6_slacks 32 = .ok (.iconst 2, 1) := by decide +kernel
theorem dX6_slacks_33 : decode cX6_slacks 33 = .ok (.iconst 0, 1) := by decide +kernel
theorem dX6_slacks_34 : decode cX6_slacks 34 = .ok (.iconst 0, 1) := by decide +kernel
theorem dX6_slacks_35 : decode cX6_slacks 35 = .ok (.iload_n 2, 1) := by decide +kernel
theorem dX6_slacks_36 : decode cX6_slacks 36 = .ok (.invokevirtual 100, 3) := by decide +kernel
theorem dX6_slacks_39 : decode cX6_slacks 39 = .ok (.aload_n 0, 1) := by decide +kernel
theorem dX6_slacks_40 : decode cX6_slacks 40 = .ok (.getfield 19, 3) := by decide +kernel
theorem dX6_slacks_43 : decode cX6_slacks 43 = .ok (.iload_n 1, 1) := by decide +kernel
theorem dX6_slacks_44 : decode cX6_slacks 44 = .ok (.putfield 111, 3) := by decide +kernel
theorem dX6_slacks_47 : decode cX6_slacks 47 = .ok (.iload_n 2, 1) := by decide +kernel
theorem dX6_slacks_48 : decode cX6_slacks 48 = .ok (.ireturn, 1) := by decide +kernel
theorem dX6_undo_0 : decode cX6_undo 0 = .ok (.aload_n 0, 1) := by decide +kernel
theorem dX6_undo_1 : decode cX6_undo 1 = .ok (.getfield 37, 3) := by decide +kernel
theorem dX6_undo_4 : decode cX6_undo 4 = .ok (.getfield 80, 3) := by decide +kernel
theorem dX6_undo_7 : decode cX6_undo 7 = .ok (.ifCond .ne 6, 3) := by decide +kernel
theorem dX6_undo_10 : decode cX6_undo 10 = .ok (.bipush (-2), 2) := by decide +kernel
theorem dX6_undo_12 : decode cX6_undo 12 = .ok (.ireturn, 1) := by decide +kernel
theorem dX6_undo_13 : decode cX6_undo 13 = .ok (.aload_n 0, 1) := by decide +kernel
theorem dX6_undo_14 : decode cX6_undo 14 = .ok (.getfield 37, 3) := by decide +kernel
theorem dX6_undo_17 : decode cX6_undo 17 = .ok (.aload_n 0, 1) := by decide +kernel
theorem dX6_undo_18 : decode cX6_undo 18 = .ok (.getfield 19, 3) := by decide +kernel
theorem dX6_undo_21 : decode cX6_undo 21 = .ok (.invokevirtual 114, 3) := by decide +kernel
theorem dX6_undo_24 : decode cX6_undo 24 = .ok (.aload_n 0, 1) := by decide +kernel
theorem dX6_undo_25 : decode cX6_undo 25 = .ok (.getfield 37, 3) := by decide +kernel
theorem dX6_undo_28 : decode cX6_undo 28 = .ok (.getfield 80, 3) := by decide +kernel
theorem dX6_undo_31 : decode cX6_undo 31 = .ok (.ireturn, 1) := by decide +kernel
theorem dX6_span_0 : decode cX6_span 0 = .ok (.aload_n 0, 1) := by decide +kernel
theorem dX6_span_1 : decode cX6_span 1 = .ok (.getfield 19, 3) := by decide +kernel
theorem dX6_span_4 : decode cX6_span 4 = .ok (.iload_n 1, 1) := by decide +kernel
theorem dX6_span_5 : decode cX6_span 5 = .ok (.invokevirtual 117, 3) := by decide +kernel
theorem dX6_span_8 : decode cX6_span 8 = .ok (.ifCond .eq 24, 3) := by decide +kernel
theorem dX6_span_11 : decode cX6_span 11 = .ok (.aload_n 0, 1) := by decide +kernel
theorem dX6_span_12 : decode cX6_span 12 = .ok (.getfield 19, 3) := by decide +kernel
theorem dX6_span_15 : decode cX6_span 15 = .ok (.iload_n 2, 1) := by decide +kernel
theorem dX6_span_16 : decode cX6_span 16 = .ok (.invokevirtual 117, 3) := by decide +kernel
theorem dX6_span_19 : decode cX6_span 19 = .ok (.ifCond .eq 13, 3) := by decide +kernel
theorem dX6_span_22 : decode cX6_span 22 = .ok (.iload_n 1, 1) := by decide +kernel
theorem dX6_span_23 : decode cX6_span 23 = .ok (.iload_n 2, 1) := by decide +kernel
theorem dX6_span_24 : decode cX6_span 24 = .ok (.if_icmp .eq 8, 3) := by decide +kernel
theorem dX6_span_27 : decode cX6_span 27 = .ok (.iload_n 3, 1) := by decide +kernel
theorem dX6_span_28 : decode cX6_span 28 = .ok (.iconst (-1), 1) := by decide +kernel
theorem dX6_span_29 : decode cX6_span 29 = .ok (.if_icmp .ge 6, 3) := by decide +kernel
theorem dX6_span_32 : decode cX6_span 32 = .ok (.ldc 120, 2) := by decide +kernel
theorem dX6_span_34 : decode cX6_span 34 = .ok (.ireturn, 1) := by decide +kernel
theorem dX6_span_35 : decode cX6_span 35 = .ok (.aload_n 0, 1) := by decide +kernel
theorem dX6_span_36 : decode cX6_span 36 = .ok (.getfield 44, 3) := by decide +kernel
theorem dX6_span_39 : decode cX6_span 39 = .ok (.aload_n 0, 1) := by decide +kernel
theorem dX6_span_40 : decode cX6_span 40 = .ok (.getfield 19, 3) := by decide +kernel
theorem dX6_span_43 : decode cX6_span 43 = .ok (.getfield 85, 3) := by decide +kernel
theorem dX6_span_46 : decode cX6_span 46 = .ok (.iload_n 1, 1) := by decide +kernel
theorem dX6_span_47 : decode cX6_span 47 = .ok (.aaload, 1) := by decide +kernel
theorem dX6_span_48 : decode cX6_span 48 = .ok (.aload_n 0, 1) := by decide +kernel
theorem dX6_span_49 : decode cX6_span 49 = .ok (.getfield 19, 3) := by decide +kernel
theorem dX6_span_52 : decode cX6_span 52 = .ok (.getfield 85, 3) := by decide +kernel
theorem dX6_span_55 : decode cX6_span 55 = .ok (.iload_n 2, 1) := by decide +kernel
theorem dX6_span_56 : decode cX6_span 56 = .ok (.aaload, 1) := by decide +kernel
theorem dX6_span_57 : decode cX6_span 57 = .ok (.invokevirtual 121, 3) := by decide +kernel
theorem dX6_span_60 : decode cX6_span 60 = .ok (.iload_n 3, 1) := by decide +kernel
theorem dX6_span_61 : decode cX6_span 61 = .ok (.iconst (-1), 1) := by decide +kernel
theorem dX6_span_62 : decode cX6_span 62 = .ok (.if_icmp .ne 18, 3) := by decide +kernel
theorem dX6_span_65 : decode cX6_span 65 = .ok (.aload_n 0, 1) := by decide +kernel
theorem dX6_span_66 : decode cX6_span 66 = .ok (.getfield 44, 3) := by decide +kernel
theorem dX6_span_69 : decode cX6_span 69 = .ok (.aload_n 0, 1) := by decide +kernel
theorem dX6_span_70 : decode cX6_span 70 = .ok (.getfield 19, 3) := by decide +kernel
theorem dX6_span_73 : decode cX6_span 73 = .ok (.getfield 111, 3) := by decide +kernel
theorem dX6_span_76 : decode cX6_span 76 = .ok (.invokevirtual 125, 3) := by decide +kernel
theorem dX6_span_79 : decode cX6_span 79 = .ok (.ireturn, 1) := by decide +kernel
theorem dX6_span_80 : decode cX6_span 80 = .ok (.aload_n 0, 1) := by decide +kernel
theorem dX6_span_81 : decode cX6_span 81 = .ok (.getfield 44, 3) := by decide +kernel
theorem dX6_span_84 : decode cX6_span 84 = .ok (.iload_n 3, 1) := by decide +kernel
theorem dX6_span_85 : decode cX6_span 85 = .ok (.aload_n 0, 1) := by decide +kernel
theorem dX6_span_86 : decode cX6_span 86 = .ok (.getfield 19, 3) := by decide +kernel
theorem dX6_span_89 : decode cX6_span 89 = .ok (.getfield 111, 3) := by decide +kernel
theorem dX6_span_92 : decode cX6_span 92 = .ok (.invokevirtual 129, 3) := by decide +kernel
theorem dX6_span_95 : decode cX6_span 95 = .ok (.istore 5, 2) := by decide +kernel
theorem dX6_span_97 : decode cX6_span 97 = .ok (.iload 5, 2) := by decide +kernel
theorem dX6_span_99 : decode cX6_span 99 = .ok (.aload_n 0, 1) := by decide +kernel
theorem dX6_span_100 : decode cX6_span 100 = .ok (.getfield 44, 3) := by decide +kernel
theorem dX6_span_103 : decode cX6_span 103 = .ok (.getfield 133, 3) := by decide +kernel
theorem dX6_span_106 : decode cX6_span 106 = .ok (.if_icmp .lt 6, 3) := by decide +kernel
theorem dX6_span_109 : decode cX6_span 109 = .ok (.ldc 120, 2) := by decide +kernel
theorem dX6_span_111 : decode cX6_span 111 = .ok (.ireturn, 1) := by decide +kernel
theorem dX6_span_112 : decode cX6_span 112 = .ok (.aload_n 0, 1) := by decide +kernel
theorem dX6_span_113 : decode cX6_span 113 = .ok (.getfield 44, 3) := by decide +kernel
theorem dX6_span_116 : decode cX6_span 116 = .ok (.iload 5, 2) := by decide +kernel
theorem dX6_span_118 : decode cX6_span 118 = .ok (.aload_n 0, 1) := by decide +kernel
theorem dX6_span_119 : decode cX6_span 119 = .ok (.getfield 19, 3) := by decide +kernel
theorem dX6_span_122 : decode cX6_span 122 = .ok (.getfield 111, 3) := by decide +kernel
theorem dX6_span_125 : decode cX6_span 125 = .ok (.invokevirtual 134, 3) := by decide +kernel
theorem dX6_span_128 : decode cX6_span 128 = .ok (.istore 6, 2) := by decide +kernel
theorem dX6_span_130 : decode cX6_span 130 = .ok (.iload 4, 2) := by decide +kernel
theorem dX6_span_132 : decode cX6_span 132 = .ok (.tableswitch 74 0 3 #[32, 43, 56, 62], 32) := by decide +kernel
theorem dX6_span_164 : decode cX6_span 164 = .ok (.aload_n 0, 1) := by decide +kernel
theorem dX6_span_165 : decode cX6_span 165 = .ok (.getfield 44, 3) := by decide +kernel
theorem dX6_span_168 : decode cX6_span 168 = .ok (.getfield 137, 3) := by decide +kernel
theorem dX6_span_171 : decode cX6_span 171 = .ok (.iload 5, 2) := by decide +kernel
theorem dX6_span_173 : decode cX6_span 173 = .ok (.iaload, 1) := by decide +kernel
theorem dX6_span_174 : decode cX6_span 174 = .ok (.ireturn, 1) := by decide +kernel
theorem dX6_span_175 : decode cX6_span 175 = .ok (.aload_n 0, 1) := by decide +kernel
theorem dX6_span_176 : decode cX6_span 176 = .ok (.getfield 44, 3) := by decide +kernel
theorem dX6_span_179 : decode cX6_span 179 = .ok (.getfield 137, 3) := by decide +kernel
theorem dX6_span_182 : decode cX6_span 182 = .ok (.iload 6, 2) := by decide +kernel
theorem dX6_span_184 : decode cX6_span 184 = .ok (.iconst 1, 1) := by decide +kernel
theorem dX6_span_185 : decode cX6_span 185 = .ok (.isub, 1) := by decide +kernel
theorem dX6_span_186 : decode cX6_span 186 = .ok (.iaload, 1) := by decide +kernel
theorem dX6_span_187 : decode cX6_span 187 = .ok (.ireturn, 1) := by decide +kernel
theorem dX6_span_188 : decode cX6_span 188 = .ok (.iload 6, 2) := by decide +kernel
theorem dX6_span_190 : decode cX6_span 190 = .ok (.iload 5, 2) := by decide +kernel
theorem dX6_span_192 : decode cX6_span 192 = .ok (.isub, 1) := by decide +kernel
theorem dX6_span_193 : decode cX6_span 193 = .ok (.ireturn, 1) := by decide +kernel
theorem dX6_span_194 : decode cX6_span 194 = .ok (.aload_n 0, 1) := by decide +kernel
theorem dX6_span_195 : decode cX6_span 195 = .ok (.getfield 44, 3) := by decide +kernel
theorem dX6_span_198 : decode cX6_span 198 = .ok (.iload 5, 2) := by decide +kernel
theorem dX6_span_200 : decode cX6_span 200 = .ok (.iload 6, 2) := by decide +kernel
theorem dX6_span_202 : decode cX6_span 202 = .ok (.invokevirtual 138, 3) := by decide +kernel
theorem dX6_span_205 : decode cX6_span 205 = .ok (.ireturn, 1) := by decide +kernel
theorem dX6_span_206 : decode cX6_span 206 = .ok (.ldc 120, 2) := by decide +kernel
theorem dX6_span_208 : decode cX6_span 208 = .ok (.ireturn, 1) := by decide +kernel
theorem dX6_shift_0 : decode cX6_shift 0 = .ok (.aload_n 0, 1) := by decide +kernel
theorem dX6_shift_1 : decode cX6_shift 1 = .ok (.getfield 19, 3) := by decide +kernel
theorem dX6_shift_4 : decode cX6_shift 4 = .ok (.iload_n 1, 1) := by decide +kernel
theorem dX6_shift_5 : decode cX6_shift 5 = .ok (.invokevirtual 117, 3) := by decide +kernel
theorem dX6_shift_8 : decode cX6_shift 8 = .ok (.ifCond .ne 6, 3) := by decide +kernel
theorem dX6_shift_11 : decode cX6_shift 11 = .ok (.ldc 120, 2) := by decide +kernel
theorem dX6_shift_13 : decode cX6_shift 13 = .ok (.ireturn, 1) := by decide +kernel
theorem dX6_shift_14 : decode cX6_shift 14 = .ok (.iload_n 2, 1) := by decide +kernel
theorem dX6_shift_15 : decode cX6_shift 15 = .ok (.tableswitch 43 0 2 #[25, 31, 37], 25) := by decide +kernel
theorem dX6_shift_40 : decode cX6_shift 40 = .ok (.aload_n 0, 1) := by decide +kernel
theorem dX6_shift_41 : decode cX6_shift 41 = .ok (.iload_n 1, 1) := by decide +kernel
theorem dX6_shift_42 : decode cX6_shift 42 = .ok (.invokevirtual 141, 3) := by decide +kernel
theorem dX6_shift_45 : decode cX6_shift 45 = .ok (.ireturn, 1) := by decide +kernel
theorem dX6_shift_46 : decode cX6_shift 46 = .ok (.aload_n 0, 1) := by decide +kernel
theorem dX6_shift_47 : decode cX6_shift 47 = .ok (.iload_n 1, 1) := by decide +kernel
theorem dX6_shift_48 : decode cX6_shift 48 = .ok (.invokevirtual 144, 3) := by decide +kernel
theorem dX6_shift_51 : decode cX6_shift 51 = .ok (.ireturn, 1) := by decide +kernel
theorem dX6_shift_52 : decode cX6_shift 52 = .ok (.aload_n 0, 1) := by decide +kernel
theorem dX6_shift_53 : decode cX6_shift 53 = .ok (.iload_n 1, 1) := by decide +kernel
theorem dX6_shift_54 : decode cX6_shift 54 = .ok (.invokevirtual 147, 3) := by decide +kernel
theorem dX6_shift_57 : decode cX6_shift 57 = .ok (.ireturn, 1) := by decide +kernel
theorem dX6_shift_58 : decode cX6_shift 58 = .ok (.ldc 120, 2) := by decide +kernel
theorem dX6_shift_60 : decode cX6_shift 60 = .ok (.ireturn, 1) := by decide +kernel
theorem dX6_measure_0 : decode cX6_measure 0 = .ok (.aload_n 0, 1) := by decide +kernel
theorem dX6_measure_1 : decode cX6_measure 1 = .ok (.getfield 19, 3) := by decide +kernel
theorem dX6_measure_4 : decode cX6_measure 4 = .ok (.iload_n 1, 1) := by decide +kernel
theorem dX6_measure_5 : decode cX6_measure 5 = .ok (.invokevirtual 117, 3) := by decide +kernel
theorem dX6_measure_8 : decode cX6_measure 8 = .ok (.ifCond .eq 12, 3) := by decide +kernel
theorem dX6_measure_11 : decode cX6_measure 11 = .ok (.iload_n 2, 1) := by decide +kernel
theorem dX6_measure_12 : decode cX6_measure 12 = .ok (.ifCond .lt 8, 3) := by decide +kernel
theorem dX6_measure_15 : decode cX6_measure 15 = .ok (.iload_n 2, 1) := by decide +kernel
theorem dX6_measure_16 : decode cX6_measure 16 = .ok (.iconst 5, 1) := by decide +kernel
theorem dX6_measure_17 : decode cX6_measure 17 = .ok (.if_icmp .lt 5, 3) := by decide +kernel
theorem dX6_measure_20 : decode cX6_measure 20 = .ok (.iconst (-1), 1) := by decide +kernel
theorem dX6_measure_21 : decode cX6_measure 21 = .ok (.ireturn, 1) := by decide +kernel
theorem dX6_measure_22 : decode cX6_measure 22 = .ok (.aload_n 0, 1) := by decide +kernel
theorem dX6_measure_23 : decode cX6_measure 23 = .ok (.iload_n 1, 1) := by decide +kernel
theorem dX6_measure_24 : decode cX6_measure 24 = .ok (.iload_n 2, 1) := by decide +kernel
theorem dX6_measure_25 : decode cX6_measure 25 = .ok (.invokevirtual 150, 3) := by decide +kernel
theorem dX6_measure_28 : decode cX6_measure 28 = .ok (.ireturn, 1) := by decide +kernel
theorem dX6_rank_0 : decode cX6_rank 0 = .ok (.iload_n 1, 1) := by decide +kernel
theorem dX6_rank_1 : decode cX6_rank 1 = .ok (.ifCond .lt 12, 3) := by decide +kernel
theorem dX6_rank_4 : decode cX6_rank 4 = .ok (.iload_n 1, 1) := by decide +kernel
theorem dX6_rank_5 : decode cX6_rank 5 = .ok (.iconst 5, 1) := by decide +kernel
theorem dX6_rank_6 : decode cX6_rank 6 = .ok (.if_icmp .ge 7, 3) := by decide +kernel
theorem dX6_rank_9 : decode cX6_rank 9 = .ok (.iload_n 2, 1) := by decide +kernel
theorem dX6_rank_10 : decode cX6_rank 10 = .ok (.ifCond .ge 5, 3) := by decide +kernel
theorem dX6_rank_13 : decode cX6_rank 13 = .ok (.iconst (-1), 1) := by decide +kernel
theorem dX6_rank_14 : decode cX6_rank 14 = .ok (.ireturn, 1) := by decide +kernel
theorem dX6_rank_15 : decode cX6_rank 15 = .ok (.iconst 0, 1) := by decide +kernel
theorem dX6_rank_16 : decode cX6_rank 16 = .ok (.istore_n 3, 1) := by decide +kernel
theorem dX6_rank_17 : decode cX6_rank 17 = .ok (.iload_n 3, 1) := by decide +kernel
theorem dX6_rank_18 : decode cX6_rank 18 = .ok (.aload_n 0, 1) := by decide +kernel
theorem dX6_rank_19 : decode cX6_rank 19 = .ok (.getfield 19, 3) := by decide +kernel
theorem dX6_rank_22 : decode cX6_rank 22 = .ok (.getfield 153, 3) := by decide +kernel
theorem dX6_rank_25 : decode cX6_rank 25 = .ok (.if_icmp .ge 21, 3) := by decide +kernel
theorem dX6_rank_28 : decode cX6_rank 28 = .ok (.aload_n 0, 1) := by decide +kernel
theorem dX6_rank_29 : decode cX6_rank 29 = .ok (.getfield 55, 3) := by decide +kernel
theorem dX6_rank_32 : decode cX6_rank 32 = .ok (.iload_n 3, 1) := by decide +kernel
theorem dX6_rank_33 : decode cX6_rank 33 = .ok (.aload_n 0, 1) := by decide +kernel
theorem dX6_rank_34 : decode cX6_rank 34 = .ok (.iload_n 3, 1) := by decide +kernel
theorem dX6_rank_35 : decode cX6_rank 35 = .ok (.iload_n 1, 1) := by decide +kernel
theorem dX6_rank_36 : decode cX6_rank 36 = .ok (.invokevirtual 150, 3) := by decide +kernel
theorem dX6_rank_39 : decode cX6_rank 39 = .ok (.iastore, 1) := by decide +kernel
theorem dX6_rank_40 : decode cX6_rank 40 = .ok (.iinc 3 1, 3) := by decide +kernel
theorem dX6_rank_43 : decode cX6_rank 43 = .ok (.goto (-26), 3) := by decide +kernel
theorem dX6_rank_46 : decode cX6_rank 46 = .ok (.iconst 0, 1) := by decide +kernel
theorem dX6_rank_47 : decode cX6_rank 47 = .ok (.istore_n 3, 1) := by decide +kernel
theorem dX6_rank_48 : decode cX6_rank 48 = .ok (.iload_n 3, 1) := by decide +kernel
theorem dX6_rank_49 : decode cX6_rank 49 = .ok (.aload_n 0, 1) := by decide +kernel
theorem dX6_rank_50 : decode cX6_rank 50 = .ok (.getfield 19, 3) := by decide +kernel
theorem dX6_rank_53 : decode cX6_rank 53 = .ok (.getfield 153, 3) := by decide +kernel
theorem dX6_rank_56 : decode cX6_rank 56 = .ok (.if_icmp .ge 20, 3) := by decide +kernel
theorem dX6_rank_59 : decode cX6_rank 59 = .ok (.aload_n 0, 1) := by decide +kernel
theorem dX6_rank_60 : decode cX6_rank 60 = .ok (.iload_n 3, 1) := by decide +kernel
theorem dX6_rank_61 : decode cX6_rank 61 = .ok (.invokevirtual 154, 3) := by decide +kernel
theorem dX6_rank_64 : decode cX6_rank 64 = .ok (.iload_n 2, 1) := by decide +kernel
theorem dX6_rank_65 : decode cX6_rank 65 = .ok (.if_icmp .ne 5, 3) := by decide +kernel
theorem dX6_rank_68 : decode cX6_rank 68 = .ok (.iload_n 3, 1) := by decide +kernel
theorem dX6_rank_69 : decode cX6_rank 69 = .ok (.ireturn, 1) := by decide +kernel
theorem dX6_rank_70 : decode cX6_rank 70 = .ok (.iinc 3 1, 3) := by decide +kernel
theorem dX6_rank_73 : decode cX6_rank 73 = .ok (.goto (-25), 3) := by decide +kernel
theorem dX6_rank_76 : decode cX6_rank 76 = .ok (.bipush (-9), 2) := by decide +kernel
theorem dX6_rank_78 : decode cX6_rank 78 = .ok (.ireturn, 1) := by decide +kernel
theorem dX6_event_0 : decode cX6_event 0 = .ok (.iload_n 1, 1) := by decide +kernel
theorem dX6_event_1 : decode cX6_event 1 = .ok (.invokestatic 157, 3) := by decide +kernel
theorem dX6_event_4 : decode cX6_event 4 = .ok (.ifCond .ne 5, 3) := by decide +kernel
theorem dX6_event_7 : decode cX6_event 7 = .ok (.iconst (-1), 1) := by decide +kernel
theorem dX6_event_8 : decode cX6_event 8 = .ok (.ireturn, 1) := by decide +kernel
theorem dX6_event_9 : decode cX6_event 9 = .ok (.aload_n 0, 1) := by decide +kernel
theorem dX6_event_10 : decode cX6_event 10 = .ok (.getfield 51, 3) := by decide +kernel
theorem dX6_event_13 : decode cX6_event 13 = .ok (.aload_n 0, 1) := by decide +kernel
theorem dX6_event_14 : decode cX6_event 14 = .ok (.getfield 19, 3) := by decide +kernel
theorem dX6_event_17 : decode cX6_event 17 = .ok (.iconst 0, 1) := by decide +kernel
theorem dX6_event_18 : decode cX6_event 18 = .ok (.invokevirtual 160, 3) := by decide +kernel
theorem dX6_event_21 : decode cX6_event 21 = .ok (.iload_n 2, 1) := by decide +kernel
theorem dX6_event_22 : decode cX6_event 22 = .ok (.tableswitch 71 0 3 #[30, 39, 49, 59], 30) := by decide +kernel
theorem dX6_event_52 : decode cX6_event 52 = .ok (.aload_n 0, 1) := by decide +kernel
theorem dX6_event_53 : decode cX6_event 53 = .ok (.getfield 19, 3) := by decide +kernel
theorem dX6_event_56 : decode cX6_event 56 = .ok (.iload_n 1, 1) := by decide +kernel
theorem dX6_event_57 : decode cX6_event 57 = .ok (.invokevirtual 164, 3) := by decide +kernel
theorem dX6_event_60 : decode cX6_event 60 = .ok (.ireturn, 1) := by decide +kernel
theorem dX6_event_61 : decode cX6_event 61 = .ok (.aload_n 0, 1) := by decide +kernel
theorem dX6_event_62 : decode cX6_event 62 = .ok (.getfield 51, 3) := by decide +kernel
theorem dX6_event_65 : decode cX6_event 65 = .ok (.getfield 167, 3) := by decide +kernel
theorem dX6_event_68 : decode cX6_event 68 = .ok (.iload_n 1, 1) := by decide +kernel
theorem dX6_event_69 : decode cX6_event 69 = .ok (.iaload, 1) := by decide +kernel
theorem dX6_event_70 : decode cX6_event 70 = .ok (.ireturn, 1) := by decide +kernel
theorem dX6_event_71 : decode cX6_event 71 = .ok (.aload_n 0, 1) := by decide +kernel
theorem dX6_event_72 : decode cX6_event 72 = .ok (.getfield 51, 3) := by decide +kernel
theorem dX6_event_75 : decode cX6_event 75 = .ok (.getfield 170, 3) := by decide +kernel
theorem dX6_event_78 : decode cX6_event 78 = .ok (.iload_n 1, 1) := by decide +kernel
theorem dX6_event_79 : decode cX6_event 79 = .ok (.iaload, 1) := by decide +kernel
theorem dX6_event_80 : decode cX6_event 80 = .ok (.ireturn, 1) := by decide +kernel
theorem dX6_event_81 : decode cX6_event 81 = .ok (.aload_n 0, 1) := by decide +kernel
theorem dX6_event_82 : decode cX6_event 82 = .ok (.getfield 51, 3) := by decide +kernel
theorem dX6_event_85 : decode cX6_event 85 = .ok (.invokevirtual 173, 3) := by decide +kernel
theorem dX6_event_88 : decode cX6_event 88 = .ok (.iload_n 1, 1) := by decide +kernel
theorem dX6_event_89 : decode cX6_event 89 = .ok (.ishr, 1) := by decide +kernel
theorem dX6_event_90 : decode cX6_event 90 = .ok (.iconst 1, 1) := by decide +kernel
theorem dX6_event_91 : decode cX6_event 91 = .ok (.iand, 1) := by decide +kernel
theorem dX6_event_92 : decode cX6_event 92 = .ok (.ireturn, 1) := by decide +kernel
theorem dX6_event_93 : decode cX6_event 93 = .ok (.iconst (-1), 1) := by decide +kernel
theorem dX6_event_94 : decode cX6_event 94 = .ok (.ireturn, 1) := by decide +kernel
theorem dX6_date_0 : decode cX6_date 0 = .ok (.iload_n 1, 1) := by decide +kernel
theorem dX6_date_1 : decode cX6_date 1 = .ok (.invokestatic 157, 3) := by decide +kernel
theorem dX6_date_4 : decode cX6_date 4 = .ok (.ifCond .eq 11, 3) := by decide +kernel
theorem dX6_date_7 : decode cX6_date 7 = .ok (.aload_n 0, 1) := by decide +kernel
theorem dX6_date_8 : decode cX6_date 8 = .ok (.iload_n 1, 1) := by decide +kernel
theorem dX6_date_9 : decode cX6_date 9 = .ok (.invokevirtual 177, 3) := by decide +kernel
theorem dX6_date_12 : decode cX6_date 12 = .ok (.goto 5, 3) := by decide +kernel
theorem dX6_date_15 : decode cX6_date 15 = .ok (.ldc 120, 2) := by decide +kernel
theorem dX6_date_17 : decode cX6_date 17 = .ok (.ireturn, 1) := by decide +kernel
theorem dX6_late_0 : decode cX6_late 0 = .ok (.iload_n 1, 1) := by decide +kernel
theorem dX6_late_1 : decode cX6_late 1 = .ok (.invokestatic 157, 3) := by decide +kernel
theorem dX6_late_4 : decode cX6_late 4 = .ok (.ifCond .eq 10, 3) := by decide +kernel
theorem dX6_late_7 : decode cX6_late 7 = .ok (.iload_n 2, 1) := by decide +kernel
theorem dX6_late_8 : decode cX6_late 8 = .ok (.invokestatic 157, 3) := by decide +kernel
theorem dX6_late_11 : decode cX6_late 11 = .ok (.ifCond .ne 6, 3) := by decide +kernel
theorem dX6_late_14 : decode cX6_late 14 = .ok (.ldc 120, 2) := by decide +kernel
theorem dX6_late_16 : decode cX6_late 16 = .ok (.ireturn, 1) := by decide +kernel
theorem dX6_late_17 : decode cX6_late 17 = .ok (.aload_n 0, 1) := by decide +kernel
theorem dX6_late_18 : decode cX6_late 18 = .ok (.iload_n 1, 1) := by decide +kernel
theorem dX6_late_19 : decode cX6_late 19 = .ok (.invokevirtual 177, 3) := by decide +kernel
theorem dX6_late_22 : decode cX6_late 22 = .ok (.istore_n 3, 1) := by decide +kernel
theorem dX6_late_23 : decode cX6_late 23 = .ok (.aload_n 0, 1) := by decide +kernel
theorem dX6_late_24 : decode cX6_late 24 = .ok (.iload_n 2, 1) := by decide +kernel
theorem dX6_late_25 : decode cX6_late 25 = .ok (.invokevirtual 177, 3) := by decide +kernel
theorem dX6_late_28 : decode cX6_late 28 = .ok (.istore 4, 2) := by decide +kernel
theorem dX6_late_30 : decode cX6_late 30 = .ok (.iload_n 3, 1) := by decide +kernel
theorem dX6_late_31 : decode cX6_late 31 = .ok (.ldc 120, 2) := by decide +kernel
theorem dX6_late_33 : decode cX6_late 33 = .ok (.if_icmp .eq 10, 3) := by decide +kernel
theorem dX6_late_36 : decode cX6_late 36 = .ok (.iload 4, 2) := by decide +kernel
theorem dX6_late_38 : decode cX6_late 38 = .ok (.ldc 120, 2) := by decide +kernel
theorem dX6_late_40 : decode cX6_late 40 = .ok (.if_icmp .ne 8, 3) := by decide +kernel
theorem dX6_late_43 : decode cX6_late 43 = .ok (.ldc 120, 2) := by decide +kernel
theorem dX6_late_45 : decode cX6_late 45 = .ok (.goto 7, 3) := by decide +kernel
theorem dX6_late_48 : decode cX6_late 48 = .ok (.iload_n 3, 1) := by decide +kernel
theorem dX6_late_49 : decode cX6_late 49 = .ok (.iload 4, 2) := by decide +kernel
theorem dX6_late_51 : decode cX6_late 51 = .ok (.isub, 1) := by decide +kernel
theorem dX6_late_52 : decode cX6_late 52 = .ok (.ireturn, 1) := by decide +kernel
theorem dX6_line_0 : decode cX6_line 0 = .ok (.iload_n 1, 1) := by decide +kernel
theorem dX6_line_1 : decode cX6_line 1 = .ok (.ifCond .ge 5, 3) := by decide +kernel
theorem dX6_line_4 : decode cX6_line 4 = .ok (.iconst (-1), 1) := by decide +kernel
theorem dX6_line_5 : decode cX6_line 5 = .ok (.ireturn, 1) := by decide +kernel
theorem dX6_line_6 : decode cX6_line 6 = .ok (.aload_n 0, 1) := by decide +kernel
theorem dX6_line_7 : decode cX6_line 7 = .ok (.getfield 51, 3) := by decide +kernel
theorem dX6_line_10 : decode cX6_line 10 = .ok (.aload_n 0, 1) := by decide +kernel
theorem dX6_line_11 : decode cX6_line 11 = .ok (.getfield 19, 3) := by decide +kernel
theorem dX6_line_14 : decode cX6_line 14 = .ok (.iconst 0, 1) := by decide +kernel
theorem dX6_line_15 : decode cX6_line 15 = .ok (.invokevirtual 160, 3) := by decide +kernel
theorem dX6_line_18 : decode cX6_line 18 = .ok (.aload_n 0, 1) := by decide +kernel
theorem dX6_line_19 : decode cX6_line 19 = .ok (.getfield 51, 3) := by decide +kernel
theorem dX6_line_22 : decode cX6_line 22 = .ok (.invokevirtual 173, 3) := by decide +kernel
theorem dX6_line_25 : decode cX6_line 25 = .ok (.ifCond .ne 21, 3) := by decide +kernel
theorem dX6_line_28 : decode cX6_line 28 = .ok (.aload_n 0, 1) := by decide +kernel
theorem dX6_line_29 : decode cX6_line 29 = .ok (.getfield 51, 3) := by decide +kernel
theorem dX6_line_32 : decode cX6_line 32 = .ok (.aload_n 0, 1) := by decide +kernel
theorem dX6_line_33 : decode cX6_line 33 = .ok (.getfield 19, 3) := by decide +kernel
theorem dX6_line_36 : decode cX6_line 36 = .ok (.invokevirtual 180, 3) := by decide +kernel
theorem dX6_line_39 : decode cX6_line 39 = .ok (.iload_n 1, 1) := by decide +kernel
theorem dX6_line_40 : decode cX6_line 40 = .ok (.invokevirtual 183, 3) := by decide +kernel
theorem dX6_line_43 : decode cX6_line 43 = .ok (.goto 5, 3) := by decide +kernel
theorem dX6_line_46 : decode cX6_line 46 = .ok (.bipush (-9), 2) := by decide +kernel
theorem dX6_line_48 : decode cX6_line 48 = .ok (.ireturn, 1) := by decide +kernel
theorem dX6_without_0 : decode cX6_without 0 = .ok (.iconst 1, 1) := by decide +kernel
theorem dX6_without_1 : decode cX6_without 1 = .ok (.aload_n 0, 1) := by decide +kernel
theorem dX6_without_2 : decode cX6_without 2 = .ok (.getfield 19, 3) := by decide +kernel
theorem dX6_without_5 : decode cX6_without 5 = .ok (.getfield 153, 3) := by decide +kernel
theorem dX6_without_8 : decode cX6_without 8 = .ok (.ishl, 1) := by decide +kernel
theorem dX6_without_9 : decode cX6_without 9 = .ok (.iconst 1, 1) := by decide +kernel
theorem dX6_without_10 : decode cX6_without 10 = .ok (.isub, 1) := by decide +kernel
theorem dX6_without_11 : decode cX6_without 11 = .ok (.istore_n 1, 1) := by decide +kernel
theorem dX6_without_12 : decode cX6_without 12 = .ok (.iconst 0, 1) := by decide +kernel
theorem dX6_without_13 : decode cX6_without 13 = .ok (.istore_n 2, 1) := by decide +kernel
theorem dX6_without_14 : decode cX6_without 14 = .ok (.iload_n 2, 1) := by decide +kernel
theorem dX6_without_15 : decode cX6_without 15 = .ok (.iconst 1, 1) := by decide +kernel
theorem dX6_without_16 : decode cX6_without 16 = .ok (.aload_n 0, 1) := by decide +kernel
theorem dX6_without_17 : decode cX6_without 17 = .ok (.getfield 19, 3) := by decide +kernel
theorem dX6_without_20 : decode cX6_without 20 = .ok (.getfield 153, 3) := by decide +kernel
theorem dX6_without_23 : decode cX6_without 23 = .ok (.ishl, 1) := by decide +kernel
theorem dX6_without_24 : decode cX6_without 24 = .ok (.if_icmp .ge 48, 3) := by decide +kernel
theorem dX6_without_27 : decode cX6_without 27 = .ok (.iload_n 2, 1) := by decide +kernel
theorem dX6_without_28 : decode cX6_without 28 = .ok (.invokestatic 186, 3) := by decide +kernel
theorem dX6_without_31 : decode cX6_without 31 = .ok (.iload_n 1, 1) := by decide +kernel
theorem dX6_without_32 : decode cX6_without 32 = .ok (.invokestatic 186, 3) := by decide +kernel
theorem dX6_without_35 : decode cX6_without 35 = .ok (.if_icmp .ge 31, 3) := by decide +kernel
theorem dX6_without_38 : decode cX6_without 38 = .ok (.aload_n 0, 1) := by decide +kernel
theorem dX6_without_39 : decode cX6_without 39 = .ok (.getfield 51, 3) := by decide +kernel
theorem dX6_without_42 : decode cX6_without 42 = .ok (.aload_n 0, 1) := by decide +kernel
theorem dX6_without_43 : decode cX6_without 43 = .ok (.getfield 19, 3) := by decide +kernel
theorem dX6_without_46 : decode cX6_without 46 = .ok (.iload_n 2, 1) := by decide +kernel
theorem dX6_without_47 : decode cX6_without 47 = .ok (.invokevirtual 160, 3) := by decide +kernel
theorem dX6_without_50 : decode cX6_without 50 = .ok (.aload_n 0, 1) := by decide +kernel
theorem dX6_without_51 : decode cX6_without 51 = .ok (.getfield 51, 3) := by decide +kernel
theorem dX6_without_54 : decode cX6_without 54 = .ok (.invokevirtual 173, 3) := by decide +kernel
theorem dX6_without_57 : decode cX6_without 57 = .ok (.ifCond .ne 7, 3) := by decide +kernel
theorem dX6_without_60 : decode cX6_without 60 = .ok (.iload_n 2, 1) := by decide +kernel
theorem dX6_without_61 : decode cX6_without 61 = .ok (.goto 4, 3) := by decide +kernel
theorem dX6_without_64 : decode cX6_without 64 = .ok (.iload_n 1, 1) := by decide +kernel
theorem dX6_without_65 : decode cX6_without 65 = .ok (.istore_n 1, 1) := by decide +kernel
theorem dX6_without_66 : decode cX6_without 66 = .ok (.iinc 2 1, 3) := by decide +kernel
theorem dX6_without_69 : decode cX6_without 69 = .ok (.goto (-55), 3) := by decide +kernel
theorem dX6_without_72 : decode cX6_without 72 = .ok (.iload_n 1, 1) := by decide +kernel
theorem dX6_without_73 : decode cX6_without 73 = .ok (.ireturn, 1) := by decide +kernel
theorem dX6_sees_0 : decode cX6_sees 0 = .ok (.iload_n 1, 1) := by decide +kernel
theorem dX6_sees_1 : decode cX6_sees 1 = .ok (.ifCond .lt 9, 3) := by decide +kernel
theorem dX6_sees_4 : decode cX6_sees 4 = .ok (.iload_n 1, 1) := by decide +kernel
theorem dX6_sees_5 : decode cX6_sees 5 = .ok (.bipush 8, 2) := by decide +kernel
theorem dX6_sees_7 : decode cX6_sees 7 = .ok (.if_icmp .le 5, 3) := by decide +kernel
theorem dX6_sees_10 : decode cX6_sees 10 = .ok (.iconst (-1), 1) := by decide +kernel
theorem dX6_sees_11 : decode cX6_sees 11 = .ok (.ireturn, 1) := by decide +kernel
theorem dX6_sees_12 : decode cX6_sees 12 = .ok (.aload_n 0, 1) := by decide +kernel
theorem dX6_sees_13 : decode cX6_sees 13 = .ok (.getfield 62, 3) := by decide +kernel
theorem dX6_sees_16 : decode cX6_sees 16 = .ok (.bipush 6, 2) := by decide +kernel
theorem dX6_sees_18 : decode cX6_sees 18 = .ok (.if_icmp .lt 6, 3) := by decide +kernel
theorem dX6_sees_21 : decode cX6_sees 21 = .ok (.bipush (-3), 2) := by decide +kernel
theorem dX6_sees_23 : decode cX6_sees 23 = .ok (.ireturn, 1) := by decide +kernel
theorem dX6_sees_24 : decode cX6_sees 24 = .ok (.aload_n 0, 1) := by decide +kernel
theorem dX6_sees_25 : decode cX6_sees 25 = .ok (.getfield 59, 3) := by decide +kernel
theorem dX6_sees_28 : decode cX6_sees 28 = .ok (.aload_n 0, 1) := by decide +kernel
theorem dX6_sees_29 : decode cX6_sees 29 = .ok (.getfield 62, 3) := by decide +kernel
theorem dX6_sees_32 : decode cX6_sees 32 = .ok (.iload_n 1, 1) := by decide +kernel
theorem dX6_sees_33 : decode cX6_sees 33 = .ok (.iastore, 1) := by decide +kernel
theorem dX6_sees_34 : decode cX6_sees 34 = .ok (.aload_n 0, 1) := by decide +kernel
theorem dX6_sees_35 : decode cX6_sees 35 = .ok (.dup, 1) := by decide +kernel
theorem dX6_sees_36 : decode cX6_sees 36 = .ok (.getfield 62, 3) := by decide +kernel
theorem dX6_sees_39 : decode cX6_sees 39 = .ok (.iconst 1, 1) := by decide +kernel
theorem dX6_sees_40 : decode cX6_sees 40 = .ok (.iadd, 1) := by decide +kernel
theorem dX6_sees_41 : decode cX6_sees 41 = .ok (.putfield 62, 3) := by decide +kernel
theorem dX6_sees_44 : decode cX6_sees 44 = .ok (.aload_n 0, 1) := by decide +kernel
theorem dX6_sees_45 : decode cX6_sees 45 = .ok (.getfield 62, 3) := by decide +kernel
theorem dX6_sees_48 : decode cX6_sees 48 = .ok (.ireturn, 1) := by decide +kernel
theorem dX6_forget_0 : decode cX6_forget 0 = .ok (.aload_n 0, 1) := by decide +kernel
theorem dX6_forget_1 : decode cX6_forget 1 = .ok (.getfield 62, 3) := by decide +kernel
theorem dX6_forget_4 : decode cX6_forget 4 = .ok (.istore_n 1, 1) := by decide +kernel
theorem dX6_forget_5 : decode cX6_forget 5 = .ok (.aload_n 0, 1) := by decide +kernel
theorem dX6_forget_6 : decode cX6_forget 6 = .ok (.iconst 0, 1) := by decide +kernel
theorem dX6_forget_7 : decode cX6_forget 7 = .ok (.putfield 62, 3) := by decide +kernel
theorem dX6_forget_10 : decode cX6_forget 10 = .ok (.iload_n 1, 1) := by decide +kernel
theorem dX6_forget_11 : decode cX6_forget 11 = .ok (.ireturn, 1) := by decide +kernel
theorem dX6_unseen_0 : decode cX6_unseen 0 = .ok (.iload_n 1, 1) := by decide +kernel
theorem dX6_unseen_1 : decode cX6_unseen 1 = .ok (.ifCond .eq 10, 3) := by decide +kernel
theorem dX6_unseen_4 : decode cX6_unseen 4 = .ok (.iload_n 1, 1) := by decide +kernel
theorem dX6_unseen_5 : decode cX6_unseen 5 = .ok (.iconst 1, 1) := by decide +kernel
theorem dX6_unseen_6 : decode cX6_unseen 6 = .ok (.if_icmp .eq 5, 3) := by decide +kernel
theorem dX6_unseen_9 : decode cX6_unseen 9 = .ok (.iconst (-1), 1) := by decide +kernel
theorem dX6_unseen_10 : decode cX6_unseen 10 = .ok (.ireturn, 1) := by decide +kernel
theorem dX6_unseen_11 : decode cX6_unseen 11 = .ok (.iconst 0, 1) := by decide +kernel
theorem dX6_unseen_12 : decode cX6_unseen 12 = .ok (.istore_n 2, 1) := by decide +kernel
theorem dX6_unseen_13 : decode cX6_unseen 13 = .ok (.bipush (-9), 2) := by decide +kernel
theorem dX6_unseen_15 : decode cX6_unseen 15 = .ok (.istore_n 3, 1) := by decide +kernel
theorem dX6_unseen_16 : decode cX6_unseen 16 = .ok (.iconst 0, 1) := by decide +kernel
theorem dX6_unseen_17 : decode cX6_unseen 17 = .ok (.istore 4, 2) := by decide +kernel
theorem dX6_unseen_19 : decode cX6_unseen 19 = .ok (.iload 4, 2) := by decide +kernel
theorem dX6_unseen_21 : decode cX6_unseen 21 = .ok (.aload_n 0, 1) := by decide +kernel
theorem dX6_unseen_22 : decode cX6_unseen 22 = .ok (.getfield 19, 3) := by decide +kernel
theorem dX6_unseen_25 : decode cX6_unseen 25 = .ok (.getfield 153, 3) := by decide +kernel
theorem dX6_unseen_28 : decode cX6_unseen 28 = .ok (.if_icmp .ge 67, 3) := by decide +kernel
theorem dX6_unseen_31 : decode cX6_unseen 31 = .ok (.iconst 0, 1) := by decide +kernel
theorem dX6_unseen_32 : decode cX6_unseen 32 = .ok (.istore 5, 2) := by decide +kernel
theorem dX6_unseen_34 : decode cX6_unseen 34 = .ok (.iload 5, 2) := by decide +kernel
theorem dX6_unseen_36 : decode cX6_unseen 36 = .ok (.aload_n 0, 1) := by decide +kernel
theorem dX6_unseen_37 : decode cX6_unseen 37 = .ok (.getfield 19, 3) := by decide +kernel
theorem dX6_unseen_40 : decode cX6_unseen 40 = .ok (.getfield 85, 3) := by decide +kernel
theorem dX6_unseen_43 : decode cX6_unseen 43 = .ok (.iload 4, 2) := by decide +kernel
theorem dX6_unseen_45 : decode cX6_unseen 45 = .ok (.aaload, 1) := by decide +kernel
theorem dX6_unseen_46 : decode cX6_unseen 46 = .ok (.getfield 191, 3) := by decide +kernel
theorem dX6_unseen_49 : decode cX6_unseen 49 = .ok (.if_icmp .ge 40, 3) := by decide +kernel
theorem dX6_unseen_52 : decode cX6_unseen 52 = .ok (.aload_n 0, 1) := by decide +kernel
theorem dX6_unseen_53 : decode cX6_unseen 53 = .ok (.iload 4, 2) := by decide +kernel
theorem dX6_unseen_55 : decode cX6_unseen 55 = .ok (.iload 5, 2) := by decide +kernel
theorem dX6_unseen_57 : decode cX6_unseen 57 = .ok (.invokevirtual 192, 3) := by decide +kernel
theorem dX6_unseen_60 : decode cX6_unseen 60 = .ok (.ifCond .eq 23, 3) := by decide +kernel
theorem dX6_unseen_63 : decode cX6_unseen 63 = .ok (.iload_n 2, 1) := by decide +kernel
theorem dX6_unseen_64 : decode cX6_unseen 64 = .ok (.ifCond .ne 14, 3) := by decide +kernel
theorem dX6_unseen_67 : decode cX6_unseen 67 = .ok (.bipush 10, 2) := by decide +kernel
theorem dX6_unseen_69 : decode cX6_unseen 69 = .ok (.iload 4, 2) := by decide +kernel
theorem dX6_unseen_71 : decode cX6_unseen 71 = .ok (.imul, 1) := by decide +kernel
theorem dX6_unseen_72 : decode cX6_unseen 72 = .ok (.iload 5, 2) := by decide +kernel
theorem dX6_unseen_74 : decode cX6_unseen 74 = .ok (.iadd, 1) := by decide +kernel
theorem dX6_unseen_75 : decode cX6_unseen 75 = .ok (.goto 4, 3) := by decide +kernel
theorem dX6_unseen_78 : decode cX6_unseen 78 = .ok (.iload_n 3, 1) := by decide +kernel
theorem dX6_unseen_79 : decode cX6_unseen 79 = .ok (.istore_n 3, 1) := by decide +kernel
theorem dX6_unseen_80 : decode cX6_unseen 80 = .ok (.iinc 2 1, 3) := by decide +kernel
theorem dX6_unseen_83 : decode cX6_unseen 83 = .ok (.iinc 5 1, 3) := by decide +kernel
theorem dX6_unseen_86 : decode cX6_unseen 86 = .ok (.goto (-52), 3) := by decide +kernel
theorem dX6_unseen_89 : decode cX6_unseen 89 = .ok (.iinc 4 1, 3) := by decide +kernel
theorem dX6_unseen_92 : decode cX6_unseen 92 = .ok (.goto (-73), 3) := by decide +kernel
theorem dX6_unseen_95 : decode cX6_unseen 95 = .ok (.iload_n 1, 1) := by decide +kernel
theorem dX6_unseen_96 : decode cX6_unseen 96 = .ok (.ifCond .ne 7, 3) := by decide +kernel
theorem dX6_unseen_99 : decode cX6_unseen 99 = .ok (.iload_n 2, 1) := by decide +kernel
theorem dX6_unseen_100 : decode cX6_unseen 100 = .ok (.goto 4, 3) := by decide +kernel
theorem dX6_unseen_103 : decode cX6_unseen 103 = .ok (.iload_n 3, 1) := by decide +kernel
theorem dX6_unseen_104 : decode cX6_unseen 104 = .ok (.ireturn, 1) := by decide +kernel
theorem dX6_keep_0 : decode cX6_keep 0 = .ok (.iload_n 1, 1) := by decide +kernel
theorem dX6_keep_1 : decode cX6_keep 1 = .ok (.ifCond .lt 8, 3) := by decide +kernel
theorem dX6_keep_4 : decode cX6_keep 4 = .ok (.iload_n 1, 1) := by decide +kernel
theorem dX6_keep_5 : decode cX6_keep 5 = .ok (.iconst 2, 1) := by decide +kernel
theorem dX6_keep_6 : decode cX6_keep 6 = .ok (.if_icmp .lt 5, 3) := by decide +kernel
theorem dX6_keep_9 : decode cX6_keep 9 = .ok (.iconst (-1), 1) := by decide +kernel
theorem dX6_keep_10 : decode cX6_keep 10 = .ok (.ireturn, 1) := by decide +kernel
theorem dX6_keep_11 : decode cX6_keep 11 = .ok (.aload_n 0, 1) := by decide +kernel
theorem dX6_keep_12 : decode cX6_keep 12 = .ok (.getfield 26, 3) := by decide +kernel
theorem dX6_keep_15 : decode cX6_keep 15 = .ok (.iload_n 1, 1) := by decide +kernel
theorem dX6_keep_16 : decode cX6_keep 16 = .ok (.aaload, 1) := by decide +kernel
theorem dX6_keep_17 : decode cX6_keep 17 = .ok (.aload_n 0, 1) := by decide +kernel
theorem dX6_keep_18 : decode cX6_keep 18 = .ok (.getfield 19, 3) := by decide +kernel
theorem dX6_keep_21 : decode cX6_keep 21 = .ok (.invokevirtual 76, 3) := by decide +kernel
theorem dX6_keep_24 : decode cX6_keep 24 = .ok (.aload_n 0, 1) := by decide +kernel
theorem dX6_keep_25 : decode cX6_keep 25 = .ok (.dup, 1) := by decide +kernel
theorem dX6_keep_26 : decode cX6_keep 26 = .ok (.getfield 30, 3) := by decide +kernel
theorem dX6_keep_29 : decode cX6_keep 29 = .ok (.iconst 1, 1) := by decide +kernel
theorem dX6_keep_30 : decode cX6_keep 30 = .ok (.iload_n 1, 1) := by decide +kernel
theorem dX6_keep_31 : decode cX6_keep 31 = .ok (.ishl, 1) := by decide +kernel
theorem dX6_keep_32 : decode cX6_keep 32 = .ok (.ior, 1) := by decide +kernel
theorem dX6_keep_33 : decode cX6_keep 33 = .ok (.putfield 30, 3) := by decide +kernel
theorem dX6_keep_36 : decode cX6_keep 36 = .ok (.aload_n 0, 1) := by decide +kernel
theorem dX6_keep_37 : decode cX6_keep 37 = .ok (.getfield 19, 3) := by decide +kernel
theorem dX6_keep_40 : decode cX6_keep 40 = .ok (.getfield 153, 3) := by decide +kernel
theorem dX6_keep_43 : decode cX6_keep 43 = .ok (.ireturn, 1) := by decide +kernel
theorem dX6_back_0 : decode cX6_back 0 = .ok (.iload_n 1, 1) := by decide +kernel
theorem dX6_back_1 : decode cX6_back 1 = .ok (.ifCond .lt 8, 3) := by decide +kernel
theorem dX6_back_4 : decode cX6_back 4 = .ok (.iload_n 1, 1) := by decide +kernel
theorem dX6_back_5 : decode cX6_back 5 = .ok (.iconst 2, 1) := by decide +kernel
theorem dX6_back_6 : decode cX6_back 6 = .ok (.if_icmp .lt 5, 3) := by decide +kernel
theorem dX6_back_9 : decode cX6_back 9 = .ok (.iconst (-1), 1) := by decide +kernel
theorem dX6_back_10 : decode cX6_back 10 = .ok (.ireturn, 1) := by decide +kernel
theorem dX6_back_11 : decode cX6_back 11 = .ok (.aload_n 0, 1) := by decide +kernel
theorem dX6_back_12 : decode cX6_back 12 = .ok (.getfield 30, 3) := by decide +kernel
theorem dX6_back_15 : decode cX6_back 15 = .ok (.iload_n 1, 1) := by decide +kernel
theorem dX6_back_16 : decode cX6_back 16 = .ok (.ishr, 1) := by decide +kernel
theorem dX6_back_17 : decode cX6_back 17 = .ok (.iconst 1, 1) := by decide +kernel
theorem dX6_back_18 : decode cX6_back 18 = .ok (.iand, 1) := by decide +kernel
theorem dX6_back_19 : decode cX6_back 19 = .ok (.ifCond .ne 6, 3) := by decide +kernel
theorem dX6_back_22 : decode cX6_back 22 = .ok (.bipush (-2), 2) := by decide +kernel
theorem dX6_back_24 : decode cX6_back 24 = .ok (.ireturn, 1) := by decide +kernel
theorem dX6_back_25 : decode cX6_back 25 = .ok (.aload_n 0, 1) := by decide +kernel
theorem dX6_back_26 : decode cX6_back 26 = .ok (.getfield 19, 3) := by decide +kernel
theorem dX6_back_29 : decode cX6_back 29 = .ok (.aload_n 0, 1) := by decide +kernel
theorem dX6_back_30 : decode cX6_back 30 = .ok (.getfield 26, 3) := by decide +kernel
theorem dX6_back_33 : decode cX6_back 33 = .ok (.iload_n 1, 1) := by decide +kernel
theorem dX6_back_34 : decode cX6_back 34 = .ok (.aaload, 1) := by decide +kernel
theorem dX6_back_35 : decode cX6_back 35 = .ok (.invokevirtual 76, 3) := by decide +kernel
theorem dX6_back_38 : decode cX6_back 38 = .ok (.aload_n 0, 1) := by decide +kernel
theorem dX6_back_39 : decode cX6_back 39 = .ok (.getfield 37, 3) := by decide +kernel
theorem dX6_back_42 : decode cX6_back 42 = .ok (.iconst 0, 1) := by decide +kernel
theorem dX6_back_43 : decode cX6_back 43 = .ok (.putfield 80, 3) := by decide +kernel
theorem dX6_back_46 : decode cX6_back 46 = .ok (.aload_n 0, 1) := by decide +kernel
theorem dX6_back_47 : decode cX6_back 47 = .ok (.getfield 19, 3) := by decide +kernel
theorem dX6_back_50 : decode cX6_back 50 = .ok (.getfield 153, 3) := by decide +kernel
theorem dX6_back_53 : decode cX6_back 53 = .ok (.ireturn, 1) := by decide +kernel
theorem dX6_count_0 : decode cX6_count 0 = .ok (.iload_n 1, 1) := by decide +kernel
theorem dX6_count_1 : decode cX6_count 1 = .ok (.tableswitch 111 0 7 #[47, 55, 63, 74, 82, 90, 95, 103], 47) := by decide +kernel
theorem dX6_count_48 : decode cX6_count 48 = .ok (.aload_n 0, 1) := by decide +kernel
theorem dX6_count_49 : decode cX6_count 49 = .ok (.getfield 19, 3) := by decide +kernel
theorem dX6_count_52 : decode cX6_count 52 = .ok (.getfield 153, 3) := by decide +kernel
theorem dX6_count_55 : decode cX6_count 55 = .ok (.ireturn, 1) := by decide +kernel
theorem dX6_count_56 : decode cX6_count 56 = .ok (.aload_n 0, 1) := by decide +kernel
theorem dX6_count_57 : decode cX6_count 57 = .ok (.getfield 19, 3) := by decide +kernel
theorem dX6_count_60 : decode cX6_count 60 = .ok (.invokevirtual 195, 3) := by decide +kernel
theorem dX6_count_63 : decode cX6_count 63 = .ok (.ireturn, 1) := by decide +kernel
theorem dX6_count_64 : decode cX6_count 64 = .ok (.aload_n 0, 1) := by decide +kernel
theorem dX6_count_65 : decode cX6_count 65 = .ok (.getfield 19, 3) := by decide +kernel
theorem dX6_count_68 : decode cX6_count 68 = .ok (.invokevirtual 180, 3) := by decide +kernel
theorem dX6_count_71 : decode cX6_count 71 = .ok (.invokestatic 186, 3) := by decide +kernel
theorem dX6_count_74 : decode cX6_count 74 = .ok (.ireturn, 1) := by decide +kernel
theorem dX6_count_75 : decode cX6_count 75 = .ok (.aload_n 0, 1) := by decide +kernel
theorem dX6_count_76 : decode cX6_count 76 = .ok (.invokevirtual 198, 3) := by decide +kernel
theorem dX6_count_79 : decode cX6_count 79 = .ok (.invokestatic 186, 3) := by decide +kernel
theorem dX6_count_82 : decode cX6_count 82 = .ok (.ireturn, 1) := by decide +kernel
theorem dX6_count_83 : decode cX6_count 83 = .ok (.aload_n 0, 1) := by decide +kernel
theorem dX6_count_84 : decode cX6_count 84 = .ok (.getfield 19, 3) := by decide +kernel
theorem dX6_count_87 : decode cX6_count 87 = .ok (.getfield 111, 3) := by decide +kernel
theorem dX6_count_90 : decode cX6_count 90 = .ok (.ireturn, 1) := by decide +kernel
theorem dX6_count_91 : decode cX6_count 91 = .ok (.aload_n 0, 1) := by decide +kernel
theorem dX6_count_92 : decode cX6_count 92 = .ok (.getfield 62, 3) := by decide +kernel
theorem dX6_count_95 : decode cX6_count 95 = .ok (.ireturn, 1) := by decide +kernel
theorem dX6_count_96 : decode cX6_count 96 = .ok (.aload_n 0, 1) := by decide +kernel
theorem dX6_count_97 : decode cX6_count 97 = .ok (.getfield 10, 3) := by decide +kernel
theorem dX6_count_100 : decode cX6_count 100 = .ok (.getfield 69, 3) := by decide +kernel
theorem dX6_count_103 : decode cX6_count 103 = .ok (.ireturn, 1) := by decide +kernel
theorem dX6_count_104 : decode cX6_count 104 = .ok (.aload_n 0, 1) := by decide +kernel
theorem dX6_count_105 : decode cX6_count 105 = .ok (.getfield 37, 3) := by decide +kernel
theorem dX6_count_108 : decode cX6_count 108 = .ok (.getfield 80, 3) := by decide +kernel
theorem dX6_count_111 : decode cX6_count 111 = .ok (.ireturn, 1) := by decide +kernel
theorem dX6_count_112 : decode cX6_count 112 = .ok (.iconst (-1), 1) := by decide +kernel
theorem dX6_count_113 : decode cX6_count 113 = .ok (.ireturn, 1) := by decide +kernel
theorem dX6_isEvent_0 : decode cX6_isEvent 0 = .ok (.iload_n 0, 1) := by decide +kernel
theorem dX6_isEvent_1 : decode cX6_isEvent 1 = .ok (.ifCond .lt 13, 3) := by decide +kernel
theorem dX6_isEvent_4 : decode cX6_isEvent 4 = .ok (.iload_n 0, 1) := by decide +kernel
theorem dX6_isEvent_5 : decode cX6_isEvent 5 = .ok (.bipush 8, 2) := by decide +kernel
theorem dX6_isEvent_7 : decode cX6_isEvent 7 = .ok (.if_icmp .ge 7, 3) := by decide +kernel
theorem dX6_isEvent_10 : decode cX6_isEvent 10 = .ok (.iconst 1, 1) := by decide +kernel
theorem dX6_isEvent_11 : decode cX6_isEvent 11 = .ok (.goto 4, 3) := by decide +kernel
theorem dX6_isEvent_14 : decode cX6_isEvent 14 = .ok (.iconst 0, 1) := by decide +kernel
theorem dX6_isEvent_15 : decode cX6_isEvent 15 = .ok (.ireturn, 1) := by decide +kernel
theorem dX6_knotsNow_0 : decode cX6_knotsNow 0 = .ok (.aload_n 0, 1) := by decide +kernel
theorem dX6_knotsNow_1 : decode cX6_knotsNow 1 = .ok (.getfield 51, 3) := by decide +kernel
theorem dX6_knotsNow_4 : decode cX6_knotsNow 4 = .ok (.aload_n 0, 1) := by decide +kernel
theorem dX6_knotsNow_5 : decode cX6_knotsNow 5 = .ok (.getfield 19, 3) := by decide +kernel
theorem dX6_knotsNow_8 : decode cX6_knotsNow 8 = .ok (.iconst 0, 1) := by decide +kernel
theorem dX6_knotsNow_9 : decode cX6_knotsNow 9 = .ok (.invokevirtual 160, 3) := by decide +kernel
theorem dX6_knotsNow_12 : decode cX6_knotsNow 12 = .ok (.aload_n 0, 1) := by decide +kernel
theorem dX6_knotsNow_13 : decode cX6_knotsNow 13 = .ok (.getfield 51, 3) := by decide +kernel
theorem dX6_knotsNow_16 : decode cX6_knotsNow 16 = .ok (.invokevirtual 173, 3) := by decide +kernel
theorem dX6_knotsNow_19 : decode cX6_knotsNow 19 = .ok (.ireturn, 1) := by decide +kernel
theorem dX6_shiftOf_0 : decode cX6_shiftOf 0 = .ok (.iload_n 1, 1) := by decide +kernel
theorem dX6_shiftOf_1 : decode cX6_shiftOf 1 = .ok (.ifCond .ne 5, 3) := by decide +kernel
theorem dX6_shiftOf_4 : decode cX6_shiftOf 4 = .ok (.iconst 0, 1) := by decide +kernel
theorem dX6_shiftOf_5 : decode cX6_shiftOf 5 = .ok (.ireturn, 1) := by decide +kernel
theorem dX6_shiftOf_6 : decode cX6_shiftOf 6 = .ok (.aload_n 0, 1) := by decide +kernel
theorem dX6_shiftOf_7 : decode cX6_shiftOf 7 = .ok (.getfield 44, 3) := by decide +kernel
theorem dX6_shiftOf_10 : decode cX6_shiftOf 10 = .ok (.aload_n 0, 1) := by decide +kernel
theorem dX6_shiftOf_11 : decode cX6_shiftOf 11 = .ok (.getfield 19, 3) := by decide +kernel
theorem dX6_shiftOf_14 : decode cX6_shiftOf 14 = .ok (.getfield 85, 3) := by decide +kernel
theorem dX6_shiftOf_17 : decode cX6_shiftOf 17 = .ok (.iconst 0, 1) := by decide +kernel
theorem dX6_shiftOf_18 : decode cX6_shiftOf 18 = .ok (.aaload, 1) := by decide +kernel
theorem dX6_shiftOf_19 : decode cX6_shiftOf 19 = .ok (.aload_n 0, 1) := by decide +kernel
theorem dX6_shiftOf_20 : decode cX6_shiftOf 20 = .ok (.getfield 19, 3) := by decide +kernel
theorem dX6_shiftOf_23 : decode cX6_shiftOf 23 = .ok (.getfield 85, 3) := by decide +kernel
theorem dX6_shiftOf_26 : decode cX6_shiftOf 26 = .ok (.iload_n 1, 1) := by decide +kernel
theorem dX6_shiftOf_27 : decode cX6_shiftOf 27 = .ok (.aaload, 1) := by decide +kernel
theorem dX6_shiftOf_28 : decode cX6_shiftOf 28 = .ok (.invokevirtual 121, 3) := by decide +kernel
theorem dX6_shiftOf_31 : decode cX6_shiftOf 31 = .ok (.aload_n 0, 1) := by decide +kernel
theorem dX6_shiftOf_32 : decode cX6_shiftOf 32 = .ok (.getfield 44, 3) := by decide +kernel
theorem dX6_shiftOf_35 : decode cX6_shiftOf 35 = .ok (.invokevirtual 201, 3) := by decide +kernel
theorem dX6_shiftOf_38 : decode cX6_shiftOf 38 = .ok (.ireturn, 1) := by decide +kernel
theorem dX6_agreedOf_0 : decode cX6_agreedOf 0 = .ok (.iload_n 1, 1) := by decide +kernel
theorem dX6_agreedOf_1 : decode cX6_agreedOf 1 = .ok (.ifCond .ne 16, 3) := by decide +kernel
theorem dX6_agreedOf_4 : decode cX6_agreedOf 4 = .ok (.aload_n 0, 1) := by decide +kernel
theorem dX6_agreedOf_5 : decode cX6_agreedOf 5 = .ok (.getfield 19, 3) := by decide +kernel
theorem dX6_agreedOf_8 : decode cX6_agreedOf 8 = .ok (.getfield 85, 3) := by decide +kernel
theorem dX6_agreedOf_11 : decode cX6_agreedOf 11 = .ok (.iconst 0, 1) := by decide +kernel
theorem dX6_agreedOf_12 : decode cX6_agreedOf 12 = .ok (.aaload, 1) := by decide +kernel
theorem dX6_agreedOf_13 : decode cX6_agreedOf 13 = .ok (.invokevirtual 204, 3) := by decide +kernel
theorem dX6_agreedOf_16 : decode cX6_agreedOf 16 = .ok (.ireturn, 1) := by decide +kernel
theorem dX6_agreedOf_17 : decode cX6_agreedOf 17 = .ok (.aload_n 0, 1) := by decide +kernel
theorem dX6_agreedOf_18 : decode cX6_agreedOf 18 = .ok (.iload_n 1, 1) := by decide +kernel
theorem dX6_agreedOf_19 : decode cX6_agreedOf 19 = .ok (.invokevirtual 141, 3) := by decide +kernel
theorem dX6_agreedOf_22 : decode cX6_agreedOf 22 = .ok (.istore_n 2, 1) := by decide +kernel
theorem dX6_agreedOf_23 : decode cX6_agreedOf 23 = .ok (.aload_n 0, 1) := by decide +kernel
theorem dX6_agreedOf_24 : decode cX6_agreedOf 24 = .ok (.getfield 44, 3) := by decide +kernel
theorem dX6_agreedOf_27 : decode cX6_agreedOf 27 = .ok (.iload_n 2, 1) := by decide +kernel
theorem dX6_agreedOf_28 : decode cX6_agreedOf 28 = .ok (.invokevirtual 205, 3) := by decide +kernel
theorem dX6_agreedOf_31 : decode cX6_agreedOf 31 = .ok (.ireturn, 1) := by decide +kernel
theorem dX6_againstOf_0 : decode cX6_againstOf 0 = .ok (.iload_n 1, 1) := by decide +kernel
theorem dX6_againstOf_1 : decode cX6_againstOf 1 = .ok (.ifCond .ne 5, 3) := by decide +kernel
theorem dX6_againstOf_4 : decode cX6_againstOf 4 = .ok (.iconst 0, 1) := by decide +kernel
theorem dX6_againstOf_5 : decode cX6_againstOf 5 = .ok (.ireturn, 1) := by decide +kernel
theorem dX6_againstOf_6 : decode cX6_againstOf 6 = .ok (.aload_n 0, 1) := by decide +kernel
theorem dX6_againstOf_7 : decode cX6_againstOf 7 = .ok (.iload_n 1, 1) := by decide +kernel
theorem dX6_againstOf_8 : decode cX6_againstOf 8 = .ok (.invokevirtual 144, 3) := by decide +kernel
theorem dX6_againstOf_11 : decode cX6_againstOf 11 = .ok (.istore_n 2, 1) := by decide +kernel
theorem dX6_againstOf_12 : decode cX6_againstOf 12 = .ok (.aload_n 0, 1) := by decide +kernel
theorem dX6_againstOf_13 : decode cX6_againstOf 13 = .ok (.getfield 44, 3) := by decide +kernel
theorem dX6_againstOf_16 : decode cX6_againstOf 16 = .ok (.invokevirtual 208, 3) := by decide +kernel
theorem dX6_againstOf_19 : decode cX6_againstOf 19 = .ok (.iload_n 2, 1) := by decide +kernel
theorem dX6_againstOf_20 : decode cX6_againstOf 20 = .ok (.iconst (-1), 1) := by decide +kernel
theorem dX6_againstOf_21 : decode cX6_againstOf 21 = .ok (.ixor, 1) := by decide +kernel
theorem dX6_againstOf_22 : decode cX6_againstOf 22 = .ok (.iand, 1) := by decide +kernel
theorem dX6_againstOf_23 : decode cX6_againstOf 23 = .ok (.ireturn, 1) := by decide +kernel
theorem dX6_measureOf_0 : decode cX6_measureOf 0 = .ok (.iload_n 2, 1) := by decide +kernel
theorem dX6_measureOf_1 : decode cX6_measureOf 1 = .ok (.tableswitch 68 0 3 #[31, 44, 53, 59], 31) := by decide +kernel
theorem dX6_measureOf_32 : decode cX6_measureOf 32 = .ok (.aload_n 0, 1) := by decide +kernel
theorem dX6_measureOf_33 : decode cX6_measureOf 33 = .ok (.getfield 19, 3) := by decide +kernel
theorem dX6_measureOf_36 : decode cX6_measureOf 36 = .ok (.getfield 85, 3) := by decide +kernel
theorem dX6_measureOf_39 : decode cX6_measureOf 39 = .ok (.iload_n 1, 1) := by decide +kernel
theorem dX6_measureOf_40 : decode cX6_measureOf 40 = .ok (.aaload, 1) := by decide +kernel
theorem dX6_measureOf_41 : decode cX6_measureOf 41 = .ok (.invokevirtual 209, 3) := by decide +kernel
theorem dX6_measureOf_44 : decode cX6_measureOf 44 = .ok (.ireturn, 1) := by decide +kernel
theorem dX6_measureOf_45 : decode cX6_measureOf 45 = .ok (.aload_n 0, 1) := by decide +kernel
theorem dX6_measureOf_46 : decode cX6_measureOf 46 = .ok (.iload_n 1, 1) := by decide +kernel
theorem dX6_measureOf_47 : decode cX6_measureOf 47 = .ok (.invokevirtual 144, 3) := by decide +kernel
theorem dX6_measureOf_50 : decode cX6_measureOf 50 = .ok (.invokestatic 186, 3) := by decide +kernel
theorem dX6_measureOf_53 : decode cX6_measureOf 53 = .ok (.ireturn, 1) := by decide +kernel
theorem dX6_measureOf_54 : decode cX6_measureOf 54 = .ok (.aload_n 0, 1) := by decide +kernel
theorem dX6_measureOf_55 : decode cX6_measureOf 55 = .ok (.iload_n 1, 1) := by decide +kernel
theorem dX6_measureOf_56 : decode cX6_measureOf 56 = .ok (.invokevirtual 210, 3) := by decide +kernel
theorem dX6_measureOf_59 : decode cX6_measureOf 59 = .ok (.ireturn, 1) := by decide +kernel
theorem dX6_measureOf_60 : decode cX6_measureOf 60 = .ok (.aload_n 0, 1) := by decide +kernel
theorem dX6_measureOf_61 : decode cX6_measureOf 61 = .ok (.iload_n 1, 1) := by decide +kernel
theorem dX6_measureOf_62 : decode cX6_measureOf 62 = .ok (.invokevirtual 213, 3) := by decide +kernel
theorem dX6_measureOf_65 : decode cX6_measureOf 65 = .ok (.invokestatic 186, 3) := by decide +kernel
theorem dX6_measureOf_68 : decode cX6_measureOf 68 = .ok (.ireturn, 1) := by decide +kernel
theorem dX6_measureOf_69 : decode cX6_measureOf 69 = .ok (.aload_n 0, 1) := by decide +kernel
theorem dX6_measureOf_70 : decode cX6_measureOf 70 = .ok (.getfield 19, 3) := by decide +kernel
theorem dX6_measureOf_73 : decode cX6_measureOf 73 = .ok (.getfield 85, 3) := by decide +kernel
theorem dX6_measureOf_76 : decode cX6_measureOf 76 = .ok (.iload_n 1, 1) := by decide +kernel
theorem dX6_measureOf_77 : decode cX6_measureOf 77 = .ok (.aaload, 1) := by decide +kernel
theorem dX6_measureOf_78 : decode cX6_measureOf 78 = .ok (.invokevirtual 204, 3) := by decide +kernel
theorem dX6_measureOf_81 : decode cX6_measureOf 81 = .ok (.aload_n 0, 1) := by decide +kernel
theorem dX6_measureOf_82 : decode cX6_measureOf 82 = .ok (.invokevirtual 198, 3) := by decide +kernel
theorem dX6_measureOf_85 : decode cX6_measureOf 85 = .ok (.iand, 1) := by decide +kernel
theorem dX6_measureOf_86 : decode cX6_measureOf 86 = .ok (.invokestatic 186, 3) := by decide +kernel
theorem dX6_measureOf_89 : decode cX6_measureOf 89 = .ok (.ireturn, 1) := by decide +kernel
theorem dX6_spansByFirst_0 : decode cX6_spansByFirst 0 = .ok (.iload_n 1, 1) := by decide +kernel
theorem dX6_spansByFirst_1 : decode cX6_spansByFirst 1 = .ok (.ifCond .ne 24, 3) := by decide +kernel
theorem dX6_spansByFirst_4 : decode cX6_spansByFirst 4 = .ok (.aload_n 0, 1) := by decide +kernel
theorem dX6_spansByFirst_5 : decode cX6_spansByFirst 5 = .ok (.getfield 19, 3) := by decide +kernel
theorem dX6_spansByFirst_8 : decode cX6_spansByFirst 8 = .ok (.getfield 85, 3) := by decide +kernel
theorem dX6_spansByFirst_11 : decode cX6_spansByFirst 11 = .ok (.iconst 0, 1) := by decide +kernel
theorem dX6_spansByFirst_12 : decode cX6_spansByFirst 12 = .ok (.aaload, 1) := by decide +kernel
theorem dX6_spansByFirst_13 : decode cX6_spansByFirst 13 = .ok (.invokevirtual 209, 3) := by decide +kernel
theorem dX6_spansByFirst_16 : decode cX6_spansByFirst 16 = .ok (.ifCond .ne 7, 3) := by decide +kernel
theorem dX6_spansByFirst_19 : decode cX6_spansByFirst 19 = .ok (.iconst 0, 1) := by decide +kernel
theorem dX6_spansByFirst_20 : decode cX6_spansByFirst 20 = .ok (.goto 4, 3) := by decide +kernel
theorem dX6_spansByFirst_23 : decode cX6_spansByFirst 23 = .ok (.iconst 1, 1) := by decide +kernel
theorem dX6_spansByFirst_24 : decode cX6_spansByFirst 24 = .ok (.ireturn, 1) := by decide +kernel
theorem dX6_spansByFirst_25 : decode cX6_spansByFirst 25 = .ok (.aload_n 0, 1) := by decide +kernel
theorem dX6_spansByFirst_26 : decode cX6_spansByFirst 26 = .ok (.getfield 44, 3) := by decide +kernel
theorem dX6_spansByFirst_29 : decode cX6_spansByFirst 29 = .ok (.aload_n 0, 1) := by decide +kernel
theorem dX6_spansByFirst_30 : decode cX6_spansByFirst 30 = .ok (.getfield 19, 3) := by decide +kernel
theorem dX6_spansByFirst_33 : decode cX6_spansByFirst 33 = .ok (.getfield 85, 3) := by decide +kernel
theorem dX6_spansByFirst_36 : decode cX6_spansByFirst 36 = .ok (.iconst 0, 1) := by decide +kernel
theorem dX6_spansByFirst_37 : decode cX6_spansByFirst 37 = .ok (.aaload, 1) := by decide +kernel
theorem dX6_spansByFirst_38 : decode cX6_spansByFirst 38 = .ok (.aload_n 0, 1) := by decide +kernel
theorem dX6_spansByFirst_39 : decode cX6_spansByFirst 39 = .ok (.getfield 19, 3) := by decide +kernel
theorem dX6_spansByFirst_42 : decode cX6_spansByFirst 42 = .ok (.getfield 85, 3) := by decide +kernel
theorem dX6_spansByFirst_45 : decode cX6_spansByFirst 45 = .ok (.iload_n 1, 1) := by decide +kernel
theorem dX6_spansByFirst_46 : decode cX6_spansByFirst 46 = .ok (.aaload, 1) := by decide +kernel
theorem dX6_spansByFirst_47 : decode cX6_spansByFirst 47 = .ok (.invokevirtual 121, 3) := by decide +kernel
theorem dX6_spansByFirst_50 : decode cX6_spansByFirst 50 = .ok (.aload_n 0, 1) := by decide +kernel
theorem dX6_spansByFirst_51 : decode cX6_spansByFirst 51 = .ok (.getfield 44, 3) := by decide +kernel
theorem dX6_spansByFirst_54 : decode cX6_spansByFirst 54 = .ok (.aload_n 0, 1) := by decide +kernel
theorem dX6_spansByFirst_55 : decode cX6_spansByFirst 55 = .ok (.getfield 19, 3) := by decide +kernel
theorem dX6_spansByFirst_58 : decode cX6_spansByFirst 58 = .ok (.getfield 111, 3) := by decide +kernel
theorem dX6_spansByFirst_61 : decode cX6_spansByFirst 61 = .ok (.invokevirtual 125, 3) := by decide +kernel
theorem dX6_spansByFirst_64 : decode cX6_spansByFirst 64 = .ok (.ireturn, 1) := by decide +kernel
theorem dX6_eventsOfNoOther_0 : decode cX6_eventsOfNoOther 0 = .ok (.aload_n 0, 1) := by decide +kernel
theorem dX6_eventsOfNoOther_1 : decode cX6_eventsOfNoOther 1 = .ok (.getfield 19, 3) := by decide +kernel
theorem dX6_eventsOfNoOther_4 : decode cX6_eventsOfNoOther 4 = .ok (.getfield 85, 3) := by decide +kernel
theorem dX6_eventsOfNoOther_7 : decode cX6_eventsOfNoOther 7 = .ok (.iload_n 1, 1) := by decide +kernel
theorem dX6_eventsOfNoOther_8 : decode cX6_eventsOfNoOther 8 = .ok (.aaload, 1) := by decide +kernel
theorem dX6_eventsOfNoOther_9 : decode cX6_eventsOfNoOther 9 = .ok (.invokevirtual 204, 3) := by decide +kernel
theorem dX6_eventsOfNoOther_12 : decode cX6_eventsOfNoOther 12 = .ok (.istore_n 2, 1) := by decide +kernel
theorem dX6_eventsOfNoOther_13 : decode cX6_eventsOfNoOther 13 = .ok (.iconst 0, 1) := by decide +kernel
theorem dX6_eventsOfNoOther_14 : decode cX6_eventsOfNoOther 14 = .ok (.istore_n 3, 1) := by decide +kernel
theorem dX6_eventsOfNoOther_15 : decode cX6_eventsOfNoOther 15 = .ok (.iload_n 3, 1) := by decide +kernel
theorem dX6_eventsOfNoOther_16 : decode cX6_eventsOfNoOther 16 = .ok (.aload_n 0, 1) := by decide +kernel
theorem dX6_eventsOfNoOther_17 : decode cX6_eventsOfNoOther 17 = .ok (.getfield 19, 3) := by decide +kernel
theorem dX6_eventsOfNoOther_20 : decode cX6_eventsOfNoOther 20 = .ok (.getfield 153, 3) := by decide +kernel
theorem dX6_eventsOfNoOther_23 : decode cX6_eventsOfNoOther 23 = .ok (.if_icmp .ge 31, 3) := by decide +kernel
theorem dX6_eventsOfNoOther_26 : decode cX6_eventsOfNoOther 26 = .ok (.iload_n 3, 1) := by decide +kernel
theorem dX6_eventsOfNoOther_27 : decode cX6_eventsOfNoOther 27 = .ok (.iload_n 1, 1) := by decide +kernel
theorem dX6_eventsOfNoOther_28 : decode cX6_eventsOfNoOther 28 = .ok (.if_icmp .eq 20, 3) := by decide +kernel
theorem dX6_eventsOfNoOther_31 : decode cX6_eventsOfNoOther 31 = .ok (.iload_n 2, 1) := by decide +kernel
theorem dX6_eventsOfNoOther_32 : decode cX6_eventsOfNoOther 32 = .ok (.aload_n 0, 1) := by decide +kernel
theorem dX6_eventsOfNoOther_33 : decode cX6_eventsOfNoOther 33 = .ok (.getfield 19, 3) := by decide +kernel
theorem dX6_eventsOfNoOther_36 : decode cX6_eventsOfNoOther 36 = .ok (.getfield 85, 3) := by decide +kernel
theorem dX6_eventsOfNoOther_39 : decode cX6_eventsOfNoOther 39 = .ok (.iload_n 3, 1) := by decide +kernel
theorem dX6_eventsOfNoOther_40 : decode cX6_eventsOfNoOther 40 = .ok (.aaload, 1) := by decide +kernel
theorem dX6_eventsOfNoOther_41 : decode cX6_eventsOfNoOther 41 = .ok (.invokevirtual 204, 3) := by decide +kernel
theorem dX6_eventsOfNoOther_44 : decode cX6_eventsOfNoOther 44 = .ok (.iconst (-1), 1) := by decide +kernel
theorem dX6_eventsOfNoOther_45 : decode cX6_eventsOfNoOther 45 = .ok (.ixor, 1) := by decide +kernel
theorem dX6_eventsOfNoOther_46 : decode cX6_eventsOfNoOther 46 = .ok (.iand, 1) := by decide +kernel
theorem dX6_eventsOfNoOther_47 : decode cX6_eventsOfNoOther 47 = .ok (.istore_n 2, 1) := by decide +kernel
theorem dX6_eventsOfNoOther_48 : decode cX6_eventsOfNoOther 48 = .ok (.iinc 3 1, 3) := by decide +kernel
theorem dX6_eventsOfNoOther_51 : decode cX6_eventsOfNoOther 51 = .ok (.goto (-36), 3) := by decide +kernel
theorem dX6_eventsOfNoOther_54 : decode cX6_eventsOfNoOther 54 = .ok (.iload_n 2, 1) := by decide +kernel
theorem dX6_eventsOfNoOther_55 : decode cX6_eventsOfNoOther 55 = .ok (.ireturn, 1) := by decide +kernel
theorem dX6_housesAbove_0 : decode cX6_housesAbove 0 = .ok (.iconst 0, 1) := by decide +kernel
theorem dX6_housesAbove_1 : decode cX6_housesAbove 1 = .ok (.istore_n 2, 1) := by decide +kernel
theorem dX6_housesAbove_2 : decode cX6_housesAbove 2 = .ok (.iconst 0, 1) := by decide +kernel
theorem dX6_housesAbove_3 : decode cX6_housesAbove 3 = .ok (.istore_n 3, 1) := by decide +kernel
theorem dX6_housesAbove_4 : decode cX6_housesAbove 4 = .ok (.iload_n 3, 1) := by decide +kernel
theorem dX6_housesAbove_5 : decode cX6_housesAbove 5 = .ok (.aload_n 0, 1) := by decide +kernel
theorem dX6_housesAbove_6 : decode cX6_housesAbove 6 = .ok (.getfield 19, 3) := by decide +kernel
theorem dX6_housesAbove_9 : decode cX6_housesAbove 9 = .ok (.getfield 153, 3) := by decide +kernel
theorem dX6_housesAbove_12 : decode cX6_housesAbove 12 = .ok (.if_icmp .ge 47, 3) := by decide +kernel
theorem dX6_housesAbove_15 : decode cX6_housesAbove 15 = .ok (.aload_n 0, 1) := by decide +kernel
theorem dX6_housesAbove_16 : decode cX6_housesAbove 16 = .ok (.getfield 55, 3) := by decide +kernel
theorem dX6_housesAbove_19 : decode cX6_housesAbove 19 = .ok (.iload_n 3, 1) := by decide +kernel
theorem dX6_housesAbove_20 : decode cX6_housesAbove 20 = .ok (.iaload, 1) := by decide +kernel
theorem dX6_housesAbove_21 : decode cX6_housesAbove 21 = .ok (.aload_n 0, 1) := by decide +kernel
theorem dX6_housesAbove_22 : decode cX6_housesAbove 22 = .ok (.getfield 55, 3) := by decide +kernel
theorem dX6_housesAbove_25 : decode cX6_housesAbove 25 = .ok (.iload_n 1, 1) := by decide +kernel
theorem dX6_housesAbove_26 : decode cX6_housesAbove 26 = .ok (.iaload, 1) := by decide +kernel
theorem dX6_housesAbove_27 : decode cX6_housesAbove 27 = .ok (.if_icmp .gt 23, 3) := by decide +kernel
theorem dX6_housesAbove_30 : decode cX6_housesAbove 30 = .ok (.iload_n 3, 1) := by decide +kernel
theorem dX6_housesAbove_31 : decode cX6_housesAbove 31 = .ok (.iload_n 1, 1) := by decide +kernel
theorem dX6_housesAbove_32 : decode cX6_housesAbove 32 = .ok (.if_icmp .ge 21, 3) := by decide +kernel
theorem dX6_housesAbove_35 : decode cX6_housesAbove 35 = .ok (.aload_n 0, 1) := by decide +kernel
theorem dX6_housesAbove_36 : decode cX6_housesAbove 36 = .ok (.getfield 55, 3) := by decide +kernel
theorem dX6_housesAbove_39 : decode cX6_housesAbove 39 = .ok (.iload_n 3, 1) := by decide +kernel
theorem dX6_housesAbove_40 : decode cX6_housesAbove 40 = .ok (.iaload, 1) := by decide +kernel
theorem dX6_housesAbove_41 : decode cX6_housesAbove 41 = .ok (.aload_n 0, 1) := by decide +kernel
theorem dX6_housesAbove_42 : decode cX6_housesAbove 42 = .ok (.getfield 55, 3) := by decide +kernel
theorem dX6_housesAbove_45 : decode cX6_housesAbove 45 = .ok (.iload_n 1, 1) := by decide +kernel
theorem dX6_housesAbove_46 : decode cX6_housesAbove 46 = .ok (.iaload, 1) := by decide +kernel
theorem dX6_housesAbove_47 : decode cX6_housesAbove 47 = .ok (.if_icmp .ne 6, 3) := by decide +kernel
theorem dX6_housesAbove_50 : decode cX6_housesAbove 50 = .ok (.iinc 2 1, 3) := by decide +kernel
theorem dX6_housesAbove_53 : decode cX6_housesAbove 53 = .ok (.iinc 3 1, 3) := by decide +kernel
theorem dX6_housesAbove_56 : decode cX6_housesAbove 56 = .ok (.goto (-52), 3) := by decide +kernel
theorem dX6_housesAbove_59 : decode cX6_housesAbove 59 = .ok (.iload_n 2, 1) := by decide +kernel
theorem dX6_housesAbove_60 : decode cX6_housesAbove 60 = .ok (.ireturn, 1) := by decide +kernel
theorem dX6_dateOf_0 : decode cX6_dateOf 0 = .ok (.iconst 0, 1) := by decide +kernel
theorem dX6_dateOf_1 : decode cX6_dateOf 1 = .ok (.istore_n 2, 1) := by decide +kernel
theorem dX6_dateOf_2 : decode cX6_dateOf 2 = .ok (.iload_n 2, 1) := by decide +kernel
theorem dX6_dateOf_3 : decode cX6_dateOf 3 = .ok (.aload_n 0, 1) := by decide +kernel
theorem dX6_dateOf_4 : decode cX6_dateOf 4 = .ok (.getfield 19, 3) := by decide +kernel
theorem dX6_dateOf_7 : decode cX6_dateOf 7 = .ok (.getfield 153, 3) := by decide +kernel
theorem dX6_dateOf_10 : decode cX6_dateOf 10 = .ok (.if_icmp .ge 48, 3) := by decide +kernel
theorem dX6_dateOf_13 : decode cX6_dateOf 13 = .ok (.aload_n 0, 1) := by decide +kernel
theorem dX6_dateOf_14 : decode cX6_dateOf 14 = .ok (.getfield 19, 3) := by decide +kernel
theorem dX6_dateOf_17 : decode cX6_dateOf 17 = .ok (.getfield 85, 3) := by decide +kernel
theorem dX6_dateOf_20 : decode cX6_dateOf 20 = .ok (.iload_n 2, 1) := by decide +kernel
theorem dX6_dateOf_21 : decode cX6_dateOf 21 = .ok (.aaload, 1) := by decide +kernel
theorem dX6_dateOf_22 : decode cX6_dateOf 22 = .ok (.iload_n 1, 1) := by decide +kernel
theorem dX6_dateOf_23 : decode cX6_dateOf 23 = .ok (.invokevirtual 216, 3) := by decide +kernel
theorem dX6_dateOf_26 : decode cX6_dateOf 26 = .ok (.istore_n 3, 1) := by decide +kernel
theorem dX6_dateOf_27 : decode cX6_dateOf 27 = .ok (.iload_n 3, 1) := by decide +kernel
theorem dX6_dateOf_28 : decode cX6_dateOf 28 = .ok (.ifCond .lt 24, 3) := by decide +kernel
theorem dX6_dateOf_31 : decode cX6_dateOf 31 = .ok (.aload_n 0, 1) := by decide +kernel
theorem dX6_dateOf_32 : decode cX6_dateOf 32 = .ok (.getfield 19, 3) := by decide +kernel
theorem dX6_dateOf_35 : decode cX6_dateOf 35 = .ok (.getfield 85, 3) := by decide +kernel
theorem dX6_dateOf_38 : decode cX6_dateOf 38 = .ok (.iload_n 2, 1) := by decide +kernel
theorem dX6_dateOf_39 : decode cX6_dateOf 39 = .ok (.aaload, 1) := by decide +kernel
theorem dX6_dateOf_40 : decode cX6_dateOf 40 = .ok (.getfield 94, 3) := by decide +kernel
theorem dX6_dateOf_43 : decode cX6_dateOf 43 = .ok (.iload_n 3, 1) := by decide +kernel
theorem dX6_dateOf_44 : decode cX6_dateOf 44 = .ok (.iaload, 1) := by decide +kernel
theorem dX6_dateOf_45 : decode cX6_dateOf 45 = .ok (.aload_n 0, 1) := by decide +kernel
theorem dX6_dateOf_46 : decode cX6_dateOf 46 = .ok (.iload_n 2, 1) := by decide +kernel
theorem dX6_dateOf_47 : decode cX6_dateOf 47 = .ok (.invokevirtual 141, 3) := by decide +kernel
theorem dX6_dateOf_50 : decode cX6_dateOf 50 = .ok (.isub, 1) := by decide +kernel
theorem dX6_dateOf_51 : decode cX6_dateOf 51 = .ok (.ireturn, 1) := by decide +kernel
theorem dX6_dateOf_52 : decode cX6_dateOf 52 = .ok (.iinc 2 1, 3) := by decide +kernel
theorem dX6_dateOf_55 : decode cX6_dateOf 55 = .ok (.goto (-53), 3) := by decide +kernel
theorem dX6_dateOf_58 : decode cX6_dateOf 58 = .ok (.ldc 120, 2) := by decide +kernel
theorem dX6_dateOf_60 : decode cX6_dateOf 60 = .ok (.ireturn, 1) := by decide +kernel
theorem dX6_maySeem_0 : decode cX6_maySeem 0 = .ok (.aload_n 0, 1) := by decide +kernel
theorem dX6_maySeem_1 : decode cX6_maySeem 1 = .ok (.getfield 19, 3) := by decide +kernel
theorem dX6_maySeem_4 : decode cX6_maySeem 4 = .ok (.getfield 85, 3) := by decide +kernel
theorem dX6_maySeem_7 : decode cX6_maySeem 7 = .ok (.iload_n 1, 1) := by decide +kernel
theorem dX6_maySeem_8 : decode cX6_maySeem 8 = .ok (.aaload, 1) := by decide +kernel
theorem dX6_maySeem_9 : decode cX6_maySeem 9 = .ok (.iload_n 2, 1) := by decide +kernel
theorem dX6_maySeem_10 : decode cX6_maySeem 10 = .ok (.invokevirtual 97, 3) := by decide +kernel
theorem dX6_maySeem_13 : decode cX6_maySeem 13 = .ok (.ifCond .eq 5, 3) := by decide +kernel
theorem dX6_maySeem_16 : decode cX6_maySeem 16 = .ok (.iconst 0, 1) := by decide +kernel
theorem dX6_maySeem_17 : decode cX6_maySeem 17 = .ok (.ireturn, 1) := by decide +kernel
theorem dX6_maySeem_18 : decode cX6_maySeem 18 = .ok (.aload_n 0, 1) := by decide +kernel
theorem dX6_maySeem_19 : decode cX6_maySeem 19 = .ok (.getfield 62, 3) := by decide +kernel
theorem dX6_maySeem_22 : decode cX6_maySeem 22 = .ok (.ifCond .ne 5, 3) := by decide +kernel
theorem dX6_maySeem_25 : decode cX6_maySeem 25 = .ok (.iconst 1, 1) := by decide +kernel
theorem dX6_maySeem_26 : decode cX6_maySeem 26 = .ok (.ireturn, 1) := by decide +kernel
theorem dX6_maySeem_27 : decode cX6_maySeem 27 = .ok (.aload_n 0, 1) := by decide +kernel
theorem dX6_maySeem_28 : decode cX6_maySeem 28 = .ok (.getfield 51, 3) := by decide +kernel
theorem dX6_maySeem_31 : decode cX6_maySeem 31 = .ok (.aload_n 0, 1) := by decide +kernel
theorem dX6_maySeem_32 : decode cX6_maySeem 32 = .ok (.getfield 19, 3) := by decide +kernel
theorem dX6_maySeem_35 : decode cX6_maySeem 35 = .ok (.iload_n 1, 1) := by decide +kernel
theorem dX6_maySeem_36 : decode cX6_maySeem 36 = .ok (.iload_n 2, 1) := by decide +kernel
theorem dX6_maySeem_37 : decode cX6_maySeem 37 = .ok (.invokevirtual 219, 3) := by decide +kernel
theorem dX6_maySeem_40 : decode cX6_maySeem 40 = .ok (.aload_n 0, 1) := by decide +kernel
theorem dX6_maySeem_41 : decode cX6_maySeem 41 = .ok (.getfield 51, 3) := by decide +kernel
theorem dX6_maySeem_44 : decode cX6_maySeem 44 = .ok (.invokevirtual 173, 3) := by decide +kernel
theorem dX6_maySeem_47 : decode cX6_maySeem 47 = .ok (.invokestatic 186, 3) := by decide +kernel
theorem dX6_maySeem_50 : decode cX6_maySeem 50 = .ok (.istore_n 3, 1) := by decide +kernel
theorem dX6_maySeem_51 : decode cX6_maySeem 51 = .ok (.iconst 0, 1) := by decide +kernel
theorem dX6_maySeem_52 : decode cX6_maySeem 52 = .ok (.istore 4, 2) := by decide +kernel
theorem dX6_maySeem_54 : decode cX6_maySeem 54 = .ok (.iload 4, 2) := by decide +kernel
theorem dX6_maySeem_56 : decode cX6_maySeem 56 = .ok (.aload_n 0, 1) := by decide +kernel
theorem dX6_maySeem_57 : decode cX6_maySeem 57 = .ok (.getfield 62, 3) := by decide +kernel
theorem dX6_maySeem_60 : decode cX6_maySeem 60 = .ok (.if_icmp .ge 22, 3) := by decide +kernel
theorem dX6_maySeem_63 : decode cX6_maySeem 63 = .ok (.aload_n 0, 1) := by decide +kernel
theorem dX6_maySeem_64 : decode cX6_maySeem 64 = .ok (.getfield 59, 3) := by decide +kernel
theorem dX6_maySeem_67 : decode cX6_maySeem 67 = .ok (.iload 4, 2) := by decide +kernel
theorem dX6_maySeem_69 : decode cX6_maySeem 69 = .ok (.iaload, 1) := by decide +kernel
theorem dX6_maySeem_70 : decode cX6_maySeem 70 = .ok (.iload_n 3, 1) := by decide +kernel
theorem dX6_maySeem_71 : decode cX6_maySeem 71 = .ok (.if_icmp .eq 5, 3) := by decide +kernel
theorem dX6_maySeem_74 : decode cX6_maySeem 74 = .ok (.iconst 0, 1) := by decide +kernel
theorem dX6_maySeem_75 : decode cX6_maySeem 75 = .ok (.ireturn, 1) := by decide +kernel
theorem dX6_maySeem_76 : decode cX6_maySeem 76 = .ok (.iinc 4 1, 3) := by decide +kernel
theorem dX6_maySeem_79 : decode cX6_maySeem 79 = .ok (.goto (-25), 3) := by decide +kernel
theorem dX6_maySeem_82 : decode cX6_maySeem 82 = .ok (.iconst 1, 1) := by decide +kernel
theorem dX6_maySeem_83 : decode cX6_maySeem 83 = .ok (.ireturn, 1) := by decide +kernel
end
section
theorem dX7_init_0 : decode cX7_init 0 = .ok (.aload_n 0, 1) := by decide +kernel
theorem dX7_init_1 : decode cX7_init 1 = .ok (.invokespecial 1, 3) := by decide +kernel
theorem dX7_init_4 : decode cX7_init 4 = .ok (.aload_n 0, 1) := by decide +kernel
theorem dX7_init_5 : decode cX7_init 5 = .ok (.sipush 637, 3) := by decide +kernel
theorem dX7_init_8 : decode cX7_init 8 = .ok (.newarray .int, 2) := by decide +kernel
theorem dX7_init_10 : decode cX7_init 10 = .ok (.putfield 7, 3) := by decide +kernel
theorem dX7_init_13 : decode cX7_init 13 = .ok (.aload_n 0, 1) := by decide +kernel
theorem dX7_init_14 : decode cX7_init 14 = .ok (.iconst 2, 1) := by decide +kernel
theorem dX7_init_15 : decode cX7_init 15 = .ok (.newarray .boolean, 2) := by decide +kernel
theorem dX7_init_17 : decode cX7_init 17 = .ok (.putfield 13, 3) := by decide +kernel
theorem dX7_init_20 : decode cX7_init 20 = .ok (.aload_n 0, 1) := by decide +kernel
theorem dX7_init_21 : decode cX7_init 21 = .ok (.bipush 6, 2) := by decide +kernel
theorem dX7_init_23 : decode cX7_init 23 = .ok (.newarray .int, 2) := by decide +kernel
theorem dX7_init_25 : decode cX7_init 25 = .ok (.putfield 17, 3) := by decide +kernel
theorem dX7_init_28 : decode cX7_init 28 = .ok (.aload_n 0, 1) := by decide +kernel
theorem dX7_init_29 : decode cX7_init 29 = .ok (.bipush 110, 2) := by decide +kernel
theorem dX7_init_31 : decode cX7_init 31 = .ok (.newarray .int, 2) := by decide +kernel
theorem dX7_init_33 : decode cX7_init 33 = .ok (.putfield 20, 3) := by decide +kernel
theorem dX7_init_36 : decode cX7_init 36 = .ok (.aload_n 0, 1) := by decide +kernel
theorem dX7_init_37 : decode cX7_init 37 = .ok (.iconst 4, 1) := by decide +kernel
theorem dX7_init_38 : decode cX7_init 38 = .ok (.newarray .int, 2) := by decide +kernel
theorem dX7_init_40 : decode cX7_init 40 = .ok (.putfield 23, 3) := by decide +kernel
theorem dX7_init_43 : decode cX7_init 43 = .ok (.aload_n 0, 1) := by decide +kernel
theorem dX7_init_44 : decode cX7_init 44 = .ok (.bipush 24, 2) := by decide +kernel
theorem dX7_init_46 : decode cX7_init 46 = .ok (.newarray .int, 2) := by decide +kernel
theorem dX7_init_48 : decode cX7_init 48 = .ok (.putfield 26, 3) := by decide +kernel
theorem dX7_init_51 : decode cX7_init 51 = .ok (.aload_n 0, 1) := by decide +kernel
theorem dX7_init_52 : decode cX7_init 52 = .ok (.iconst 4, 1) := by decide +kernel
theorem dX7_init_53 : decode cX7_init 53 = .ok (.newarray .int, 2) := by decide +kernel
theorem dX7_init_55 : decode cX7_init 55 = .ok (.putfield 29, 3) := by decide +kernel
theorem dX7_init_58 : decode cX7_init 58 = .ok (.aload_n 0, 1) := by decide +kernel
theorem dX7_init_59 : decode cX7_init 59 = .ok (.bipush 24, 2) := by decide +kernel
theorem dX7_init_61 : decode cX7_init 61 = .ok (.newarray .int, 2) := by decide +kernel
theorem dX7_init_63 : decode cX7_init 63 = .ok (.putfield 32, 3) := by decide +kernel
theorem dX7_init_66 : decode cX7_init 66 = .ok (.aload_n 0, 1) := by decide +kernel
theorem dX7_init_67 : decode cX7_init 67 = .ok (.bipush 24, 2) := by decide +kernel
theorem dX7_init_69 : decode cX7_init 69 = .ok (.newarray .int, 2) := by decide +kernel
theorem dX7_init_71 : decode cX7_init 71 = .ok (.putfield 35, 3) := by decide +kernel
theorem dX7_init_74 : decode cX7_init 74 = .ok (.aload_n 0, 1) := by decide +kernel
theorem dX7_init_75 : decode cX7_init 75 = .ok (.bipush (-9), 2) := by decide +kernel
theorem dX7_init_77 : decode cX7_init 77 = .ok (.putfield 38, 3) := by decide +kernel
theorem dX7_init_80 : decode cX7_init 80 = .ok (.aload_n 0, 1) := by decide +kernel
theorem dX7_init_81 : decode cX7_init 81 = .ok (.bipush 8, 2) := by decide +kernel
theorem dX7_init_83 : decode cX7_init 83 = .ok (.newarray .int, 2) := by decide +kernel
theorem dX7_init_85 : decode cX7_init 85 = .ok (.putfield 42, 3) := by decide +kernel
theorem dX7_init_88 : decode cX7_init 88 = .ok (.aload_n 0, 1) := by decide +kernel
theorem dX7_init_89 : decode cX7_init 89 = .ok (.bipush 6, 2) := by decide +kernel
theorem dX7_init_91 : decode cX7_init 91 = .ok (.newarray .int, 2) := by decide +kernel
theorem dX7_init_93 : decode cX7_init 93 = .ok (.putfield 45, 3) := by decide +kernel
theorem dX7_init_96 : decode cX7_init 96 = .ok (.aload_n 0, 1) := by decide +kernel
theorem dX7_init_97 : decode cX7_init 97 = .ok (.bipush 6, 2) := by decide +kernel
theorem dX7_init_99 : decode cX7_init 99 = .ok (.newarray .int, 2) := by decide +kernel
theorem dX7_init_101 : decode cX7_init 101 = .ok (.putfield 48, 3) := by decide +kernel
theorem dX7_init_104 : decode cX7_init 104 = .ok (.return_, 1) := by decide +kernel
theorem dX7_in_0 : decode cX7_in 0 = .ok (.lload_n 0, 1) := by decide +kernel
theorem dX7_in_1 : decode cX7_in 1 = .ok (.lload_n 2, 1) := by decide +kernel
theorem dX7_in_2 : decode cX7_in 2 = .ok (.lcmp, 1) := by decide +kernel
theorem dX7_in_3 : decode cX7_in 3 = .ok (.ifCond .lt 14, 3) := by decide +kernel
theorem dX7_in_6 : decode cX7_in 6 = .ok (.lload_n 0, 1) := by decide +kernel
theorem dX7_in_7 : decode cX7_in 7 = .ok (.lload 4, 2) := by decide +kernel
theorem dX7_in_9 : decode cX7_in 9 = .ok (.lcmp, 1) := by decide +kernel
theorem dX7_in_10 : decode cX7_in 10 = .ok (.ifCond .gt 7, 3) := by decide +kernel
theorem dX7_in_13 : decode cX7_in 13 = .ok (.iconst 1, 1) := by decide +kernel
theorem dX7_in_14 : decode cX7_in 14 = .ok (.goto 4, 3) := by decide +kernel
theorem dX7_in_17 : decode cX7_in 17 = .ok (.iconst 0, 1) := by decide +kernel
theorem dX7_in_18 : decode cX7_in 18 = .ok (.ireturn, 1) := by decide +kernel
theorem dX7_has_0 : decode cX7_has 0 = .ok (.iload_n 0, 1) := by decide +kernel
theorem dX7_has_1 : decode cX7_has 1 = .ok (.iload_n 1, 1) := by decide +kernel
theorem dX7_has_2 : decode cX7_has 2 = .ok (.ishr, 1) := by decide +kernel
theorem dX7_has_3 : decode cX7_has 3 = .ok (.iconst 1, 1) := by decide +kernel
theorem dX7_has_4 : decode cX7_has 4 = .ok (.iand, 1) := by decide +kernel
theorem dX7_has_5 : decode cX7_has 5 = .ok (.iconst 1, 1) := by decide +kernel
theorem dX7_has_6 : decode cX7_has 6 = .ok (.if_icmp .ne 7, 3) := by decide +kernel
theorem dX7_has_9 : decode cX7_has 9 = .ok (.iconst 1, 1) := by decide +kernel
theorem dX7_has_10 : decode cX7_has 10 = .ok (.goto 4, 3) := by decide +kernel
theorem dX7_has_13 : decode cX7_has 13 = .ok (.iconst 0, 1) := by decide +kernel
theorem dX7_has_14 : decode cX7_has 14 = .ok (.ireturn, 1) := by decide +kernel
theorem dX7_ones_0 : decode cX7_ones 0 = .ok (.iconst 0, 1) := by decide +kernel
theorem dX7_ones_1 : decode cX7_ones 1 = .ok (.istore_n 1, 1) := by decide +kernel
theorem dX7_ones_2 : decode cX7_ones 2 = .ok (.iconst 0, 1) := by decide +kernel
theorem dX7_ones_3 : decode cX7_ones 3 = .ok (.istore_n 2, 1) := by decide +kernel
theorem dX7_ones_4 : decode cX7_ones 4 = .ok (.iload_n 2, 1) := by decide +kernel
theorem dX7_ones_5 : decode cX7_ones 5 = .ok (.bipush 16, 2) := by decide +kernel
theorem dX7_ones_7 : decode cX7_ones 7 = .ok (.if_icmp .ge 17, 3) := by decide +kernel
theorem dX7_ones_10 : decode cX7_ones 10 = .ok (.iload_n 1, 1) := by decide +kernel
theorem dX7_ones_11 : decode cX7_ones 11 = .ok (.iload_n 0, 1) := by decide +kernel
theorem dX7_ones_12 : decode cX7_ones 12 = .ok (.iload_n 2, 1) := by decide +kernel
theorem dX7_ones_13 : decode cX7_ones 13 = .ok (.ishr, 1) := by decide +kernel
theorem dX7_ones_14 : decode cX7_ones 14 = .ok (.iconst 1, 1) := by decide +kernel
theorem dX7_ones_15 : decode cX7_ones 15 = .ok (.iand, 1) := by decide +kernel
theorem dX7_ones_16 : decode cX7_ones 16 = .ok (.iadd, 1) := by decide +kernel
theorem dX7_ones_17 : decode cX7_ones 17 = .ok (.istore_n 1, 1) := by decide +kernel
theorem dX7_ones_18 : decode cX7_ones 18 = .ok (.iinc 2 1, 3) := by decide +kernel
theorem dX7_ones_21 : decode cX7_ones 21 = .ok (.goto (-17), 3) := by decide +kernel
theorem dX7_ones_24 : decode cX7_ones 24 = .ok (.iload_n 1, 1) := by decide +kernel
theorem dX7_ones_25 : decode cX7_ones 25 = .ok (.ireturn, 1) := by decide +kernel
theorem dX7_copy_0 : decode cX7_copy 0 = .ok (.iconst 0, 1) := by decide +kernel
theorem dX7_copy_1 : decode cX7_copy 1 = .ok (.istore_n 3, 1) := by decide +kernel
theorem dX7_copy_2 : decode cX7_copy 2 = .ok (.iload_n 3, 1) := by decide +kernel
theorem dX7_copy_3 : decode cX7_copy 3 = .ok (.bipush 49, 2) := by decide +kernel
theorem dX7_copy_5 : decode cX7_copy 5 = .ok (.if_icmp .ge 25, 3) := by decide +kernel
theorem dX7_copy_8 : decode cX7_copy 8 = .ok (.aload_n 0, 1) := by decide +kernel
theorem dX7_copy_9 : decode cX7_copy 9 = .ok (.getfield 7, 3) := by decide +kernel
theorem dX7_copy_12 : decode cX7_copy 12 = .ok (.iload_n 2, 1) := by decide +kernel
theorem dX7_copy_13 : decode cX7_copy 13 = .ok (.iload_n 3, 1) := by decide +kernel
theorem dX7_copy_14 : decode cX7_copy 14 = .ok (.iadd, 1) := by decide +kernel
theorem dX7_copy_15 : decode cX7_copy 15 = .ok (.aload_n 0, 1) := by decide +kernel
theorem dX7_copy_16 : decode cX7_copy 16 = .ok (.getfield 7, 3) := by decide +kernel
theorem dX7_copy_19 : decode cX7_copy 19 = .ok (.iload_n 1, 1) := by decide +kernel
theorem dX7_copy_20 : decode cX7_copy 20 = .ok (.iload_n 3, 1) := by decide +kernel
theorem dX7_copy_21 : decode cX7_copy 21 = .ok (.iadd, 1) := by decide +kernel
theorem dX7_copy_22 : decode cX7_copy 22 = .ok (.iaload, 1) := by decide +kernel
theorem dX7_copy_23 : decode cX7_copy 23 = .ok (.iastore, 1) := by decide +kernel
theorem dX7_copy_24 : decode cX7_copy 24 = .ok (.iinc 3 1, 3) := by decide +kernel
theorem dX7_copy_27 : decode cX7_copy 27 = .ok (.goto (-25), 3) := by decide +kernel
theorem dX7_copy_30 : decode cX7_copy 30 = .ok (.return_, 1) := by decide +kernel
theorem dX7_minds_0 : decode cX7_minds 0 = .ok (.aload_n 0, 1) := by decide +kernel
theorem dX7_minds_1 : decode cX7_minds 1 = .ok (.getfield 51, 3) := by decide +kernel
theorem dX7_minds_4 : decode cX7_minds 4 = .ok (.bipush 10, 2) := by decide +kernel
theorem dX7_minds_6 : decode cX7_minds 6 = .ok (.if_icmp .ne 48, 3) := by decide +kernel
theorem dX7_minds_9 : decode cX7_minds 9 = .ok (.iconst 0, 1) := by decide +kernel
theorem dX7_minds_10 : decode cX7_minds 10 = .ok (.istore_n 1, 1) := by decide +kernel
theorem dX7_minds_11 : decode cX7_minds 11 = .ok (.iload_n 1, 1) := by decide +kernel
theorem dX7_minds_12 : decode cX7_minds 12 = .ok (.sipush 441, 3) := by decide +kernel
theorem dX7_minds_15 : decode cX7_minds 15 = .ok (.if_icmp .ge 29, 3) := by decide +kernel
theorem dX7_minds_18 : decode cX7_minds 18 = .ok (.aload_n 0, 1) := by decide +kernel
theorem dX7_minds_19 : decode cX7_minds 19 = .ok (.getfield 7, 3) := by decide +kernel
theorem dX7_minds_22 : decode cX7_minds 22 = .ok (.sipush 147, 3) := by decide +kernel
theorem dX7_minds_25 : decode cX7_minds 25 = .ok (.iload_n 1, 1) := by decide +kernel
theorem dX7_minds_26 : decode cX7_minds 26 = .ok (.iadd, 1) := by decide +kernel
theorem dX7_minds_27 : decode cX7_minds 27 = .ok (.aload_n 0, 1) := by decide +kernel
theorem dX7_minds_28 : decode cX7_minds 28 = .ok (.getfield 7, 3) := by decide +kernel
theorem dX7_minds_31 : decode cX7_minds 31 = .ok (.sipush 196, 3) := by decide +kernel
theorem dX7_minds_34 : decode cX7_minds 34 = .ok (.iload_n 1, 1) := by decide +kernel
theorem dX7_minds_35 : decode cX7_minds 35 = .ok (.iadd, 1) := by decide +kernel
theorem dX7_minds_36 : decode cX7_minds 36 = .ok (.iaload, 1) := by decide +kernel
theorem dX7_minds_37 : decode cX7_minds 37 = .ok (.iastore, 1) := by decide +kernel
theorem dX7_minds_38 : decode cX7_minds 38 = .ok (.iinc 1 1, 3) := by decide +kernel
theorem dX7_minds_41 : decode cX7_minds 41 = .ok (.goto (-30), 3) := by decide +kernel
theorem dX7_minds_44 : decode cX7_minds 44 = .ok (.aload_n 0, 1) := by decide +kernel
theorem dX7_minds_45 : decode cX7_minds 45 = .ok (.dup, 1) := by decide +kernel
theorem dX7_minds_46 : decode cX7_minds 46 = .ok (.getfield 51, 3) := by decide +kernel
theorem dX7_minds_49 : decode cX7_minds 49 = .ok (.iconst 1, 1) := by decide +kernel
theorem dX7_minds_50 : decode cX7_minds 50 = .ok (.isub, 1) := by decide +kernel
theorem dX7_minds_51 : decode cX7_minds 51 = .ok (.putfield 51, 3) := by decide +kernel
theorem dX7_minds_54 : decode cX7_minds 54 = .ok (.aload_n 0, 1) := by decide +kernel
theorem dX7_minds_55 : decode cX7_minds 55 = .ok (.iconst 0, 1) := by decide +kernel
theorem dX7_minds_56 : decode cX7_minds 56 = .ok (.sipush 147, 3) := by decide +kernel
theorem dX7_minds_59 : decode cX7_minds 59 = .ok (.bipush 49, 2) := by decide +kernel
theorem dX7_minds_61 : decode cX7_minds 61 = .ok (.aload_n 0, 1) := by decide +kernel
theorem dX7_minds_62 : decode cX7_minds 62 = .ok (.getfield 51, 3) := by decide +kernel
theorem dX7_minds_65 : decode cX7_minds 65 = .ok (.imul, 1) := by decide +kernel
theorem dX7_minds_66 : decode cX7_minds 66 = .ok (.iadd, 1) := by decide +kernel
theorem dX7_minds_67 : decode cX7_minds 67 = .ok (.invokevirtual 54, 3) := by decide +kernel
theorem dX7_minds_70 : decode cX7_minds 70 = .ok (.aload_n 0, 1) := by decide +kernel
theorem dX7_minds_71 : decode cX7_minds 71 = .ok (.dup, 1) := by decide +kernel
theorem dX7_minds_72 : decode cX7_minds 72 = .ok (.getfield 51, 3) := by decide +kernel
theorem dX7_minds_75 : decode cX7_minds 75 = .ok (.iconst 1, 1) := by decide +kernel
theorem dX7_minds_76 : decode cX7_minds 76 = .ok (.iadd, 1) := by decide +kernel
theorem dX7_minds_77 : decode cX7_minds 77 = .ok (.putfield 51, 3) := by decide +kernel
theorem dX7_minds_80 : decode cX7_minds 80 = .ok (.return_, 1) := by decide +kernel
theorem dX7_isDigit_0 : decode cX7_isDigit 0 = .ok (.iload_n 0, 1) := by decide +kernel
theorem dX7_isDigit_1 : decode cX7_isDigit 1 = .ok (.i2l, 1) := by decide +kernel
theorem dX7_isDigit_2 : decode cX7_isDigit 2 = .ok (.ldc2_w 58, 3) := by decide +kernel
theorem dX7_isDigit_5 : decode cX7_isDigit 5 = .ok (.ldc2_w 60, 3) := by decide +kernel
theorem dX7_isDigit_8 : decode cX7_isDigit 8 = .ok (.invokestatic 62, 3) := by decide +kernel
theorem dX7_isDigit_11 : decode cX7_isDigit 11 = .ok (.ireturn, 1) := by decide +kernel
theorem dX7_take_0 : decode cX7_take 0 = .ok (.aload_n 0, 1) := by decide +kernel
theorem dX7_take_1 : decode cX7_take 1 = .ok (.getfield 66, 3) := by decide +kernel
theorem dX7_take_4 : decode cX7_take 4 = .ok (.aload_n 0, 1) := by decide +kernel
theorem dX7_take_5 : decode cX7_take 5 = .ok (.getfield 69, 3) := by decide +kernel
theorem dX7_take_8 : decode cX7_take 8 = .ok (.if_icmp .ge 30, 3) := by decide +kernel
theorem dX7_take_11 : decode cX7_take 11 = .ok (.aload_n 0, 1) := by decide +kernel
theorem dX7_take_12 : decode cX7_take 12 = .ok (.getfield 20, 3) := by decide +kernel
theorem dX7_take_15 : decode cX7_take 15 = .ok (.aload_n 0, 1) := by decide +kernel
theorem dX7_take_16 : decode cX7_take 16 = .ok (.getfield 66, 3) := by decide +kernel
theorem dX7_take_19 : decode cX7_take 19 = .ok (.iaload, 1) := by decide +kernel
theorem dX7_take_20 : decode cX7_take 20 = .ok (.bipush 32, 2) := by decide +kernel
theorem dX7_take_22 : decode cX7_take 22 = .ok (.if_icmp .ne 16, 3) := by decide +kernel
theorem dX7_take_25 : decode cX7_take 25 = .ok (.aload_n 0, 1) := by decide +kernel
theorem dX7_take_26 : decode cX7_take 26 = .ok (.dup, 1) := by decide +kernel
theorem dX7_take_27 : decode cX7_take 27 = .ok (.getfield 66, 3) := by decide +kernel
theorem dX7_take_30 : decode cX7_take 30 = .ok (.iconst 1, 1) := by decide +kernel
theorem dX7_take_31 : decode cX7_take 31 = .ok (.iadd, 1) := by decide +kernel
theorem dX7_take_32 : decode cX7_take 32 = .ok (.putfield 66, 3) := by decide +kernel
theorem dX7_take_35 : decode cX7_take 35 = .ok (.goto (-35), 3) := by decide +kernel
theorem dX7_take_38 : decode cX7_take 38 = .ok (.aload_n 0, 1) := by decide +kernel
theorem dX7_take_39 : decode cX7_take 39 = .ok (.aload_n 0, 1) := by decide +kernel
theorem dX7_take_40 : decode cX7_take 40 = .ok (.getfield 66, 3) := by decide +kernel
theorem dX7_take_43 : decode cX7_take 43 = .ok (.putfield 72, 3) := by decide +kernel
theorem dX7_take_46 : decode cX7_take 46 = .ok (.aload_n 0, 1) := by decide +kernel
theorem dX7_take_47 : decode cX7_take 47 = .ok (.aload_n 0, 1) := by decide +kernel
theorem dX7_take_48 : decode cX7_take 48 = .ok (.getfield 66, 3) := by decide +kernel
theorem dX7_take_51 : decode cX7_take 51 = .ok (.aload_n 0, 1) := by decide +kernel
theorem dX7_take_52 : decode cX7_take 52 = .ok (.getfield 69, 3) := by decide +kernel
theorem dX7_take_55 : decode cX7_take 55 = .ok (.if_icmp .ge 15, 3) := by decide +kernel
theorem dX7_take_58 : decode cX7_take 58 = .ok (.aload_n 0, 1) := by decide +kernel
theorem dX7_take_59 : decode cX7_take 59 = .ok (.getfield 20, 3) := by decide +kernel
theorem dX7_take_62 : decode cX7_take 62 = .ok (.aload_n 0, 1) := by decide +kernel
theorem dX7_take_63 : decode cX7_take 63 = .ok (.getfield 66, 3) := by decide +kernel
theorem dX7_take_66 : decode cX7_take 66 = .ok (.iaload, 1) := by decide +kernel
theorem dX7_take_67 : decode cX7_take 67 = .ok (.goto 4, 3) := by decide +kernel
theorem dX7_take_70 : decode cX7_take 70 = .ok (.iconst (-1), 1) := by decide +kernel
theorem dX7_take_71 : decode cX7_take 71 = .ok (.putfield 75, 3) := by decide +kernel
theorem dX7_take_74 : decode cX7_take 74 = .ok (.aload_n 0, 1) := by decide +kernel
theorem dX7_take_75 : decode cX7_take 75 = .ok (.dup, 1) := by decide +kernel
theorem dX7_take_76 : decode cX7_take 76 = .ok (.getfield 66, 3) := by decide +kernel
theorem dX7_take_79 : decode cX7_take 79 = .ok (.aload_n 0, 1) := by decide +kernel
theorem dX7_take_80 : decode cX7_take 80 = .ok (.getfield 66, 3) := by decide +kernel
theorem dX7_take_83 : decode cX7_take 83 = .ok (.aload_n 0, 1) := by decide +kernel
theorem dX7_take_84 : decode cX7_take 84 = .ok (.getfield 69, 3) := by decide +kernel
theorem dX7_take_87 : decode cX7_take 87 = .ok (.if_icmp .ge 7, 3) := by decide +kernel
theorem dX7_take_90 : decode cX7_take 90 = .ok (.iconst 1, 1) := by decide +kernel
theorem dX7_take_91 : decode cX7_take 91 = .ok (.goto 4, 3) := by decide +kernel
theorem dX7_take_94 : decode cX7_take 94 = .ok (.iconst 0, 1) := by decide +kernel
theorem dX7_take_95 : decode cX7_take 95 = .ok (.iadd, 1) := by decide +kernel
theorem dX7_take_96 : decode cX7_take 96 = .ok (.putfield 66, 3) := by decide +kernel
theorem dX7_take_99 : decode cX7_take 99 = .ok (.aload_n 0, 1) := by decide +kernel
theorem dX7_take_100 : decode cX7_take 100 = .ok (.getfield 75, 3) := by decide +kernel
theorem dX7_take_103 : decode cX7_take 103 = .ok (.invokestatic 78, 3) := by decide +kernel
theorem dX7_take_106 : decode cX7_take 106 = .ok (.ifCond .eq 100, 3) := by decide +kernel
theorem dX7_take_109 : decode cX7_take 109 = .ok (.aload_n 0, 1) := by decide +kernel
theorem dX7_take_110 : decode cX7_take 110 = .ok (.getfield 75, 3) := by decide +kernel
theorem dX7_take_113 : decode cX7_take 113 = .ok (.bipush 48, 2) := by decide +kernel
theorem dX7_take_115 : decode cX7_take 115 = .ok (.isub, 1) := by decide +kernel
theorem dX7_take_116 : decode cX7_take 116 = .ok (.istore_n 1, 1) := by decide +kernel
theorem dX7_take_117 : decode cX7_take 117 = .ok (.aload_n 0, 1) := by decide +kernel
theorem dX7_take_118 : decode cX7_take 118 = .ok (.getfield 66, 3) := by decide +kernel
theorem dX7_take_121 : decode cX7_take 121 = .ok (.aload_n 0, 1) := by decide +kernel
theorem dX7_take_122 : decode cX7_take 122 = .ok (.getfield 69, 3) := by decide +kernel
theorem dX7_take_125 : decode cX7_take 125 = .ok (.if_icmp .ge 72, 3) := by decide +kernel
theorem dX7_take_128 : decode cX7_take 128 = .ok (.aload_n 0, 1) := by decide +kernel
theorem dX7_take_129 : decode cX7_take 129 = .ok (.getfield 20, 3) := by decide +kernel
theorem dX7_take_132 : decode cX7_take 132 = .ok (.aload_n 0, 1) := by decide +kernel
theorem dX7_take_133 : decode cX7_take 133 = .ok (.getfield 66, 3) := by decide +kernel
theorem dX7_take_136 : decode cX7_take 136 = .ok (.iaload, 1) := by decide +kernel
theorem dX7_take_137 : decode cX7_take 137 = .ok (.invokestatic 78, 3) := by decide +kernel
theorem dX7_take_140 : decode cX7_take 140 = .ok (.ifCond .eq 57, 3) := by decide +kernel
theorem dX7_take_143 : decode cX7_take 143 = .ok (.aload_n 0, 1) := by decide +kernel
theorem dX7_take_144 : decode cX7_take 144 = .ok (.getfield 66, 3) := by decide +kernel
theorem dX7_take_147 : decode cX7_take 147 = .ok (.aload_n 0, 1) := by decide +kernel
theorem dX7_take_148 : decode cX7_take 148 = .ok (.getfield 72, 3) := by decide +kernel
theorem dX7_take_151 : decode cX7_take 151 = .ok (.iconst 1, 1) := by decide +kernel
theorem dX7_take_152 : decode cX7_take 152 = .ok (.iadd, 1) := by decide +kernel
theorem dX7_take_153 : decode cX7_take 153 = .ok (.if_icmp .ne 27, 3) := by decide +kernel
theorem dX7_take_156 : decode cX7_take 156 = .ok (.iload_n 1, 1) := by decide +kernel
theorem dX7_take_157 : decode cX7_take 157 = .ok (.ifCond .le 23, 3) := by decide +kernel
theorem dX7_take_160 : decode cX7_take 160 = .ok (.bipush 10, 2) := by decide +kernel
theorem dX7_take_162 : decode cX7_take 162 = .ok (.iload_n 1, 1) := by decide +kernel
theorem dX7_take_163 : decode cX7_take 163 = .ok (.imul, 1) := by decide +kernel
theorem dX7_take_164 : decode cX7_take 164 = .ok (.aload_n 0, 1) := by decide +kernel
theorem dX7_take_165 : decode cX7_take 165 = .ok (.getfield 20, 3) := by decide +kernel
theorem dX7_take_168 : decode cX7_take 168 = .ok (.aload_n 0, 1) := by decide +kernel
theorem dX7_take_169 : decode cX7_take 169 = .ok (.getfield 66, 3) := by decide +kernel
theorem dX7_take_172 : decode cX7_take 172 = .ok (.iaload, 1) := by decide +kernel
theorem dX7_take_173 : decode cX7_take 173 = .ok (.iadd, 1) := by decide +kernel
theorem dX7_take_174 : decode cX7_take 174 = .ok (.bipush 48, 2) := by decide +kernel
theorem dX7_take_176 : decode cX7_take 176 = .ok (.isub, 1) := by decide +kernel
theorem dX7_take_177 : decode cX7_take 177 = .ok (.goto 6, 3) := by decide +kernel
theorem dX7_take_180 : decode cX7_take 180 = .ok (.sipush 1000, 3) := by decide +kernel
theorem dX7_take_183 : decode cX7_take 183 = .ok (.istore_n 1, 1) := by decide +kernel
theorem dX7_take_184 : decode cX7_take 184 = .ok (.aload_n 0, 1) := by decide +kernel
theorem dX7_take_185 : decode cX7_take 185 = .ok (.dup, 1) := by decide +kernel
theorem dX7_take_186 : decode cX7_take 186 = .ok (.getfield 66, 3) := by decide +kernel
theorem dX7_take_189 : decode cX7_take 189 = .ok (.iconst 1, 1) := by decide +kernel
theorem dX7_take_190 : decode cX7_take 190 = .ok (.iadd, 1) := by decide +kernel
theorem dX7_take_191 : decode cX7_take 191 = .ok (.putfield 66, 3) := by decide +kernel
theorem dX7_take_194 : decode cX7_take 194 = .ok (.goto (-77), 3) := by decide +kernel
theorem dX7_take_197 : decode cX7_take 197 = .ok (.aload_n 0, 1) := by decide +kernel
theorem dX7_take_198 : decode cX7_take 198 = .ok (.sipush 1000, 3) := by decide +kernel
theorem dX7_take_201 : decode cX7_take 201 = .ok (.iload_n 1, 1) := by decide +kernel
theorem dX7_take_202 : decode cX7_take 202 = .ok (.iadd, 1) := by decide +kernel
theorem dX7_take_203 : decode cX7_take 203 = .ok (.putfield 75, 3) := by decide +kernel
theorem dX7_take_206 : decode cX7_take 206 = .ok (.return_, 1) := by decide +kernel
theorem dX7_isNumber_0 : decode cX7_isNumber 0 = .ok (.aload_n 0, 1) := by decide +kernel
theorem dX7_isNumber_1 : decode cX7_isNumber 1 = .ok (.getfield 75, 3) := by decide +kernel
theorem dX7_isNumber_4 : decode cX7_isNumber 4 = .ok (.i2l, 1) := by decide +kernel
theorem dX7_isNumber_5 : decode cX7_isNumber 5 = .ok (.sipush 1000, 3) := by decide +kernel
theorem dX7_isNumber_8 : decode cX7_isNumber 8 = .ok (.iload_n 1, 1) := by decide +kernel
theorem dX7_isNumber_9 : decode cX7_isNumber 9 = .ok (.iadd, 1) := by decide +kernel
theorem dX7_isNumber_10 : decode cX7_isNumber 10 = .ok (.i2l, 1) := by decide +kernel
theorem dX7_isNumber_11 : decode cX7_isNumber 11 = .ok (.sipush 1000, 3) := by decide +kernel
theorem dX7_isNumber_14 : decode cX7_isNumber 14 = .ok (.iload_n 2, 1) := by decide +kernel
theorem dX7_isNumber_15 : decode cX7_isNumber 15 = .ok (.iadd, 1) := by decide +kernel
theorem dX7_isNumber_16 : decode cX7_isNumber 16 = .ok (.i2l, 1) := by decide +kernel
theorem dX7_isNumber_17 : decode cX7_isNumber 17 = .ok (.invokestatic 62, 3) := by decide +kernel
theorem dX7_isNumber_20 : decode cX7_isNumber 20 = .ok (.ireturn, 1) := by decide +kernel
theorem dX7_isEvent_0 : decode cX7_isEvent 0 = .ok (.aload_n 0, 1) := by decide +kernel
theorem dX7_isEvent_1 : decode cX7_isEvent 1 = .ok (.getfield 75, 3) := by decide +kernel
theorem dX7_isEvent_4 : decode cX7_isEvent 4 = .ok (.i2l, 1) := by decide +kernel
theorem dX7_isEvent_5 : decode cX7_isEvent 5 = .ok (.ldc2_w 82, 3) := by decide +kernel
theorem dX7_isEvent_8 : decode cX7_isEvent 8 = .ok (.ldc2_w 84, 3) := by decide +kernel
theorem dX7_isEvent_11 : decode cX7_isEvent 11 = .ok (.invokestatic 62, 3) := by decide +kernel
theorem dX7_isEvent_14 : decode cX7_isEvent 14 = .ok (.ireturn, 1) := by decide +kernel
theorem dX7_readsEnd_0 : decode cX7_readsEnd 0 = .ok (.aload_n 0, 1) := by decide +kernel
theorem dX7_readsEnd_1 : decode cX7_readsEnd 1 = .ok (.getfield 75, 3) := by decide +kernel
theorem dX7_readsEnd_4 : decode cX7_readsEnd 4 = .ok (.bipush 59, 2) := by decide +kernel
theorem dX7_readsEnd_6 : decode cX7_readsEnd 6 = .ok (.if_icmp .ne 7, 3) := by decide +kernel
theorem dX7_readsEnd_9 : decode cX7_readsEnd 9 = .ok (.iconst 1, 1) := by decide +kernel
theorem dX7_readsEnd_10 : decode cX7_readsEnd 10 = .ok (.goto 4, 3) := by decide +kernel
theorem dX7_readsEnd_13 : decode cX7_readsEnd 13 = .ok (.iconst 0, 1) := by decide +kernel
theorem dX7_readsEnd_14 : decode cX7_readsEnd 14 = .ok (.istore_n 1, 1) := by decide +kernel
theorem dX7_readsEnd_15 : decode cX7_readsEnd 15 = .ok (.iload_n 1, 1) := by decide +kernel
theorem dX7_readsEnd_16 : decode cX7_readsEnd 16 = .ok (.ifCond .eq 7, 3) := by decide +kernel
theorem dX7_readsEnd_19 : decode cX7_readsEnd 19 = .ok (.aload_n 0, 1) := by decide +kernel
theorem dX7_readsEnd_20 : decode cX7_readsEnd 20 = .ok (.invokevirtual 86, 3) := by decide +kernel
theorem dX7_readsEnd_23 : decode cX7_readsEnd 23 = .ok (.iload_n 1, 1) := by decide +kernel
theorem dX7_readsEnd_24 : decode cX7_readsEnd 24 = .ok (.ireturn, 1) := by decide +kernel
theorem dX7_readsSlack_0 : decode cX7_readsSlack 0 = .ok (.aload_n 0, 1) := by decide +kernel
theorem dX7_readsSlack_1 : decode cX7_readsSlack 1 = .ok (.getfield 89, 3) := by decide +kernel
theorem dX7_readsSlack_4 : decode cX7_readsSlack 4 = .ok (.bipush (-9), 2) := by decide +kernel
theorem dX7_readsSlack_6 : decode cX7_readsSlack 6 = .ok (.if_icmp .eq 5, 3) := by decide +kernel
theorem dX7_readsSlack_9 : decode cX7_readsSlack 9 = .ok (.iconst 0, 1) := by decide +kernel
theorem dX7_readsSlack_10 : decode cX7_readsSlack 10 = .ok (.ireturn, 1) := by decide +kernel
theorem dX7_readsSlack_11 : decode cX7_readsSlack 11 = .ok (.aload_n 0, 1) := by decide +kernel
theorem dX7_readsSlack_12 : decode cX7_readsSlack 12 = .ok (.invokevirtual 86, 3) := by decide +kernel
theorem dX7_readsSlack_15 : decode cX7_readsSlack 15 = .ok (.aload_n 0, 1) := by decide +kernel
theorem dX7_readsSlack_16 : decode cX7_readsSlack 16 = .ok (.iconst 0, 1) := by decide +kernel
theorem dX7_readsSlack_17 : decode cX7_readsSlack 17 = .ok (.bipush 9, 2) := by decide +kernel
theorem dX7_readsSlack_19 : decode cX7_readsSlack 19 = .ok (.invokevirtual 92, 3) := by decide +kernel
theorem dX7_readsSlack_22 : decode cX7_readsSlack 22 = .ok (.ifCond .ne 5, 3) := by decide +kernel
theorem dX7_readsSlack_25 : decode cX7_readsSlack 25 = .ok (.iconst 0, 1) := by decide +kernel
theorem dX7_readsSlack_26 : decode cX7_readsSlack 26 = .ok (.ireturn, 1) := by decide +kernel
theorem dX7_readsSlack_27 : decode cX7_readsSlack 27 = .ok (.aload_n 0, 1) := by decide +kernel
theorem dX7_readsSlack_28 : decode cX7_readsSlack 28 = .ok (.aload_n 0, 1) := by decide +kernel
theorem dX7_readsSlack_29 : decode cX7_readsSlack 29 = .ok (.getfield 75, 3) := by decide +kernel
theorem dX7_readsSlack_32 : decode cX7_readsSlack 32 = .ok (.sipush 1000, 3) := by decide +kernel
theorem dX7_readsSlack_35 : decode cX7_readsSlack 35 = .ok (.isub, 1) := by decide +kernel
theorem dX7_readsSlack_36 : decode cX7_readsSlack 36 = .ok (.putfield 89, 3) := by decide +kernel
theorem dX7_readsSlack_39 : decode cX7_readsSlack 39 = .ok (.aload_n 0, 1) := by decide +kernel
theorem dX7_readsSlack_40 : decode cX7_readsSlack 40 = .ok (.invokevirtual 86, 3) := by decide +kernel
theorem dX7_readsSlack_43 : decode cX7_readsSlack 43 = .ok (.aload_n 0, 1) := by decide +kernel
theorem dX7_readsSlack_44 : decode cX7_readsSlack 44 = .ok (.invokevirtual 96, 3) := by decide +kernel
theorem dX7_readsSlack_47 : decode cX7_readsSlack 47 = .ok (.ireturn, 1) := by decide +kernel
theorem dX7_readsHouse_0 : decode cX7_readsHouse 0 = .ok (.aload_n 0, 1) := by decide +kernel
theorem dX7_readsHouse_1 : decode cX7_readsHouse 1 = .ok (.getfield 100, 3) := by decide +kernel
theorem dX7_readsHouse_4 : decode cX7_readsHouse 4 = .ok (.iconst 4, 1) := by decide +kernel
theorem dX7_readsHouse_5 : decode cX7_readsHouse 5 = .ok (.if_icmp .ne 5, 3) := by decide +kernel
theorem dX7_readsHouse_8 : decode cX7_readsHouse 8 = .ok (.iconst 0, 1) := by decide +kernel
theorem dX7_readsHouse_9 : decode cX7_readsHouse 9 = .ok (.ireturn, 1) := by decide +kernel
theorem dX7_readsHouse_10 : decode cX7_readsHouse 10 = .ok (.aload_n 0, 1) := by decide +kernel
theorem dX7_readsHouse_11 : decode cX7_readsHouse 11 = .ok (.invokevirtual 86, 3) := by decide +kernel
theorem dX7_readsHouse_14 : decode cX7_readsHouse 14 = .ok (.bipush 6, 2) := by decide +kernel
theorem dX7_readsHouse_16 : decode cX7_readsHouse 16 = .ok (.aload_n 0, 1) := by decide +kernel
theorem dX7_readsHouse_17 : decode cX7_readsHouse 17 = .ok (.getfield 100, 3) := by decide +kernel
theorem dX7_readsHouse_20 : decode cX7_readsHouse 20 = .ok (.imul, 1) := by decide +kernel
theorem dX7_readsHouse_21 : decode cX7_readsHouse 21 = .ok (.istore_n 1, 1) := by decide +kernel
theorem dX7_readsHouse_22 : decode cX7_readsHouse 22 = .ok (.iconst 0, 1) := by decide +kernel
theorem dX7_readsHouse_23 : decode cX7_readsHouse 23 = .ok (.istore_n 2, 1) := by decide +kernel
theorem dX7_readsHouse_24 : decode cX7_readsHouse 24 = .ok (.aload_n 0, 1) := by decide +kernel
theorem dX7_readsHouse_25 : decode cX7_readsHouse 25 = .ok (.invokevirtual 103, 3) := by decide +kernel
theorem dX7_readsHouse_28 : decode cX7_readsHouse 28 = .ok (.ifCond .eq 139, 3) := by decide +kernel
theorem dX7_readsHouse_31 : decode cX7_readsHouse 31 = .ok (.iload_n 2, 1) := by decide +kernel
theorem dX7_readsHouse_32 : decode cX7_readsHouse 32 = .ok (.bipush 6, 2) := by decide +kernel
theorem dX7_readsHouse_34 : decode cX7_readsHouse 34 = .ok (.if_icmp .ge 7, 3) := by decide +kernel
theorem dX7_readsHouse_37 : decode cX7_readsHouse 37 = .ok (.iconst 1, 1) := by decide +kernel
theorem dX7_readsHouse_38 : decode cX7_readsHouse 38 = .ok (.goto 4, 3) := by decide +kernel
theorem dX7_readsHouse_41 : decode cX7_readsHouse 41 = .ok (.iconst 0, 1) := by decide +kernel
theorem dX7_readsHouse_42 : decode cX7_readsHouse 42 = .ok (.istore_n 3, 1) := by decide +kernel
theorem dX7_readsHouse_43 : decode cX7_readsHouse 43 = .ok (.iconst 0, 1) := by decide +kernel
theorem dX7_readsHouse_44 : decode cX7_readsHouse 44 = .ok (.istore 4, 2) := by decide +kernel
theorem dX7_readsHouse_46 : decode cX7_readsHouse 46 = .ok (.iload 4, 2) := by decide +kernel
theorem dX7_readsHouse_48 : decode cX7_readsHouse 48 = .ok (.iload_n 2, 1) := by decide +kernel
theorem dX7_readsHouse_49 : decode cX7_readsHouse 49 = .ok (.if_icmp .ge 38, 3) := by decide +kernel
theorem dX7_readsHouse_52 : decode cX7_readsHouse 52 = .ok (.iload_n 3, 1) := by decide +kernel
theorem dX7_readsHouse_53 : decode cX7_readsHouse 53 = .ok (.ifCond .eq 26, 3) := by decide +kernel
theorem dX7_readsHouse_56 : decode cX7_readsHouse 56 = .ok (.aload_n 0, 1) := by decide +kernel
theorem dX7_readsHouse_57 : decode cX7_readsHouse 57 = .ok (.getfield 32, 3) := by decide +kernel
theorem dX7_readsHouse_60 : decode cX7_readsHouse 60 = .ok (.iload_n 1, 1) := by decide +kernel
theorem dX7_readsHouse_61 : decode cX7_readsHouse 61 = .ok (.iload 4, 2) := by decide +kernel
theorem dX7_readsHouse_63 : decode cX7_readsHouse 63 = .ok (.iadd, 1) := by decide +kernel
theorem dX7_readsHouse_64 : decode cX7_readsHouse 64 = .ok (.iaload, 1) := by decide +kernel
theorem dX7_readsHouse_65 : decode cX7_readsHouse 65 = .ok (.aload_n 0, 1) := by decide +kernel
theorem dX7_readsHouse_66 : decode cX7_readsHouse 66 = .ok (.getfield 75, 3) := by decide +kernel
theorem dX7_readsHouse_69 : decode cX7_readsHouse 69 = .ok (.bipush 97, 2) := by decide +kernel
theorem dX7_readsHouse_71 : decode cX7_readsHouse 71 = .ok (.isub, 1) := by decide +kernel
theorem dX7_readsHouse_72 : decode cX7_readsHouse 72 = .ok (.if_icmp .eq 7, 3) := by decide +kernel
theorem dX7_readsHouse_75 : decode cX7_readsHouse 75 = .ok (.iconst 1, 1) := by decide +kernel
theorem dX7_readsHouse_76 : decode cX7_readsHouse 76 = .ok (.goto 4, 3) := by decide +kernel
theorem dX7_readsHouse_79 : decode cX7_readsHouse 79 = .ok (.iconst 0, 1) := by decide +kernel
theorem dX7_readsHouse_80 : decode cX7_readsHouse 80 = .ok (.istore_n 3, 1) := by decide +kernel
theorem dX7_readsHouse_81 : decode cX7_readsHouse 81 = .ok (.iinc 4 1, 3) := by decide +kernel
theorem dX7_readsHouse_84 : decode cX7_readsHouse 84 = .ok (.goto (-38), 3) := by decide +kernel
theorem dX7_readsHouse_87 : decode cX7_readsHouse 87 = .ok (.iload_n 3, 1) := by decide +kernel
theorem dX7_readsHouse_88 : decode cX7_readsHouse 88 = .ok (.ifCond .ne 5, 3) := by decide +kernel
theorem dX7_readsHouse_91 : decode cX7_readsHouse 91 = .ok (.iconst 0, 1) := by decide +kernel
theorem dX7_readsHouse_92 : decode cX7_readsHouse 92 = .ok (.ireturn, 1) := by decide +kernel
theorem dX7_readsHouse_93 : decode cX7_readsHouse 93 = .ok (.aload_n 0, 1) := by decide +kernel
theorem dX7_readsHouse_94 : decode cX7_readsHouse 94 = .ok (.getfield 32, 3) := by decide +kernel
theorem dX7_readsHouse_97 : decode cX7_readsHouse 97 = .ok (.iload_n 1, 1) := by decide +kernel
theorem dX7_readsHouse_98 : decode cX7_readsHouse 98 = .ok (.iload_n 2, 1) := by decide +kernel
theorem dX7_readsHouse_99 : decode cX7_readsHouse 99 = .ok (.iadd, 1) := by decide +kernel
theorem dX7_readsHouse_100 : decode cX7_readsHouse 100 = .ok (.aload_n 0, 1) := by decide +kernel
theorem dX7_readsHouse_101 : decode cX7_readsHouse 101 = .ok (.getfield 75, 3) := by decide +kernel
theorem dX7_readsHouse_104 : decode cX7_readsHouse 104 = .ok (.bipush 97, 2) := by decide +kernel
theorem dX7_readsHouse_106 : decode cX7_readsHouse 106 = .ok (.isub, 1) := by decide +kernel
theorem dX7_readsHouse_107 : decode cX7_readsHouse 107 = .ok (.iastore, 1) := by decide +kernel
theorem dX7_readsHouse_108 : decode cX7_readsHouse 108 = .ok (.aload_n 0, 1) := by decide +kernel
theorem dX7_readsHouse_109 : decode cX7_readsHouse 109 = .ok (.invokevirtual 86, 3) := by decide +kernel
theorem dX7_readsHouse_112 : decode cX7_readsHouse 112 = .ok (.aload_n 0, 1) := by decide +kernel
theorem dX7_readsHouse_113 : decode cX7_readsHouse 113 = .ok (.iload_n 2, 1) := by decide +kernel
theorem dX7_readsHouse_114 : decode cX7_readsHouse 114 = .ok (.ifCond .ne 7, 3) := by decide +kernel
theorem dX7_readsHouse_117 : decode cX7_readsHouse 117 = .ok (.iconst 0, 1) := by decide +kernel
theorem dX7_readsHouse_118 : decode cX7_readsHouse 118 = .ok (.goto 13, 3) := by decide +kernel
theorem dX7_readsHouse_121 : decode cX7_readsHouse 121 = .ok (.aload_n 0, 1) := by decide +kernel
theorem dX7_readsHouse_122 : decode cX7_readsHouse 122 = .ok (.getfield 35, 3) := by decide +kernel
theorem dX7_readsHouse_125 : decode cX7_readsHouse 125 = .ok (.iload_n 1, 1) := by decide +kernel
theorem dX7_readsHouse_126 : decode cX7_readsHouse 126 = .ok (.iload_n 2, 1) := by decide +kernel
theorem dX7_readsHouse_127 : decode cX7_readsHouse 127 = .ok (.iadd, 1) := by decide +kernel
theorem dX7_readsHouse_128 : decode cX7_readsHouse 128 = .ok (.iconst 1, 1) := by decide +kernel
theorem dX7_readsHouse_129 : decode cX7_readsHouse 129 = .ok (.isub, 1) := by decide +kernel
theorem dX7_readsHouse_130 : decode cX7_readsHouse 130 = .ok (.iaload, 1) := by decide +kernel
theorem dX7_readsHouse_131 : decode cX7_readsHouse 131 = .ok (.bipush 99, 2) := by decide +kernel
theorem dX7_readsHouse_133 : decode cX7_readsHouse 133 = .ok (.invokevirtual 92, 3) := by decide +kernel
theorem dX7_readsHouse_136 : decode cX7_readsHouse 136 = .ok (.ifCond .ne 5, 3) := by decide +kernel
theorem dX7_readsHouse_139 : decode cX7_readsHouse 139 = .ok (.iconst 0, 1) := by decide +kernel
theorem dX7_readsHouse_140 : decode cX7_readsHouse 140 = .ok (.ireturn, 1) := by decide +kernel
theorem dX7_readsHouse_141 : decode cX7_readsHouse 141 = .ok (.aload_n 0, 1) := by decide +kernel
theorem dX7_readsHouse_142 : decode cX7_readsHouse 142 = .ok (.getfield 35, 3) := by decide +kernel
theorem dX7_readsHouse_145 : decode cX7_readsHouse 145 = .ok (.iload_n 1, 1) := by decide +kernel
theorem dX7_readsHouse_146 : decode cX7_readsHouse 146 = .ok (.iload_n 2, 1) := by decide +kernel
theorem dX7_readsHouse_147 : decode cX7_readsHouse 147 = .ok (.iadd, 1) := by decide +kernel
theorem dX7_readsHouse_148 : decode cX7_readsHouse 148 = .ok (.aload_n 0, 1) := by decide +kernel
theorem dX7_readsHouse_149 : decode cX7_readsHouse 149 = .ok (.getfield 75, 3) := by decide +kernel
theorem dX7_readsHouse_152 : decode cX7_readsHouse 152 = .ok (.sipush 1000, 3) := by decide +kernel
theorem dX7_readsHouse_155 : decode cX7_readsHouse 155 = .ok (.isub, 1) := by decide +kernel
theorem dX7_readsHouse_156 : decode cX7_readsHouse 156 = .ok (.iastore, 1) := by decide +kernel
theorem dX7_readsHouse_157 : decode cX7_readsHouse 157 = .ok (.iinc 2 1, 3) := by decide +kernel
theorem dX7_readsHouse_160 : decode cX7_readsHouse 160 = .ok (.aload_n 0, 1) := by decide +kernel
theorem dX7_readsHouse_161 : decode cX7_readsHouse 161 = .ok (.invokevirtual 86, 3) := by decide +kernel
theorem dX7_readsHouse_164 : decode cX7_readsHouse 164 = .ok (.goto (-140), 3) := by decide +kernel
theorem dX7_readsHouse_167 : decode cX7_readsHouse 167 = .ok (.aload_n 0, 1) := by decide +kernel
theorem dX7_readsHouse_168 : decode cX7_readsHouse 168 = .ok (.getfield 29, 3) := by decide +kernel
theorem dX7_readsHouse_171 : decode cX7_readsHouse 171 = .ok (.aload_n 0, 1) := by decide +kernel
theorem dX7_readsHouse_172 : decode cX7_readsHouse 172 = .ok (.getfield 100, 3) := by decide +kernel
theorem dX7_readsHouse_175 : decode cX7_readsHouse 175 = .ok (.iload_n 2, 1) := by decide +kernel
theorem dX7_readsHouse_176 : decode cX7_readsHouse 176 = .ok (.iastore, 1) := by decide +kernel
theorem dX7_readsHouse_177 : decode cX7_readsHouse 177 = .ok (.aload_n 0, 1) := by decide +kernel
theorem dX7_readsHouse_178 : decode cX7_readsHouse 178 = .ok (.dup, 1) := by decide +kernel
theorem dX7_readsHouse_179 : decode cX7_readsHouse 179 = .ok (.getfield 100, 3) := by decide +kernel
theorem dX7_readsHouse_182 : decode cX7_readsHouse 182 = .ok (.iconst 1, 1) := by decide +kernel
theorem dX7_readsHouse_183 : decode cX7_readsHouse 183 = .ok (.iadd, 1) := by decide +kernel
theorem dX7_readsHouse_184 : decode cX7_readsHouse 184 = .ok (.putfield 100, 3) := by decide +kernel
theorem dX7_readsHouse_187 : decode cX7_readsHouse 187 = .ok (.aload_n 0, 1) := by decide +kernel
theorem dX7_readsHouse_188 : decode cX7_readsHouse 188 = .ok (.invokevirtual 96, 3) := by decide +kernel
theorem dX7_readsHouse_191 : decode cX7_readsHouse 191 = .ok (.ireturn, 1) := by decide +kernel
theorem dX7_reads_0 : decode cX7_reads 0 = .ok (.aload_n 0, 1) := by decide +kernel
theorem dX7_reads_1 : decode cX7_reads 1 = .ok (.iconst 0, 1) := by decide +kernel
theorem dX7_reads_2 : decode cX7_reads 2 = .ok (.putfield 66, 3) := by decide +kernel
theorem dX7_reads_5 : decode cX7_reads 5 = .ok (.aload_n 0, 1) := by decide +kernel
theorem dX7_reads_6 : decode cX7_reads 6 = .ok (.iconst 0, 1) := by decide +kernel
theorem dX7_reads_7 : decode cX7_reads 7 = .ok (.putfield 106, 3) := by decide +kernel
theorem dX7_reads_10 : decode cX7_reads 10 = .ok (.aload_n 0, 1) := by decide +kernel
theorem dX7_reads_11 : decode cX7_reads 11 = .ok (.bipush (-9), 2) := by decide +kernel
theorem dX7_reads_13 : decode cX7_reads 13 = .ok (.putfield 89, 3) := by decide +kernel
theorem dX7_reads_16 : decode cX7_reads 16 = .ok (.aload_n 0, 1) := by decide +kernel
theorem dX7_reads_17 : decode cX7_reads 17 = .ok (.iconst 0, 1) := by decide +kernel
theorem dX7_reads_18 : decode cX7_reads 18 = .ok (.putfield 100, 3) := by decide +kernel
theorem dX7_reads_21 : decode cX7_reads 21 = .ok (.aload_n 0, 1) := by decide +kernel
theorem dX7_reads_22 : decode cX7_reads 22 = .ok (.invokevirtual 86, 3) := by decide +kernel
theorem dX7_reads_25 : decode cX7_reads 25 = .ok (.aload_n 0, 1) := by decide +kernel
theorem dX7_reads_26 : decode cX7_reads 26 = .ok (.getfield 75, 3) := by decide +kernel
theorem dX7_reads_29 : decode cX7_reads 29 = .ok (.iconst (-1), 1) := by decide +kernel
theorem dX7_reads_30 : decode cX7_reads 30 = .ok (.if_icmp .eq 60, 3) := by decide +kernel
theorem dX7_reads_33 : decode cX7_reads 33 = .ok (.aload_n 0, 1) := by decide +kernel
theorem dX7_reads_34 : decode cX7_reads 34 = .ok (.getfield 75, 3) := by decide +kernel
theorem dX7_reads_37 : decode cX7_reads 37 = .ok (.bipush 115, 2) := by decide +kernel
theorem dX7_reads_39 : decode cX7_reads 39 = .ok (.if_icmp .ne 10, 3) := by decide +kernel
theorem dX7_reads_42 : decode cX7_reads 42 = .ok (.aload_n 0, 1) := by decide +kernel
theorem dX7_reads_43 : decode cX7_reads 43 = .ok (.invokevirtual 109, 3) := by decide +kernel
theorem dX7_reads_46 : decode cX7_reads 46 = .ok (.goto 24, 3) := by decide +kernel
theorem dX7_reads_49 : decode cX7_reads 49 = .ok (.aload_n 0, 1) := by decide +kernel
theorem dX7_reads_50 : decode cX7_reads 50 = .ok (.getfield 75, 3) := by decide +kernel
theorem dX7_reads_53 : decode cX7_reads 53 = .ok (.bipush 113, 2) := by decide +kernel
theorem dX7_reads_55 : decode cX7_reads 55 = .ok (.if_icmp .ne 14, 3) := by decide +kernel
theorem dX7_reads_58 : decode cX7_reads 58 = .ok (.aload_n 0, 1) := by decide +kernel
theorem dX7_reads_59 : decode cX7_reads 59 = .ok (.invokevirtual 112, 3) := by decide +kernel
theorem dX7_reads_62 : decode cX7_reads 62 = .ok (.ifCond .eq 7, 3) := by decide +kernel
theorem dX7_reads_65 : decode cX7_reads 65 = .ok (.iconst 1, 1) := by decide +kernel
theorem dX7_reads_66 : decode cX7_reads 66 = .ok (.goto 4, 3) := by decide +kernel
theorem dX7_reads_69 : decode cX7_reads 69 = .ok (.iconst 0, 1) := by decide +kernel
theorem dX7_reads_70 : decode cX7_reads 70 = .ok (.istore_n 1, 1) := by decide +kernel
theorem dX7_reads_71 : decode cX7_reads 71 = .ok (.iload_n 1, 1) := by decide +kernel
theorem dX7_reads_72 : decode cX7_reads 72 = .ok (.ifCond .ne 5, 3) := by decide +kernel
theorem dX7_reads_75 : decode cX7_reads 75 = .ok (.iconst 0, 1) := by decide +kernel
theorem dX7_reads_76 : decode cX7_reads 76 = .ok (.ireturn, 1) := by decide +kernel
theorem dX7_reads_77 : decode cX7_reads 77 = .ok (.aload_n 0, 1) := by decide +kernel
theorem dX7_reads_78 : decode cX7_reads 78 = .ok (.dup, 1) := by decide +kernel
theorem dX7_reads_79 : decode cX7_reads 79 = .ok (.getfield 106, 3) := by decide +kernel
theorem dX7_reads_82 : decode cX7_reads 82 = .ok (.iconst 1, 1) := by decide +kernel
theorem dX7_reads_83 : decode cX7_reads 83 = .ok (.iadd, 1) := by decide +kernel
theorem dX7_reads_84 : decode cX7_reads 84 = .ok (.putfield 106, 3) := by decide +kernel
theorem dX7_reads_87 : decode cX7_reads 87 = .ok (.goto (-62), 3) := by decide +kernel
theorem dX7_reads_90 : decode cX7_reads 90 = .ok (.iconst 1, 1) := by decide +kernel
theorem dX7_reads_91 : decode cX7_reads 91 = .ok (.ireturn, 1) := by decide +kernel
theorem dX7_type_0 : decode cX7_type 0 = .ok (.iload_n 1, 1) := by decide +kernel
theorem dX7_type_1 : decode cX7_type 1 = .ok (.i2l, 1) := by decide +kernel
theorem dX7_type_2 : decode cX7_type 2 = .ok (.lconst 0, 1) := by decide +kernel
theorem dX7_type_3 : decode cX7_type 3 = .ok (.ldc2_w 115, 3) := by decide +kernel
theorem dX7_type_6 : decode cX7_type 6 = .ok (.invokestatic 62, 3) := by decide +kernel
theorem dX7_type_9 : decode cX7_type 9 = .ok (.ifCond .ne 5, 3) := by decide +kernel
theorem dX7_type_12 : decode cX7_type 12 = .ok (.iconst (-1), 1) := by decide +kernel
theorem dX7_type_13 : decode cX7_type 13 = .ok (.ireturn, 1) := by decide +kernel
theorem dX7_type_14 : decode cX7_type 14 = .ok (.aload_n 0, 1) := by decide +kernel
theorem dX7_type_15 : decode cX7_type 15 = .ok (.getfield 69, 3) := by decide +kernel
theorem dX7_type_18 : decode cX7_type 18 = .ok (.bipush 110, 2) := by decide +kernel
theorem dX7_type_20 : decode cX7_type 20 = .ok (.if_icmp .ne 6, 3) := by decide +kernel
theorem dX7_type_23 : decode cX7_type 23 = .ok (.bipush (-3), 2) := by decide +kernel
theorem dX7_type_25 : decode cX7_type 25 = .ok (.ireturn, 1) := by decide +kernel
theorem dX7_type_26 : decode cX7_type 26 = .ok (.aload_n 0, 1) := by decide +kernel
theorem dX7_type_27 : decode cX7_type 27 = .ok (.getfield 20, 3) := by decide +kernel
theorem dX7_type_30 : decode cX7_type 30 = .ok (.aload_n 0, 1) := by decide +kernel
theorem dX7_type_31 : decode cX7_type 31 = .ok (.getfield 69, 3) := by decide +kernel
theorem dX7_type_34 : decode cX7_type 34 = .ok (.iload_n 1, 1) := by decide +kernel
theorem dX7_type_35 : decode cX7_type 35 = .ok (.iastore, 1) := by decide +kernel
theorem dX7_type_36 : decode cX7_type 36 = .ok (.aload_n 0, 1) := by decide +kernel
theorem dX7_type_37 : decode cX7_type 37 = .ok (.dup, 1) := by decide +kernel
theorem dX7_type_38 : decode cX7_type 38 = .ok (.getfield 69, 3) := by decide +kernel
theorem dX7_type_41 : decode cX7_type 41 = .ok (.iconst 1, 1) := by decide +kernel
theorem dX7_type_42 : decode cX7_type 42 = .ok (.iadd, 1) := by decide +kernel
theorem dX7_type_43 : decode cX7_type 43 = .ok (.putfield 69, 3) := by decide +kernel
theorem dX7_type_46 : decode cX7_type 46 = .ok (.aload_n 0, 1) := by decide +kernel
theorem dX7_type_47 : decode cX7_type 47 = .ok (.getfield 69, 3) := by decide +kernel
theorem dX7_type_50 : decode cX7_type 50 = .ok (.ireturn, 1) := by decide +kernel
theorem dX7_clear_0 : decode cX7_clear 0 = .ok (.aload_n 0, 1) := by decide +kernel
theorem dX7_clear_1 : decode cX7_clear 1 = .ok (.getfield 69, 3) := by decide +kernel
theorem dX7_clear_4 : decode cX7_clear 4 = .ok (.istore_n 1, 1) := by decide +kernel
theorem dX7_clear_5 : decode cX7_clear 5 = .ok (.aload_n 0, 1) := by decide +kernel
theorem dX7_clear_6 : decode cX7_clear 6 = .ok (.iconst 0, 1) := by decide +kernel
theorem dX7_clear_7 : decode cX7_clear 7 = .ok (.putfield 69, 3) := by decide +kernel
theorem dX7_clear_10 : decode cX7_clear 10 = .ok (.iload_n 1, 1) := by decide +kernel
theorem dX7_clear_11 : decode cX7_clear 11 = .ok (.ireturn, 1) := by decide +kernel
theorem dX7_houses_0 : decode cX7_houses 0 = .ok (.aload_n 0, 1) := by decide +kernel
theorem dX7_houses_1 : decode cX7_houses 1 = .ok (.invokevirtual 117, 3) := by decide +kernel
theorem dX7_houses_4 : decode cX7_houses 4 = .ok (.ifCond .ne 11, 3) := by decide +kernel
theorem dX7_houses_7 : decode cX7_houses 7 = .ok (.bipush (-10), 2) := by decide +kernel
theorem dX7_houses_9 : decode cX7_houses 9 = .ok (.aload_n 0, 1) := by decide +kernel
theorem dX7_houses_10 : decode cX7_houses 10 = .ok (.getfield 72, 3) := by decide +kernel
theorem dX7_houses_13 : decode cX7_houses 13 = .ok (.isub, 1) := by decide +kernel
theorem dX7_houses_14 : decode cX7_houses 14 = .ok (.ireturn, 1) := by decide +kernel
theorem dX7_houses_15 : decode cX7_houses 15 = .ok (.aload_n 0, 1) := by decide +kernel
theorem dX7_houses_16 : decode cX7_houses 16 = .ok (.aload_n 0, 1) := by decide +kernel
theorem dX7_houses_17 : decode cX7_houses 17 = .ok (.getfield 100, 3) := by decide +kernel
theorem dX7_houses_20 : decode cX7_houses 20 = .ok (.putfield 120, 3) := by decide +kernel
theorem dX7_houses_23 : decode cX7_houses 23 = .ok (.iconst 0, 1) := by decide +kernel
theorem dX7_houses_24 : decode cX7_houses 24 = .ok (.istore_n 1, 1) := by decide +kernel
theorem dX7_houses_25 : decode cX7_houses 25 = .ok (.iload_n 1, 1) := by decide +kernel
theorem dX7_houses_26 : decode cX7_houses 26 = .ok (.aload_n 0, 1) := by decide +kernel
theorem dX7_houses_27 : decode cX7_houses 27 = .ok (.getfield 120, 3) := by decide +kernel
theorem dX7_houses_30 : decode cX7_houses 30 = .ok (.if_icmp .ge 21, 3) := by decide +kernel
theorem dX7_houses_33 : decode cX7_houses 33 = .ok (.aload_n 0, 1) := by decide +kernel
theorem dX7_houses_34 : decode cX7_houses 34 = .ok (.getfield 23, 3) := by decide +kernel
theorem dX7_houses_37 : decode cX7_houses 37 = .ok (.iload_n 1, 1) := by decide +kernel
theorem dX7_houses_38 : decode cX7_houses 38 = .ok (.aload_n 0, 1) := by decide +kernel
theorem dX7_houses_39 : decode cX7_houses 39 = .ok (.getfield 29, 3) := by decide +kernel
theorem dX7_houses_42 : decode cX7_houses 42 = .ok (.iload_n 1, 1) := by decide +kernel
theorem dX7_houses_43 : decode cX7_houses 43 = .ok (.iaload, 1) := by decide +kernel
theorem dX7_houses_44 : decode cX7_houses 44 = .ok (.iastore, 1) := by decide +kernel
theorem dX7_houses_45 : decode cX7_houses 45 = .ok (.iinc 1 1, 3) := by decide +kernel
theorem dX7_houses_48 : decode cX7_houses 48 = .ok (.goto (-23), 3) := by decide +kernel
theorem dX7_houses_51 : decode cX7_houses 51 = .ok (.iconst 0, 1) := by decide +kernel
theorem dX7_houses_52 : decode cX7_houses 52 = .ok (.istore_n 1, 1) := by decide +kernel
theorem dX7_houses_53 : decode cX7_houses 53 = .ok (.iload_n 1, 1) := by decide +kernel
theorem dX7_houses_54 : decode cX7_houses 54 = .ok (.bipush 24, 2) := by decide +kernel
theorem dX7_houses_56 : decode cX7_houses 56 = .ok (.if_icmp .ge 45, 3) := by decide +kernel
theorem dX7_houses_59 : decode cX7_houses 59 = .ok (.aload_n 0, 1) := by decide +kernel
theorem dX7_houses_60 : decode cX7_houses 60 = .ok (.getfield 26, 3) := by decide +kernel
theorem dX7_houses_63 : decode cX7_houses 63 = .ok (.iload_n 1, 1) := by decide +kernel
theorem dX7_houses_64 : decode cX7_houses 64 = .ok (.aload_n 0, 1) := by decide +kernel
theorem dX7_houses_65 : decode cX7_houses 65 = .ok (.getfield 32, 3) := by decide +kernel
theorem dX7_houses_68 : decode cX7_houses 68 = .ok (.iload_n 1, 1) := by decide +kernel
theorem dX7_houses_69 : decode cX7_houses 69 = .ok (.iaload, 1) := by decide +kernel
theorem dX7_houses_70 : decode cX7_houses 70 = .ok (.iastore, 1) := by decide +kernel
theorem dX7_houses_71 : decode cX7_houses 71 = .ok (.aload_n 0, 1) := by decide +kernel
theorem dX7_houses_72 : decode cX7_houses 72 = .ok (.getfield 7, 3) := by decide +kernel
theorem dX7_houses_75 : decode cX7_houses 75 = .ok (.iconst 1, 1) := by decide +kernel
theorem dX7_houses_76 : decode cX7_houses 76 = .ok (.iload_n 1, 1) := by decide +kernel
theorem dX7_houses_77 : decode cX7_houses 77 = .ok (.iadd, 1) := by decide +kernel
theorem dX7_houses_78 : decode cX7_houses 78 = .ok (.aload_n 0, 1) := by decide +kernel
theorem dX7_houses_79 : decode cX7_houses 79 = .ok (.getfield 35, 3) := by decide +kernel
theorem dX7_houses_82 : decode cX7_houses 82 = .ok (.iload_n 1, 1) := by decide +kernel
theorem dX7_houses_83 : decode cX7_houses 83 = .ok (.iaload, 1) := by decide +kernel
theorem dX7_houses_84 : decode cX7_houses 84 = .ok (.iastore, 1) := by decide +kernel
theorem dX7_houses_85 : decode cX7_houses 85 = .ok (.aload_n 0, 1) := by decide +kernel
theorem dX7_houses_86 : decode cX7_houses 86 = .ok (.getfield 7, 3) := by decide +kernel
theorem dX7_houses_89 : decode cX7_houses 89 = .ok (.bipush 25, 2) := by decide +kernel
theorem dX7_houses_91 : decode cX7_houses 91 = .ok (.iload_n 1, 1) := by decide +kernel
theorem dX7_houses_92 : decode cX7_houses 92 = .ok (.iadd, 1) := by decide +kernel
theorem dX7_houses_93 : decode cX7_houses 93 = .ok (.iconst 0, 1) := by decide +kernel
theorem dX7_houses_94 : decode cX7_houses 94 = .ok (.iastore, 1) := by decide +kernel
theorem dX7_houses_95 : decode cX7_houses 95 = .ok (.iinc 1 1, 3) := by decide +kernel
theorem dX7_houses_98 : decode cX7_houses 98 = .ok (.goto (-45), 3) := by decide +kernel
theorem dX7_houses_101 : decode cX7_houses 101 = .ok (.aload_n 0, 1) := by decide +kernel
theorem dX7_houses_102 : decode cX7_houses 102 = .ok (.getfield 7, 3) := by decide +kernel
theorem dX7_houses_105 : decode cX7_houses 105 = .ok (.iconst 0, 1) := by decide +kernel
theorem dX7_houses_106 : decode cX7_houses 106 = .ok (.aload_n 0, 1) := by decide +kernel
theorem dX7_houses_107 : decode cX7_houses 107 = .ok (.getfield 89, 3) := by decide +kernel
theorem dX7_houses_110 : decode cX7_houses 110 = .ok (.bipush (-9), 2) := by decide +kernel
theorem dX7_houses_112 : decode cX7_houses 112 = .ok (.if_icmp .ne 7, 3) := by decide +kernel
theorem dX7_houses_115 : decode cX7_houses 115 = .ok (.iconst 0, 1) := by decide +kernel
theorem dX7_houses_116 : decode cX7_houses 116 = .ok (.goto 7, 3) := by decide +kernel
theorem dX7_houses_119 : decode cX7_houses 119 = .ok (.aload_n 0, 1) := by decide +kernel
theorem dX7_houses_120 : decode cX7_houses 120 = .ok (.getfield 89, 3) := by decide +kernel
theorem dX7_houses_123 : decode cX7_houses 123 = .ok (.iastore, 1) := by decide +kernel
theorem dX7_houses_124 : decode cX7_houses 124 = .ok (.aload_n 0, 1) := by decide +kernel
theorem dX7_houses_125 : decode cX7_houses 125 = .ok (.iconst 0, 1) := by decide +kernel
theorem dX7_houses_126 : decode cX7_houses 126 = .ok (.putfield 69, 3) := by decide +kernel
theorem dX7_houses_129 : decode cX7_houses 129 = .ok (.aload_n 0, 1) := by decide +kernel
theorem dX7_houses_130 : decode cX7_houses 130 = .ok (.iconst 0, 1) := by decide +kernel
theorem dX7_houses_131 : decode cX7_houses 131 = .ok (.putfield 51, 3) := by decide +kernel
theorem dX7_houses_134 : decode cX7_houses 134 = .ok (.aload_n 0, 1) := by decide +kernel
theorem dX7_houses_135 : decode cX7_houses 135 = .ok (.iconst 0, 1) := by decide +kernel
theorem dX7_houses_136 : decode cX7_houses 136 = .ok (.putfield 123, 3) := by decide +kernel
theorem dX7_houses_139 : decode cX7_houses 139 = .ok (.aload_n 0, 1) := by decide +kernel
theorem dX7_houses_140 : decode cX7_houses 140 = .ok (.getfield 13, 3) := by decide +kernel
theorem dX7_houses_143 : decode cX7_houses 143 = .ok (.iconst 0, 1) := by decide +kernel
theorem dX7_houses_144 : decode cX7_houses 144 = .ok (.iconst 0, 1) := by decide +kernel
theorem dX7_houses_145 : decode cX7_houses 145 = .ok (.bastore, 1) := by decide +kernel
theorem dX7_houses_146 : decode cX7_houses 146 = .ok (.aload_n 0, 1) := by decide +kernel
theorem dX7_houses_147 : decode cX7_houses 147 = .ok (.getfield 13, 3) := by decide +kernel
theorem dX7_houses_150 : decode cX7_houses 150 = .ok (.iconst 1, 1) := by decide +kernel
theorem dX7_houses_151 : decode cX7_houses 151 = .ok (.iconst 0, 1) := by decide +kernel
theorem dX7_houses_152 : decode cX7_houses 152 = .ok (.bastore, 1) := by decide +kernel
theorem dX7_houses_153 : decode cX7_houses 153 = .ok (.aload_n 0, 1) := by decide +kernel
theorem dX7_houses_154 : decode cX7_houses 154 = .ok (.getfield 106, 3) := by decide +kernel
theorem dX7_houses_157 : decode cX7_houses 157 = .ok (.ireturn, 1) := by decide +kernel
theorem dX7_isHouse_0 : decode cX7_isHouse 0 = .ok (.iload_n 1, 1) := by decide +kernel
theorem dX7_isHouse_1 : decode cX7_isHouse 1 = .ok (.i2l, 1) := by decide +kernel
theorem dX7_isHouse_2 : decode cX7_isHouse 2 = .ok (.lconst 0, 1) := by decide +kernel
theorem dX7_isHouse_3 : decode cX7_isHouse 3 = .ok (.aload_n 0, 1) := by decide +kernel
theorem dX7_isHouse_4 : decode cX7_isHouse 4 = .ok (.getfield 120, 3) := by decide +kernel
theorem dX7_isHouse_7 : decode cX7_isHouse 7 = .ok (.iconst 1, 1) := by decide +kernel
theorem dX7_isHouse_8 : decode cX7_isHouse 8 = .ok (.isub, 1) := by decide +kernel
theorem dX7_isHouse_9 : decode cX7_isHouse 9 = .ok (.i2l, 1) := by decide +kernel
theorem dX7_isHouse_10 : decode cX7_isHouse 10 = .ok (.invokestatic 62, 3) := by decide +kernel
theorem dX7_isHouse_13 : decode cX7_isHouse 13 = .ok (.ireturn, 1) := by decide +kernel
theorem dX7_isEntry_0 : decode cX7_isEntry 0 = .ok (.aload_n 0, 1) := by decide +kernel
theorem dX7_isEntry_1 : decode cX7_isEntry 1 = .ok (.iload_n 1, 1) := by decide +kernel
theorem dX7_isEntry_2 : decode cX7_isEntry 2 = .ok (.invokevirtual 126, 3) := by decide +kernel
theorem dX7_isEntry_5 : decode cX7_isEntry 5 = .ok (.ifCond .eq 25, 3) := by decide +kernel
theorem dX7_isEntry_8 : decode cX7_isEntry 8 = .ok (.iload_n 2, 1) := by decide +kernel
theorem dX7_isEntry_9 : decode cX7_isEntry 9 = .ok (.i2l, 1) := by decide +kernel
theorem dX7_isEntry_10 : decode cX7_isEntry 10 = .ok (.lconst 0, 1) := by decide +kernel
theorem dX7_isEntry_11 : decode cX7_isEntry 11 = .ok (.aload_n 0, 1) := by decide +kernel
theorem dX7_isEntry_12 : decode cX7_isEntry 12 = .ok (.getfield 23, 3) := by decide +kernel
theorem dX7_isEntry_15 : decode cX7_isEntry 15 = .ok (.iload_n 1, 1) := by decide +kernel
theorem dX7_isEntry_16 : decode cX7_isEntry 16 = .ok (.iaload, 1) := by decide +kernel
theorem dX7_isEntry_17 : decode cX7_isEntry 17 = .ok (.iconst 1, 1) := by decide +kernel
theorem dX7_isEntry_18 : decode cX7_isEntry 18 = .ok (.isub, 1) := by decide +kernel
theorem dX7_isEntry_19 : decode cX7_isEntry 19 = .ok (.i2l, 1) := by decide +kernel
theorem dX7_isEntry_20 : decode cX7_isEntry 20 = .ok (.invokestatic 62, 3) := by decide +kernel
theorem dX7_isEntry_23 : decode cX7_isEntry 23 = .ok (.ifCond .eq 7, 3) := by decide +kernel
theorem dX7_isEntry_26 : decode cX7_isEntry 26 = .ok (.iconst 1, 1) := by decide +kernel
theorem dX7_isEntry_27 : decode cX7_isEntry 27 = .ok (.goto 4, 3) := by decide +kernel
theorem dX7_isEntry_30 : decode cX7_isEntry 30 = .ok (.iconst 0, 1) := by decide +kernel
theorem dX7_isEntry_31 : decode cX7_isEntry 31 = .ok (.ireturn, 1) := by decide +kernel
theorem dX7_counts_0 : decode cX7_counts 0 = .ok (.aload_n 0, 1) := by decide +kernel
theorem dX7_counts_1 : decode cX7_counts 1 = .ok (.iload_n 1, 1) := by decide +kernel
theorem dX7_counts_2 : decode cX7_counts 2 = .ok (.iload_n 2, 1) := by decide +kernel
theorem dX7_counts_3 : decode cX7_counts 3 = .ok (.invokevirtual 129, 3) := by decide +kernel
theorem dX7_counts_6 : decode cX7_counts 6 = .ok (.ifCond .eq 48, 3) := by decide +kernel
theorem dX7_counts_9 : decode cX7_counts 9 = .ok (.aload_n 0, 1) := by decide +kernel
theorem dX7_counts_10 : decode cX7_counts 10 = .ok (.getfield 7, 3) := by decide +kernel
theorem dX7_counts_13 : decode cX7_counts 13 = .ok (.bipush 25, 2) := by decide +kernel
theorem dX7_counts_15 : decode cX7_counts 15 = .ok (.bipush 6, 2) := by decide +kernel
theorem dX7_counts_17 : decode cX7_counts 17 = .ok (.iload_n 1, 1) := by decide +kernel
theorem dX7_counts_18 : decode cX7_counts 18 = .ok (.imul, 1) := by decide +kernel
theorem dX7_counts_19 : decode cX7_counts 19 = .ok (.iadd, 1) := by decide +kernel
theorem dX7_counts_20 : decode cX7_counts 20 = .ok (.iload_n 2, 1) := by decide +kernel
theorem dX7_counts_21 : decode cX7_counts 21 = .ok (.iadd, 1) := by decide +kernel
theorem dX7_counts_22 : decode cX7_counts 22 = .ok (.iaload, 1) := by decide +kernel
theorem dX7_counts_23 : decode cX7_counts 23 = .ok (.ifCond .ne 31, 3) := by decide +kernel
theorem dX7_counts_26 : decode cX7_counts 26 = .ok (.aload_n 0, 1) := by decide +kernel
theorem dX7_counts_27 : decode cX7_counts 27 = .ok (.getfield 38, 3) := by decide +kernel
theorem dX7_counts_30 : decode cX7_counts 30 = .ok (.bipush 6, 2) := by decide +kernel
theorem dX7_counts_32 : decode cX7_counts 32 = .ok (.iload_n 1, 1) := by decide +kernel
theorem dX7_counts_33 : decode cX7_counts 33 = .ok (.imul, 1) := by decide +kernel
theorem dX7_counts_34 : decode cX7_counts 34 = .ok (.iload_n 2, 1) := by decide +kernel
theorem dX7_counts_35 : decode cX7_counts 35 = .ok (.iadd, 1) := by decide +kernel
theorem dX7_counts_36 : decode cX7_counts 36 = .ok (.if_icmp .eq 18, 3) := by decide +kernel
theorem dX7_counts_39 : decode cX7_counts 39 = .ok (.aload_n 0, 1) := by decide +kernel
theorem dX7_counts_40 : decode cX7_counts 40 = .ok (.getfield 132, 3) := by decide +kernel
theorem dX7_counts_43 : decode cX7_counts 43 = .ok (.iload_n 1, 1) := by decide +kernel
theorem dX7_counts_44 : decode cX7_counts 44 = .ok (.invokestatic 135, 3) := by decide +kernel
theorem dX7_counts_47 : decode cX7_counts 47 = .ok (.ifCond .ne 7, 3) := by decide +kernel
theorem dX7_counts_50 : decode cX7_counts 50 = .ok (.iconst 1, 1) := by decide +kernel
theorem dX7_counts_51 : decode cX7_counts 51 = .ok (.goto 4, 3) := by decide +kernel
theorem dX7_counts_54 : decode cX7_counts 54 = .ok (.iconst 0, 1) := by decide +kernel
theorem dX7_counts_55 : decode cX7_counts 55 = .ok (.ireturn, 1) := by decide +kernel
theorem dX7_yearIn_0 : decode cX7_yearIn 0 = .ok (.iconst 0, 1) := by decide +kernel
theorem dX7_yearIn_1 : decode cX7_yearIn 1 = .ok (.istore_n 3, 1) := by decide +kernel
theorem dX7_yearIn_2 : decode cX7_yearIn 2 = .ok (.iload_n 3, 1) := by decide +kernel
theorem dX7_yearIn_3 : decode cX7_yearIn 3 = .ok (.bipush 6, 2) := by decide +kernel
theorem dX7_yearIn_5 : decode cX7_yearIn 5 = .ok (.if_icmp .ge 47, 3) := by decide +kernel
theorem dX7_yearIn_8 : decode cX7_yearIn 8 = .ok (.aload_n 0, 1) := by decide +kernel
theorem dX7_yearIn_9 : decode cX7_yearIn 9 = .ok (.iload_n 1, 1) := by decide +kernel
theorem dX7_yearIn_10 : decode cX7_yearIn 10 = .ok (.iload_n 3, 1) := by decide +kernel
theorem dX7_yearIn_11 : decode cX7_yearIn 11 = .ok (.invokevirtual 138, 3) := by decide +kernel
theorem dX7_yearIn_14 : decode cX7_yearIn 14 = .ok (.ifCond .eq 32, 3) := by decide +kernel
theorem dX7_yearIn_17 : decode cX7_yearIn 17 = .ok (.aload_n 0, 1) := by decide +kernel
theorem dX7_yearIn_18 : decode cX7_yearIn 18 = .ok (.getfield 26, 3) := by decide +kernel
theorem dX7_yearIn_21 : decode cX7_yearIn 21 = .ok (.bipush 6, 2) := by decide +kernel
theorem dX7_yearIn_23 : decode cX7_yearIn 23 = .ok (.iload_n 1, 1) := by decide +kernel
theorem dX7_yearIn_24 : decode cX7_yearIn 24 = .ok (.imul, 1) := by decide +kernel
theorem dX7_yearIn_25 : decode cX7_yearIn 25 = .ok (.iload_n 3, 1) := by decide +kernel
theorem dX7_yearIn_26 : decode cX7_yearIn 26 = .ok (.iadd, 1) := by decide +kernel
theorem dX7_yearIn_27 : decode cX7_yearIn 27 = .ok (.iaload, 1) := by decide +kernel
theorem dX7_yearIn_28 : decode cX7_yearIn 28 = .ok (.iload_n 2, 1) := by decide +kernel
theorem dX7_yearIn_29 : decode cX7_yearIn 29 = .ok (.if_icmp .ne 17, 3) := by decide +kernel
theorem dX7_yearIn_32 : decode cX7_yearIn 32 = .ok (.aload_n 0, 1) := by decide +kernel
theorem dX7_yearIn_33 : decode cX7_yearIn 33 = .ok (.getfield 7, 3) := by decide +kernel
theorem dX7_yearIn_36 : decode cX7_yearIn 36 = .ok (.iconst 1, 1) := by decide +kernel
theorem dX7_yearIn_37 : decode cX7_yearIn 37 = .ok (.bipush 6, 2) := by decide +kernel
theorem dX7_yearIn_39 : decode cX7_yearIn 39 = .ok (.iload_n 1, 1) := by decide +kernel
theorem dX7_yearIn_40 : decode cX7_yearIn 40 = .ok (.imul, 1) := by decide +kernel
theorem dX7_yearIn_41 : decode cX7_yearIn 41 = .ok (.iadd, 1) := by decide +kernel
theorem dX7_yearIn_42 : decode cX7_yearIn 42 = .ok (.iload_n 3, 1) := by decide +kernel
theorem dX7_yearIn_43 : decode cX7_yearIn 43 = .ok (.iadd, 1) := by decide +kernel
theorem dX7_yearIn_44 : decode cX7_yearIn 44 = .ok (.iaload, 1) := by decide +kernel
theorem dX7_yearIn_45 : decode cX7_yearIn 45 = .ok (.ireturn, 1) := by decide +kernel
theorem dX7_yearIn_46 : decode cX7_yearIn 46 = .ok (.iinc 3 1, 3) := by decide +kernel
theorem dX7_yearIn_49 : decode cX7_yearIn 49 = .ok (.goto (-47), 3) := by decide +kernel
theorem dX7_yearIn_52 : decode cX7_yearIn 52 = .ok (.bipush (-9), 2) := by decide +kernel
theorem dX7_yearIn_54 : decode cX7_yearIn 54 = .ok (.ireturn, 1) := by decide +kernel
theorem dX7_housesOf_0 : decode cX7_housesOf 0 = .ok (.iconst 0, 1) := by decide +kernel
theorem dX7_housesOf_1 : decode cX7_housesOf 1 = .ok (.istore_n 2, 1) := by decide +kernel
theorem dX7_housesOf_2 : decode cX7_housesOf 2 = .ok (.iconst 0, 1) := by decide +kernel
theorem dX7_housesOf_3 : decode cX7_housesOf 3 = .ok (.istore_n 3, 1) := by decide +kernel
theorem dX7_housesOf_4 : decode cX7_housesOf 4 = .ok (.iload_n 3, 1) := by decide +kernel
theorem dX7_housesOf_5 : decode cX7_housesOf 5 = .ok (.aload_n 0, 1) := by decide +kernel
theorem dX7_housesOf_6 : decode cX7_housesOf 6 = .ok (.getfield 120, 3) := by decide +kernel
theorem dX7_housesOf_9 : decode cX7_housesOf 9 = .ok (.if_icmp .ge 28, 3) := by decide +kernel
theorem dX7_housesOf_12 : decode cX7_housesOf 12 = .ok (.iload_n 2, 1) := by decide +kernel
theorem dX7_housesOf_13 : decode cX7_housesOf 13 = .ok (.aload_n 0, 1) := by decide +kernel
theorem dX7_housesOf_14 : decode cX7_housesOf 14 = .ok (.iload_n 3, 1) := by decide +kernel
theorem dX7_housesOf_15 : decode cX7_housesOf 15 = .ok (.iload_n 1, 1) := by decide +kernel
theorem dX7_housesOf_16 : decode cX7_housesOf 16 = .ok (.invokevirtual 141, 3) := by decide +kernel
theorem dX7_housesOf_19 : decode cX7_housesOf 19 = .ok (.ifCond .lt 9, 3) := by decide +kernel
theorem dX7_housesOf_22 : decode cX7_housesOf 22 = .ok (.iconst 1, 1) := by decide +kernel
theorem dX7_housesOf_23 : decode cX7_housesOf 23 = .ok (.iload_n 3, 1) := by decide +kernel
theorem dX7_housesOf_24 : decode cX7_housesOf 24 = .ok (.ishl, 1) := by decide +kernel
theorem dX7_housesOf_25 : decode cX7_housesOf 25 = .ok (.goto 4, 3) := by decide +kernel
theorem dX7_housesOf_28 : decode cX7_housesOf 28 = .ok (.iconst 0, 1) := by decide +kernel
theorem dX7_housesOf_29 : decode cX7_housesOf 29 = .ok (.ior, 1) := by decide +kernel
theorem dX7_housesOf_30 : decode cX7_housesOf 30 = .ok (.istore_n 2, 1) := by decide +kernel
theorem dX7_housesOf_31 : decode cX7_housesOf 31 = .ok (.iinc 3 1, 3) := by decide +kernel
theorem dX7_housesOf_34 : decode cX7_housesOf 34 = .ok (.goto (-30), 3) := by decide +kernel
theorem dX7_housesOf_37 : decode cX7_housesOf 37 = .ok (.iload_n 2, 1) := by decide +kernel
theorem dX7_housesOf_38 : decode cX7_housesOf 38 = .ok (.ireturn, 1) := by decide +kernel
theorem dX7_sizeOf_0 : decode cX7_sizeOf 0 = .ok (.iconst 0, 1) := by decide +kernel
theorem dX7_sizeOf_1 : decode cX7_sizeOf 1 = .ok (.istore_n 2, 1) := by decide +kernel
theorem dX7_sizeOf_2 : decode cX7_sizeOf 2 = .ok (.iconst 0, 1) := by decide +kernel
theorem dX7_sizeOf_3 : decode cX7_sizeOf 3 = .ok (.istore_n 3, 1) := by decide +kernel
theorem dX7_sizeOf_4 : decode cX7_sizeOf 4 = .ok (.iload_n 3, 1) := by decide +kernel
theorem dX7_sizeOf_5 : decode cX7_sizeOf 5 = .ok (.bipush 6, 2) := by decide +kernel
theorem dX7_sizeOf_7 : decode cX7_sizeOf 7 = .ok (.if_icmp .ge 26, 3) := by decide +kernel
theorem dX7_sizeOf_10 : decode cX7_sizeOf 10 = .ok (.iload_n 2, 1) := by decide +kernel
theorem dX7_sizeOf_11 : decode cX7_sizeOf 11 = .ok (.aload_n 0, 1) := by decide +kernel
theorem dX7_sizeOf_12 : decode cX7_sizeOf 12 = .ok (.iload_n 1, 1) := by decide +kernel
theorem dX7_sizeOf_13 : decode cX7_sizeOf 13 = .ok (.iload_n 3, 1) := by decide +kernel
theorem dX7_sizeOf_14 : decode cX7_sizeOf 14 = .ok (.invokevirtual 138, 3) := by decide +kernel
theorem dX7_sizeOf_17 : decode cX7_sizeOf 17 = .ok (.ifCond .eq 7, 3) := by decide +kernel
theorem dX7_sizeOf_20 : decode cX7_sizeOf 20 = .ok (.iconst 1, 1) := by decide +kernel
theorem dX7_sizeOf_21 : decode cX7_sizeOf 21 = .ok (.goto 4, 3) := by decide +kernel
theorem dX7_sizeOf_24 : decode cX7_sizeOf 24 = .ok (.iconst 0, 1) := by decide +kernel
theorem dX7_sizeOf_25 : decode cX7_sizeOf 25 = .ok (.iadd, 1) := by decide +kernel
theorem dX7_sizeOf_26 : decode cX7_sizeOf 26 = .ok (.istore_n 2, 1) := by decide +kernel
theorem dX7_sizeOf_27 : decode cX7_sizeOf 27 = .ok (.iinc 3 1, 3) := by decide +kernel
theorem dX7_sizeOf_30 : decode cX7_sizeOf 30 = .ok (.goto (-26), 3) := by decide +kernel
theorem dX7_sizeOf_33 : decode cX7_sizeOf 33 = .ok (.iload_n 2, 1) := by decide +kernel
theorem dX7_sizeOf_34 : decode cX7_sizeOf 34 = .ok (.ireturn, 1) := by decide +kernel
theorem dX7_aheadOf_0 : decode cX7_aheadOf 0 = .ok (.iconst 0, 1) := by decide +kernel
theorem dX7_aheadOf_1 : decode cX7_aheadOf 1 = .ok (.istore_n 2, 1) := by decide +kernel
theorem dX7_aheadOf_2 : decode cX7_aheadOf 2 = .ok (.iconst 0, 1) := by decide +kernel
theorem dX7_aheadOf_3 : decode cX7_aheadOf 3 = .ok (.istore_n 3, 1) := by decide +kernel
theorem dX7_aheadOf_4 : decode cX7_aheadOf 4 = .ok (.iload_n 3, 1) := by decide +kernel
theorem dX7_aheadOf_5 : decode cX7_aheadOf 5 = .ok (.aload_n 0, 1) := by decide +kernel
theorem dX7_aheadOf_6 : decode cX7_aheadOf 6 = .ok (.getfield 120, 3) := by decide +kernel
theorem dX7_aheadOf_9 : decode cX7_aheadOf 9 = .ok (.if_icmp .ge 61, 3) := by decide +kernel
theorem dX7_aheadOf_12 : decode cX7_aheadOf 12 = .ok (.aload_n 0, 1) := by decide +kernel
theorem dX7_aheadOf_13 : decode cX7_aheadOf 13 = .ok (.iload_n 3, 1) := by decide +kernel
theorem dX7_aheadOf_14 : decode cX7_aheadOf 14 = .ok (.iload_n 1, 1) := by decide +kernel
theorem dX7_aheadOf_15 : decode cX7_aheadOf 15 = .ok (.invokevirtual 141, 3) := by decide +kernel
theorem dX7_aheadOf_18 : decode cX7_aheadOf 18 = .ok (.istore 4, 2) := by decide +kernel
theorem dX7_aheadOf_20 : decode cX7_aheadOf 20 = .ok (.iconst 0, 1) := by decide +kernel
theorem dX7_aheadOf_21 : decode cX7_aheadOf 21 = .ok (.istore 5, 2) := by decide +kernel
theorem dX7_aheadOf_23 : decode cX7_aheadOf 23 = .ok (.iload 5, 2) := by decide +kernel
theorem dX7_aheadOf_25 : decode cX7_aheadOf 25 = .ok (.bipush 8, 2) := by decide +kernel
theorem dX7_aheadOf_27 : decode cX7_aheadOf 27 = .ok (.if_icmp .ge 37, 3) := by decide +kernel
theorem dX7_aheadOf_30 : decode cX7_aheadOf 30 = .ok (.iload 4, 2) := by decide +kernel
theorem dX7_aheadOf_32 : decode cX7_aheadOf 32 = .ok (.ifCond .lt 32, 3) := by decide +kernel
theorem dX7_aheadOf_35 : decode cX7_aheadOf 35 = .ok (.iload_n 2, 1) := by decide +kernel
theorem dX7_aheadOf_36 : decode cX7_aheadOf 36 = .ok (.aload_n 0, 1) := by decide +kernel
theorem dX7_aheadOf_37 : decode cX7_aheadOf 37 = .ok (.iload_n 3, 1) := by decide +kernel
theorem dX7_aheadOf_38 : decode cX7_aheadOf 38 = .ok (.iload 5, 2) := by decide +kernel
theorem dX7_aheadOf_40 : decode cX7_aheadOf 40 = .ok (.invokevirtual 141, 3) := by decide +kernel
theorem dX7_aheadOf_43 : decode cX7_aheadOf 43 = .ok (.iload 4, 2) := by decide +kernel
theorem dX7_aheadOf_45 : decode cX7_aheadOf 45 = .ok (.if_icmp .le 10, 3) := by decide +kernel
theorem dX7_aheadOf_48 : decode cX7_aheadOf 48 = .ok (.iconst 1, 1) := by decide +kernel
theorem dX7_aheadOf_49 : decode cX7_aheadOf 49 = .ok (.iload 5, 2) := by decide +kernel
theorem dX7_aheadOf_51 : decode cX7_aheadOf 51 = .ok (.ishl, 1) := by decide +kernel
theorem dX7_aheadOf_52 : decode cX7_aheadOf 52 = .ok (.goto 4, 3) := by decide +kernel
theorem dX7_aheadOf_55 : decode cX7_aheadOf 55 = .ok (.iconst 0, 1) := by decide +kernel
theorem dX7_aheadOf_56 : decode cX7_aheadOf 56 = .ok (.ior, 1) := by decide +kernel
theorem dX7_aheadOf_57 : decode cX7_aheadOf 57 = .ok (.istore_n 2, 1) := by decide +kernel
theorem dX7_aheadOf_58 : decode cX7_aheadOf 58 = .ok (.iinc 5 1, 3) := by decide +kernel
theorem dX7_aheadOf_61 : decode cX7_aheadOf 61 = .ok (.goto (-38), 3) := by decide +kernel
theorem dX7_aheadOf_64 : decode cX7_aheadOf 64 = .ok (.iinc 3 1, 3) := by decide +kernel
theorem dX7_aheadOf_67 : decode cX7_aheadOf 67 = .ok (.goto (-63), 3) := by decide +kernel
theorem dX7_aheadOf_70 : decode cX7_aheadOf 70 = .ok (.iload_n 2, 1) := by decide +kernel
theorem dX7_aheadOf_71 : decode cX7_aheadOf 71 = .ok (.ireturn, 1) := by decide +kernel
theorem dX7_laysChains_0 : decode cX7_laysChains 0 = .ok (.iconst 0, 1) := by decide +kernel
theorem dX7_laysChains_1 : decode cX7_laysChains 1 = .ok (.istore_n 1, 1) := by decide +kernel
theorem dX7_laysChains_2 : decode cX7_laysChains 2 = .ok (.iload_n 1, 1) := by decide +kernel
theorem dX7_laysChains_3 : decode cX7_laysChains 3 = .ok (.bipush 8, 2) := by decide +kernel
theorem dX7_laysChains_5 : decode cX7_laysChains 5 = .ok (.if_icmp .ge 20, 3) := by decide +kernel
theorem dX7_laysChains_8 : decode cX7_laysChains 8 = .ok (.aload_n 0, 1) := by decide +kernel
theorem dX7_laysChains_9 : decode cX7_laysChains 9 = .ok (.getfield 42, 3) := by decide +kernel
theorem dX7_laysChains_12 : decode cX7_laysChains 12 = .ok (.iload_n 1, 1) := by decide +kernel
theorem dX7_laysChains_13 : decode cX7_laysChains 13 = .ok (.aload_n 0, 1) := by decide +kernel
theorem dX7_laysChains_14 : decode cX7_laysChains 14 = .ok (.iload_n 1, 1) := by decide +kernel
theorem dX7_laysChains_15 : decode cX7_laysChains 15 = .ok (.invokevirtual 145, 3) := by decide +kernel
theorem dX7_laysChains_18 : decode cX7_laysChains 18 = .ok (.iastore, 1) := by decide +kernel
theorem dX7_laysChains_19 : decode cX7_laysChains 19 = .ok (.iinc 1 1, 3) := by decide +kernel
theorem dX7_laysChains_22 : decode cX7_laysChains 22 = .ok (.goto (-20), 3) := by decide +kernel
theorem dX7_laysChains_25 : decode cX7_laysChains 25 = .ok (.iconst 1, 1) := by decide +kernel
theorem dX7_laysChains_26 : decode cX7_laysChains 26 = .ok (.istore_n 1, 1) := by decide +kernel
theorem dX7_laysChains_27 : decode cX7_laysChains 27 = .ok (.iload_n 1, 1) := by decide +kernel
theorem dX7_laysChains_28 : decode cX7_laysChains 28 = .ok (.ifCond .eq 84, 3) := by decide +kernel
theorem dX7_laysChains_31 : decode cX7_laysChains 31 = .ok (.iconst 0, 1) := by decide +kernel
theorem dX7_laysChains_32 : decode cX7_laysChains 32 = .ok (.istore_n 1, 1) := by decide +kernel
theorem dX7_laysChains_33 : decode cX7_laysChains 33 = .ok (.iconst 0, 1) := by decide +kernel
theorem dX7_laysChains_34 : decode cX7_laysChains 34 = .ok (.istore_n 2, 1) := by decide +kernel
theorem dX7_laysChains_35 : decode cX7_laysChains 35 = .ok (.iload_n 2, 1) := by decide +kernel
theorem dX7_laysChains_36 : decode cX7_laysChains 36 = .ok (.bipush 64, 2) := by decide +kernel
theorem dX7_laysChains_38 : decode cX7_laysChains 38 = .ok (.if_icmp .ge 71, 3) := by decide +kernel
theorem dX7_laysChains_41 : decode cX7_laysChains 41 = .ok (.iload_n 2, 1) := by decide +kernel
theorem dX7_laysChains_42 : decode cX7_laysChains 42 = .ok (.bipush 8, 2) := by decide +kernel
theorem dX7_laysChains_44 : decode cX7_laysChains 44 = .ok (.idiv, 1) := by decide +kernel
theorem dX7_laysChains_45 : decode cX7_laysChains 45 = .ok (.istore_n 3, 1) := by decide +kernel
theorem dX7_laysChains_46 : decode cX7_laysChains 46 = .ok (.iload_n 2, 1) := by decide +kernel
theorem dX7_laysChains_47 : decode cX7_laysChains 47 = .ok (.bipush 8, 2) := by decide +kernel
theorem dX7_laysChains_49 : decode cX7_laysChains 49 = .ok (.irem, 1) := by decide +kernel
theorem dX7_laysChains_50 : decode cX7_laysChains 50 = .ok (.istore 4, 2) := by decide +kernel
theorem dX7_laysChains_52 : decode cX7_laysChains 52 = .ok (.aload_n 0, 1) := by decide +kernel
theorem dX7_laysChains_53 : decode cX7_laysChains 53 = .ok (.getfield 42, 3) := by decide +kernel
theorem dX7_laysChains_56 : decode cX7_laysChains 56 = .ok (.iload_n 3, 1) := by decide +kernel
theorem dX7_laysChains_57 : decode cX7_laysChains 57 = .ok (.iaload, 1) := by decide +kernel
theorem dX7_laysChains_58 : decode cX7_laysChains 58 = .ok (.iload 4, 2) := by decide +kernel
theorem dX7_laysChains_60 : decode cX7_laysChains 60 = .ok (.invokestatic 135, 3) := by decide +kernel
theorem dX7_laysChains_63 : decode cX7_laysChains 63 = .ok (.ifCond .eq 40, 3) := by decide +kernel
theorem dX7_laysChains_66 : decode cX7_laysChains 66 = .ok (.aload_n 0, 1) := by decide +kernel
theorem dX7_laysChains_67 : decode cX7_laysChains 67 = .ok (.getfield 42, 3) := by decide +kernel
theorem dX7_laysChains_70 : decode cX7_laysChains 70 = .ok (.iload 4, 2) := by decide +kernel
theorem dX7_laysChains_72 : decode cX7_laysChains 72 = .ok (.iaload, 1) := by decide +kernel
theorem dX7_laysChains_73 : decode cX7_laysChains 73 = .ok (.aload_n 0, 1) := by decide +kernel
theorem dX7_laysChains_74 : decode cX7_laysChains 74 = .ok (.getfield 42, 3) := by decide +kernel
theorem dX7_laysChains_77 : decode cX7_laysChains 77 = .ok (.iload_n 3, 1) := by decide +kernel
theorem dX7_laysChains_78 : decode cX7_laysChains 78 = .ok (.iaload, 1) := by decide +kernel
theorem dX7_laysChains_79 : decode cX7_laysChains 79 = .ok (.iconst (-1), 1) := by decide +kernel
theorem dX7_laysChains_80 : decode cX7_laysChains 80 = .ok (.ixor, 1) := by decide +kernel
theorem dX7_laysChains_81 : decode cX7_laysChains 81 = .ok (.iand, 1) := by decide +kernel
theorem dX7_laysChains_82 : decode cX7_laysChains 82 = .ok (.ifCond .eq 21, 3) := by decide +kernel
theorem dX7_laysChains_85 : decode cX7_laysChains 85 = .ok (.aload_n 0, 1) := by decide +kernel
theorem dX7_laysChains_86 : decode cX7_laysChains 86 = .ok (.getfield 42, 3) := by decide +kernel
theorem dX7_laysChains_89 : decode cX7_laysChains 89 = .ok (.iload_n 3, 1) := by decide +kernel
theorem dX7_laysChains_90 : decode cX7_laysChains 90 = .ok (.dup2, 1) := by decide +kernel
theorem dX7_laysChains_91 : decode cX7_laysChains 91 = .ok (.iaload, 1) := by decide +kernel
theorem dX7_laysChains_92 : decode cX7_laysChains 92 = .ok (.aload_n 0, 1) := by decide +kernel
theorem dX7_laysChains_93 : decode cX7_laysChains 93 = .ok (.getfield 42, 3) := by decide +kernel
theorem dX7_laysChains_96 : decode cX7_laysChains 96 = .ok (.iload 4, 2) := by decide +kernel
theorem dX7_laysChains_98 : decode cX7_laysChains 98 = .ok (.iaload, 1) := by decide +kernel
theorem dX7_laysChains_99 : decode cX7_laysChains 99 = .ok (.ior, 1) := by decide +kernel
theorem dX7_laysChains_100 : decode cX7_laysChains 100 = .ok (.iastore, 1) := by decide +kernel
theorem dX7_laysChains_101 : decode cX7_laysChains 101 = .ok (.iconst 1, 1) := by decide +kernel
theorem dX7_laysChains_102 : decode cX7_laysChains 102 = .ok (.istore_n 1, 1) := by decide +kernel
theorem dX7_laysChains_103 : decode cX7_laysChains 103 = .ok (.iinc 2 1, 3) := by decide +kernel
theorem dX7_laysChains_106 : decode cX7_laysChains 106 = .ok (.goto (-71), 3) := by decide +kernel
theorem dX7_laysChains_109 : decode cX7_laysChains 109 = .ok (.goto (-82), 3) := by decide +kernel
theorem dX7_laysChains_112 : decode cX7_laysChains 112 = .ok (.return_, 1) := by decide +kernel
end
section
theorem dX7_knots_0 : decode cX7_knots 0 = .ok (.aload_n 0, 1) := by decide +kernel
theorem dX7_knots_1 : decode cX7_knots 1 = .ok (.invokevirtual 149, 3) := by decide +kernel
theorem dX7_knots_4 : decode cX7_knots 4 = .ok (.iconst 0, 1) := by decide +kernel
theorem dX7_knots_5 : decode cX7_knots 5 = .ok (.istore_n 1, 1) := by decide +kernel
theorem dX7_knots_6 : decode cX7_knots 6 = .ok (.iconst 0, 1) := by decide +kernel
theorem dX7_knots_7 : decode cX7_knots 7 = .ok (.istore_n 2, 1) := by decide +kernel
theorem dX7_knots_8 : decode cX7_knots 8 = .ok (.iload_n 2, 1) := by decide +kernel
theorem dX7_knots_9 : decode cX7_knots 9 = .ok (.bipush 8, 2) := by decide +kernel
theorem dX7_knots_11 : decode cX7_knots 11 = .ok (.if_icmp .ge 22, 3) := by decide +kernel
theorem dX7_knots_14 : decode cX7_knots 14 = .ok (.iload_n 1, 1) := by decide +kernel
theorem dX7_knots_15 : decode cX7_knots 15 = .ok (.aload_n 0, 1) := by decide +kernel
theorem dX7_knots_16 : decode cX7_knots 16 = .ok (.getfield 42, 3) := by decide +kernel
theorem dX7_knots_19 : decode cX7_knots 19 = .ok (.iload_n 2, 1) := by decide +kernel
theorem dX7_knots_20 : decode cX7_knots 20 = .ok (.iaload, 1) := by decide +kernel
theorem dX7_knots_21 : decode cX7_knots 21 = .ok (.iconst 1, 1) := by decide +kernel
theorem dX7_knots_22 : decode cX7_knots 22 = .ok (.iload_n 2, 1) := by decide +kernel
theorem dX7_knots_23 : decode cX7_knots 23 = .ok (.ishl, 1) := by decide +kernel
theorem dX7_knots_24 : decode cX7_knots 24 = .ok (.iand, 1) := by decide +kernel
theorem dX7_knots_25 : decode cX7_knots 25 = .ok (.ior, 1) := by decide +kernel
theorem dX7_knots_26 : decode cX7_knots 26 = .ok (.istore_n 1, 1) := by decide +kernel
theorem dX7_knots_27 : decode cX7_knots 27 = .ok (.iinc 2 1, 3) := by decide +kernel
theorem dX7_knots_30 : decode cX7_knots 30 = .ok (.goto (-22), 3) := by decide +kernel
theorem dX7_knots_33 : decode cX7_knots 33 = .ok (.iload_n 1, 1) := by decide +kernel
theorem dX7_knots_34 : decode cX7_knots 34 = .ok (.ireturn, 1) := by decide +kernel
theorem dX7_both_0 : decode cX7_both 0 = .ok (.iconst 0, 1) := by decide +kernel
theorem dX7_both_1 : decode cX7_both 1 = .ok (.istore_n 3, 1) := by decide +kernel
theorem dX7_both_2 : decode cX7_both 2 = .ok (.iconst 0, 1) := by decide +kernel
theorem dX7_both_3 : decode cX7_both 3 = .ok (.istore 4, 2) := by decide +kernel
theorem dX7_both_5 : decode cX7_both 5 = .ok (.iload 4, 2) := by decide +kernel
theorem dX7_both_7 : decode cX7_both 7 = .ok (.bipush 6, 2) := by decide +kernel
theorem dX7_both_9 : decode cX7_both 9 = .ok (.if_icmp .ge 87, 3) := by decide +kernel
theorem dX7_both_12 : decode cX7_both 12 = .ok (.bipush 6, 2) := by decide +kernel
theorem dX7_both_14 : decode cX7_both 14 = .ok (.iload_n 1, 1) := by decide +kernel
theorem dX7_both_15 : decode cX7_both 15 = .ok (.imul, 1) := by decide +kernel
theorem dX7_both_16 : decode cX7_both 16 = .ok (.iload 4, 2) := by decide +kernel
theorem dX7_both_18 : decode cX7_both 18 = .ok (.iadd, 1) := by decide +kernel
theorem dX7_both_19 : decode cX7_both 19 = .ok (.istore 5, 2) := by decide +kernel
theorem dX7_both_21 : decode cX7_both 21 = .ok (.aload_n 0, 1) := by decide +kernel
theorem dX7_both_22 : decode cX7_both 22 = .ok (.iload_n 1, 1) := by decide +kernel
theorem dX7_both_23 : decode cX7_both 23 = .ok (.iload 4, 2) := by decide +kernel
theorem dX7_both_25 : decode cX7_both 25 = .ok (.invokevirtual 138, 3) := by decide +kernel
theorem dX7_both_28 : decode cX7_both 28 = .ok (.ifCond .eq 62, 3) := by decide +kernel
theorem dX7_both_31 : decode cX7_both 31 = .ok (.aload_n 0, 1) := by decide +kernel
theorem dX7_both_32 : decode cX7_both 32 = .ok (.iload_n 2, 1) := by decide +kernel
theorem dX7_both_33 : decode cX7_both 33 = .ok (.aload_n 0, 1) := by decide +kernel
theorem dX7_both_34 : decode cX7_both 34 = .ok (.getfield 26, 3) := by decide +kernel
theorem dX7_both_37 : decode cX7_both 37 = .ok (.iload 5, 2) := by decide +kernel
theorem dX7_both_39 : decode cX7_both 39 = .ok (.iaload, 1) := by decide +kernel
theorem dX7_both_40 : decode cX7_both 40 = .ok (.invokevirtual 141, 3) := by decide +kernel
theorem dX7_both_43 : decode cX7_both 43 = .ok (.ifCond .lt 47, 3) := by decide +kernel
theorem dX7_both_46 : decode cX7_both 46 = .ok (.aload_n 0, 1) := by decide +kernel
theorem dX7_both_47 : decode cX7_both 47 = .ok (.getfield 45, 3) := by decide +kernel
theorem dX7_both_50 : decode cX7_both 50 = .ok (.iload_n 3, 1) := by decide +kernel
theorem dX7_both_51 : decode cX7_both 51 = .ok (.aload_n 0, 1) := by decide +kernel
theorem dX7_both_52 : decode cX7_both 52 = .ok (.getfield 26, 3) := by decide +kernel
theorem dX7_both_55 : decode cX7_both 55 = .ok (.iload 5, 2) := by decide +kernel
theorem dX7_both_57 : decode cX7_both 57 = .ok (.iaload, 1) := by decide +kernel
theorem dX7_both_58 : decode cX7_both 58 = .ok (.iastore, 1) := by decide +kernel
theorem dX7_both_59 : decode cX7_both 59 = .ok (.aload_n 0, 1) := by decide +kernel
theorem dX7_both_60 : decode cX7_both 60 = .ok (.getfield 48, 3) := by decide +kernel
theorem dX7_both_63 : decode cX7_both 63 = .ok (.iload_n 3, 1) := by decide +kernel
theorem dX7_both_64 : decode cX7_both 64 = .ok (.aload_n 0, 1) := by decide +kernel
theorem dX7_both_65 : decode cX7_both 65 = .ok (.iload_n 2, 1) := by decide +kernel
theorem dX7_both_66 : decode cX7_both 66 = .ok (.aload_n 0, 1) := by decide +kernel
theorem dX7_both_67 : decode cX7_both 67 = .ok (.getfield 26, 3) := by decide +kernel
theorem dX7_both_70 : decode cX7_both 70 = .ok (.iload 5, 2) := by decide +kernel
theorem dX7_both_72 : decode cX7_both 72 = .ok (.iaload, 1) := by decide +kernel
theorem dX7_both_73 : decode cX7_both 73 = .ok (.invokevirtual 141, 3) := by decide +kernel
theorem dX7_both_76 : decode cX7_both 76 = .ok (.aload_n 0, 1) := by decide +kernel
theorem dX7_both_77 : decode cX7_both 77 = .ok (.getfield 7, 3) := by decide +kernel
theorem dX7_both_80 : decode cX7_both 80 = .ok (.iconst 1, 1) := by decide +kernel
theorem dX7_both_81 : decode cX7_both 81 = .ok (.iload 5, 2) := by decide +kernel
theorem dX7_both_83 : decode cX7_both 83 = .ok (.iadd, 1) := by decide +kernel
theorem dX7_both_84 : decode cX7_both 84 = .ok (.iaload, 1) := by decide +kernel
theorem dX7_both_85 : decode cX7_both 85 = .ok (.isub, 1) := by decide +kernel
theorem dX7_both_86 : decode cX7_both 86 = .ok (.iastore, 1) := by decide +kernel
theorem dX7_both_87 : decode cX7_both 87 = .ok (.iinc 3 1, 3) := by decide +kernel
theorem dX7_both_90 : decode cX7_both 90 = .ok (.iinc 4 1, 3) := by decide +kernel
theorem dX7_both_93 : decode cX7_both 93 = .ok (.goto (-88), 3) := by decide +kernel
theorem dX7_both_96 : decode cX7_both 96 = .ok (.iload_n 3, 1) := by decide +kernel
theorem dX7_both_97 : decode cX7_both 97 = .ok (.ireturn, 1) := by decide +kernel
theorem dX7_spanEnd_0 : decode cX7_spanEnd 0 = .ok (.aload_n 0, 1) := by decide +kernel
theorem dX7_spanEnd_1 : decode cX7_spanEnd 1 = .ok (.getfield 48, 3) := by decide +kernel
theorem dX7_spanEnd_4 : decode cX7_spanEnd 4 = .ok (.iload_n 1, 1) := by decide +kernel
theorem dX7_spanEnd_5 : decode cX7_spanEnd 5 = .ok (.iaload, 1) := by decide +kernel
theorem dX7_spanEnd_6 : decode cX7_spanEnd 6 = .ok (.istore_n 3, 1) := by decide +kernel
theorem dX7_spanEnd_7 : decode cX7_spanEnd 7 = .ok (.aload_n 0, 1) := by decide +kernel
theorem dX7_spanEnd_8 : decode cX7_spanEnd 8 = .ok (.iload_n 3, 1) := by decide +kernel
theorem dX7_spanEnd_9 : decode cX7_spanEnd 9 = .ok (.putfield 152, 3) := by decide +kernel
theorem dX7_spanEnd_12 : decode cX7_spanEnd 12 = .ok (.iload_n 1, 1) := by decide +kernel
theorem dX7_spanEnd_13 : decode cX7_spanEnd 13 = .ok (.iconst 1, 1) := by decide +kernel
theorem dX7_spanEnd_14 : decode cX7_spanEnd 14 = .ok (.iadd, 1) := by decide +kernel
theorem dX7_spanEnd_15 : decode cX7_spanEnd 15 = .ok (.istore 4, 2) := by decide +kernel
theorem dX7_spanEnd_17 : decode cX7_spanEnd 17 = .ok (.iload 4, 2) := by decide +kernel
theorem dX7_spanEnd_19 : decode cX7_spanEnd 19 = .ok (.iload_n 2, 1) := by decide +kernel
theorem dX7_spanEnd_20 : decode cX7_spanEnd 20 = .ok (.if_icmp .ge 103, 3) := by decide +kernel
theorem dX7_spanEnd_23 : decode cX7_spanEnd 23 = .ok (.aload_n 0, 1) := by decide +kernel
theorem dX7_spanEnd_24 : decode cX7_spanEnd 24 = .ok (.getfield 48, 3) := by decide +kernel
theorem dX7_spanEnd_27 : decode cX7_spanEnd 27 = .ok (.iload 4, 2) := by decide +kernel
theorem dX7_spanEnd_29 : decode cX7_spanEnd 29 = .ok (.iaload, 1) := by decide +kernel
theorem dX7_spanEnd_30 : decode cX7_spanEnd 30 = .ok (.aload_n 0, 1) := by decide +kernel
theorem dX7_spanEnd_31 : decode cX7_spanEnd 31 = .ok (.getfield 152, 3) := by decide +kernel
theorem dX7_spanEnd_34 : decode cX7_spanEnd 34 = .ok (.isub, 1) := by decide +kernel
theorem dX7_spanEnd_35 : decode cX7_spanEnd 35 = .ok (.aload_n 0, 1) := by decide +kernel
theorem dX7_spanEnd_36 : decode cX7_spanEnd 36 = .ok (.getfield 7, 3) := by decide +kernel
theorem dX7_spanEnd_39 : decode cX7_spanEnd 39 = .ok (.iconst 0, 1) := by decide +kernel
theorem dX7_spanEnd_40 : decode cX7_spanEnd 40 = .ok (.iaload, 1) := by decide +kernel
theorem dX7_spanEnd_41 : decode cX7_spanEnd 41 = .ok (.if_icmp .gt 82, 3) := by decide +kernel
theorem dX7_spanEnd_44 : decode cX7_spanEnd 44 = .ok (.iload_n 3, 1) := by decide +kernel
theorem dX7_spanEnd_45 : decode cX7_spanEnd 45 = .ok (.aload_n 0, 1) := by decide +kernel
theorem dX7_spanEnd_46 : decode cX7_spanEnd 46 = .ok (.getfield 48, 3) := by decide +kernel
theorem dX7_spanEnd_49 : decode cX7_spanEnd 49 = .ok (.iload 4, 2) := by decide +kernel
theorem dX7_spanEnd_51 : decode cX7_spanEnd 51 = .ok (.iaload, 1) := by decide +kernel
theorem dX7_spanEnd_52 : decode cX7_spanEnd 52 = .ok (.isub, 1) := by decide +kernel
theorem dX7_spanEnd_53 : decode cX7_spanEnd 53 = .ok (.aload_n 0, 1) := by decide +kernel
theorem dX7_spanEnd_54 : decode cX7_spanEnd 54 = .ok (.getfield 7, 3) := by decide +kernel
theorem dX7_spanEnd_57 : decode cX7_spanEnd 57 = .ok (.iconst 0, 1) := by decide +kernel
theorem dX7_spanEnd_58 : decode cX7_spanEnd 58 = .ok (.iaload, 1) := by decide +kernel
theorem dX7_spanEnd_59 : decode cX7_spanEnd 59 = .ok (.if_icmp .gt 64, 3) := by decide +kernel
theorem dX7_spanEnd_62 : decode cX7_spanEnd 62 = .ok (.aload_n 0, 1) := by decide +kernel
theorem dX7_spanEnd_63 : decode cX7_spanEnd 63 = .ok (.aload_n 0, 1) := by decide +kernel
theorem dX7_spanEnd_64 : decode cX7_spanEnd 64 = .ok (.getfield 48, 3) := by decide +kernel
theorem dX7_spanEnd_67 : decode cX7_spanEnd 67 = .ok (.iload 4, 2) := by decide +kernel
theorem dX7_spanEnd_69 : decode cX7_spanEnd 69 = .ok (.iaload, 1) := by decide +kernel
theorem dX7_spanEnd_70 : decode cX7_spanEnd 70 = .ok (.aload_n 0, 1) := by decide +kernel
theorem dX7_spanEnd_71 : decode cX7_spanEnd 71 = .ok (.getfield 152, 3) := by decide +kernel
theorem dX7_spanEnd_74 : decode cX7_spanEnd 74 = .ok (.if_icmp .ge 13, 3) := by decide +kernel
theorem dX7_spanEnd_77 : decode cX7_spanEnd 77 = .ok (.aload_n 0, 1) := by decide +kernel
theorem dX7_spanEnd_78 : decode cX7_spanEnd 78 = .ok (.getfield 48, 3) := by decide +kernel
theorem dX7_spanEnd_81 : decode cX7_spanEnd 81 = .ok (.iload 4, 2) := by decide +kernel
theorem dX7_spanEnd_83 : decode cX7_spanEnd 83 = .ok (.iaload, 1) := by decide +kernel
theorem dX7_spanEnd_84 : decode cX7_spanEnd 84 = .ok (.goto 7, 3) := by decide +kernel
theorem dX7_spanEnd_87 : decode cX7_spanEnd 87 = .ok (.aload_n 0, 1) := by decide +kernel
theorem dX7_spanEnd_88 : decode cX7_spanEnd 88 = .ok (.getfield 152, 3) := by decide +kernel
theorem dX7_spanEnd_91 : decode cX7_spanEnd 91 = .ok (.putfield 152, 3) := by decide +kernel
theorem dX7_spanEnd_94 : decode cX7_spanEnd 94 = .ok (.aload_n 0, 1) := by decide +kernel
theorem dX7_spanEnd_95 : decode cX7_spanEnd 95 = .ok (.getfield 48, 3) := by decide +kernel
theorem dX7_spanEnd_98 : decode cX7_spanEnd 98 = .ok (.iload 4, 2) := by decide +kernel
theorem dX7_spanEnd_100 : decode cX7_spanEnd 100 = .ok (.iaload, 1) := by decide +kernel
theorem dX7_spanEnd_101 : decode cX7_spanEnd 101 = .ok (.iload_n 3, 1) := by decide +kernel
theorem dX7_spanEnd_102 : decode cX7_spanEnd 102 = .ok (.if_icmp .le 13, 3) := by decide +kernel
theorem dX7_spanEnd_105 : decode cX7_spanEnd 105 = .ok (.aload_n 0, 1) := by decide +kernel
theorem dX7_spanEnd_106 : decode cX7_spanEnd 106 = .ok (.getfield 48, 3) := by decide +kernel
theorem dX7_spanEnd_109 : decode cX7_spanEnd 109 = .ok (.iload 4, 2) := by decide +kernel
theorem dX7_spanEnd_111 : decode cX7_spanEnd 111 = .ok (.iaload, 1) := by decide +kernel
theorem dX7_spanEnd_112 : decode cX7_spanEnd 112 = .ok (.goto 4, 3) := by decide +kernel
theorem dX7_spanEnd_115 : decode cX7_spanEnd 115 = .ok (.iload_n 3, 1) := by decide +kernel
theorem dX7_spanEnd_116 : decode cX7_spanEnd 116 = .ok (.istore_n 3, 1) := by decide +kernel
theorem dX7_spanEnd_117 : decode cX7_spanEnd 117 = .ok (.iinc 4 1, 3) := by decide +kernel
theorem dX7_spanEnd_120 : decode cX7_spanEnd 120 = .ok (.goto (-103), 3) := by decide +kernel
theorem dX7_spanEnd_123 : decode cX7_spanEnd 123 = .ok (.iload 4, 2) := by decide +kernel
theorem dX7_spanEnd_125 : decode cX7_spanEnd 125 = .ok (.ireturn, 1) := by decide +kernel
theorem dX7_spans_0 : decode cX7_spans 0 = .ok (.aload_n 0, 1) := by decide +kernel
theorem dX7_spans_1 : decode cX7_spans 1 = .ok (.iload_n 1, 1) := by decide +kernel
theorem dX7_spans_2 : decode cX7_spans 2 = .ok (.iload_n 2, 1) := by decide +kernel
theorem dX7_spans_3 : decode cX7_spans 3 = .ok (.invokevirtual 155, 3) := by decide +kernel
theorem dX7_spans_6 : decode cX7_spans 6 = .ok (.istore_n 3, 1) := by decide +kernel
theorem dX7_spans_7 : decode cX7_spans 7 = .ok (.iconst 0, 1) := by decide +kernel
theorem dX7_spans_8 : decode cX7_spans 8 = .ok (.istore 4, 2) := by decide +kernel
theorem dX7_spans_10 : decode cX7_spans 10 = .ok (.iconst 0, 1) := by decide +kernel
theorem dX7_spans_11 : decode cX7_spans 11 = .ok (.istore 5, 2) := by decide +kernel
theorem dX7_spans_13 : decode cX7_spans 13 = .ok (.iload 5, 2) := by decide +kernel
theorem dX7_spans_15 : decode cX7_spans 15 = .ok (.iload_n 3, 1) := by decide +kernel
theorem dX7_spans_16 : decode cX7_spans 16 = .ok (.if_icmp .ge 18, 3) := by decide +kernel
theorem dX7_spans_19 : decode cX7_spans 19 = .ok (.iinc 4 1, 3) := by decide +kernel
theorem dX7_spans_22 : decode cX7_spans 22 = .ok (.aload_n 0, 1) := by decide +kernel
theorem dX7_spans_23 : decode cX7_spans 23 = .ok (.iload 5, 2) := by decide +kernel
theorem dX7_spans_25 : decode cX7_spans 25 = .ok (.iload_n 3, 1) := by decide +kernel
theorem dX7_spans_26 : decode cX7_spans 26 = .ok (.invokevirtual 158, 3) := by decide +kernel
theorem dX7_spans_29 : decode cX7_spans 29 = .ok (.istore 5, 2) := by decide +kernel
theorem dX7_spans_31 : decode cX7_spans 31 = .ok (.goto (-18), 3) := by decide +kernel
theorem dX7_spans_34 : decode cX7_spans 34 = .ok (.iload 4, 2) := by decide +kernel
theorem dX7_spans_36 : decode cX7_spans 36 = .ok (.ireturn, 1) := by decide +kernel
theorem dX7_span_0 : decode cX7_span 0 = .ok (.aload_n 0, 1) := by decide +kernel
theorem dX7_span_1 : decode cX7_span 1 = .ok (.iload_n 1, 1) := by decide +kernel
theorem dX7_span_2 : decode cX7_span 2 = .ok (.invokevirtual 126, 3) := by decide +kernel
theorem dX7_span_5 : decode cX7_span 5 = .ok (.ifCond .eq 38, 3) := by decide +kernel
theorem dX7_span_8 : decode cX7_span 8 = .ok (.aload_n 0, 1) := by decide +kernel
theorem dX7_span_9 : decode cX7_span 9 = .ok (.iload_n 2, 1) := by decide +kernel
theorem dX7_span_10 : decode cX7_span 10 = .ok (.invokevirtual 126, 3) := by decide +kernel
theorem dX7_span_13 : decode cX7_span 13 = .ok (.ifCond .eq 30, 3) := by decide +kernel
theorem dX7_span_16 : decode cX7_span 16 = .ok (.iload_n 1, 1) := by decide +kernel
theorem dX7_span_17 : decode cX7_span 17 = .ok (.iload_n 2, 1) := by decide +kernel
theorem dX7_span_18 : decode cX7_span 18 = .ok (.if_icmp .eq 25, 3) := by decide +kernel
theorem dX7_span_21 : decode cX7_span 21 = .ok (.iload_n 3, 1) := by decide +kernel
theorem dX7_span_22 : decode cX7_span 22 = .ok (.iconst (-1), 1) := by decide +kernel
theorem dX7_span_23 : decode cX7_span 23 = .ok (.if_icmp .lt 20, 3) := by decide +kernel
theorem dX7_span_26 : decode cX7_span 26 = .ok (.iload_n 3, 1) := by decide +kernel
theorem dX7_span_27 : decode cX7_span 27 = .ok (.ifCond .lt 19, 3) := by decide +kernel
theorem dX7_span_30 : decode cX7_span 30 = .ok (.iload 4, 2) := by decide +kernel
theorem dX7_span_32 : decode cX7_span 32 = .ok (.i2l, 1) := by decide +kernel
theorem dX7_span_33 : decode cX7_span 33 = .ok (.lconst 0, 1) := by decide +kernel
theorem dX7_span_34 : decode cX7_span 34 = .ok (.ldc2_w 161, 3) := by decide +kernel
theorem dX7_span_37 : decode cX7_span 37 = .ok (.invokestatic 62, 3) := by decide +kernel
theorem dX7_span_40 : decode cX7_span 40 = .ok (.ifCond .ne 6, 3) := by decide +kernel
theorem dX7_span_43 : decode cX7_span 43 = .ok (.ldc 163, 2) := by decide +kernel
theorem dX7_span_45 : decode cX7_span 45 = .ok (.ireturn, 1) := by decide +kernel
theorem dX7_span_46 : decode cX7_span 46 = .ok (.aload_n 0, 1) := by decide +kernel
theorem dX7_span_47 : decode cX7_span 47 = .ok (.iload_n 1, 1) := by decide +kernel
theorem dX7_span_48 : decode cX7_span 48 = .ok (.iload_n 2, 1) := by decide +kernel
theorem dX7_span_49 : decode cX7_span 49 = .ok (.invokevirtual 164, 3) := by decide +kernel
theorem dX7_span_52 : decode cX7_span 52 = .ok (.istore 5, 2) := by decide +kernel
theorem dX7_span_54 : decode cX7_span 54 = .ok (.iload_n 3, 1) := by decide +kernel
theorem dX7_span_55 : decode cX7_span 55 = .ok (.ifCond .lt 9, 3) := by decide +kernel
theorem dX7_span_58 : decode cX7_span 58 = .ok (.iload_n 3, 1) := by decide +kernel
theorem dX7_span_59 : decode cX7_span 59 = .ok (.iload 5, 2) := by decide +kernel
theorem dX7_span_61 : decode cX7_span 61 = .ok (.if_icmp .lt 15, 3) := by decide +kernel
theorem dX7_span_64 : decode cX7_span 64 = .ok (.iload_n 3, 1) := by decide +kernel
theorem dX7_span_65 : decode cX7_span 65 = .ok (.ifCond .ge 8, 3) := by decide +kernel
theorem dX7_span_68 : decode cX7_span 68 = .ok (.iload 5, 2) := by decide +kernel
theorem dX7_span_70 : decode cX7_span 70 = .ok (.goto 5, 3) := by decide +kernel
theorem dX7_span_73 : decode cX7_span 73 = .ok (.ldc 163, 2) := by decide +kernel
theorem dX7_span_75 : decode cX7_span 75 = .ok (.ireturn, 1) := by decide +kernel
theorem dX7_span_76 : decode cX7_span 76 = .ok (.aload_n 0, 1) := by decide +kernel
theorem dX7_span_77 : decode cX7_span 77 = .ok (.iload_n 1, 1) := by decide +kernel
theorem dX7_span_78 : decode cX7_span 78 = .ok (.iload_n 2, 1) := by decide +kernel
theorem dX7_span_79 : decode cX7_span 79 = .ok (.invokevirtual 155, 3) := by decide +kernel
theorem dX7_span_82 : decode cX7_span 82 = .ok (.istore 6, 2) := by decide +kernel
theorem dX7_span_84 : decode cX7_span 84 = .ok (.iconst 0, 1) := by decide +kernel
theorem dX7_span_85 : decode cX7_span 85 = .ok (.istore 7, 2) := by decide +kernel
theorem dX7_span_87 : decode cX7_span 87 = .ok (.iconst 0, 1) := by decide +kernel
theorem dX7_span_88 : decode cX7_span 88 = .ok (.istore 8, 2) := by decide +kernel
theorem dX7_span_90 : decode cX7_span 90 = .ok (.iload 8, 2) := by decide +kernel
theorem dX7_span_92 : decode cX7_span 92 = .ok (.iload_n 3, 1) := by decide +kernel
theorem dX7_span_93 : decode cX7_span 93 = .ok (.if_icmp .ge 19, 3) := by decide +kernel
theorem dX7_span_96 : decode cX7_span 96 = .ok (.aload_n 0, 1) := by decide +kernel
theorem dX7_span_97 : decode cX7_span 97 = .ok (.iload 7, 2) := by decide +kernel
theorem dX7_span_99 : decode cX7_span 99 = .ok (.iload 6, 2) := by decide +kernel
theorem dX7_span_101 : decode cX7_span 101 = .ok (.invokevirtual 158, 3) := by decide +kernel
theorem dX7_span_104 : decode cX7_span 104 = .ok (.istore 7, 2) := by decide +kernel
theorem dX7_span_106 : decode cX7_span 106 = .ok (.iinc 8 1, 3) := by decide +kernel
theorem dX7_span_109 : decode cX7_span 109 = .ok (.goto (-19), 3) := by decide +kernel
theorem dX7_span_112 : decode cX7_span 112 = .ok (.aload_n 0, 1) := by decide +kernel
theorem dX7_span_113 : decode cX7_span 113 = .ok (.iload 7, 2) := by decide +kernel
theorem dX7_span_115 : decode cX7_span 115 = .ok (.iload 6, 2) := by decide +kernel
theorem dX7_span_117 : decode cX7_span 117 = .ok (.invokevirtual 158, 3) := by decide +kernel
theorem dX7_span_120 : decode cX7_span 120 = .ok (.istore 8, 2) := by decide +kernel
theorem dX7_span_122 : decode cX7_span 122 = .ok (.iload 4, 2) := by decide +kernel
theorem dX7_span_124 : decode cX7_span 124 = .ok (.ifCond .ne 13, 3) := by decide +kernel
theorem dX7_span_127 : decode cX7_span 127 = .ok (.aload_n 0, 1) := by decide +kernel
theorem dX7_span_128 : decode cX7_span 128 = .ok (.getfield 45, 3) := by decide +kernel
theorem dX7_span_131 : decode cX7_span 131 = .ok (.iload 7, 2) := by decide +kernel
theorem dX7_span_133 : decode cX7_span 133 = .ok (.iaload, 1) := by decide +kernel
theorem dX7_span_134 : decode cX7_span 134 = .ok (.goto 39, 3) := by decide +kernel
theorem dX7_span_137 : decode cX7_span 137 = .ok (.iload 4, 2) := by decide +kernel
theorem dX7_span_139 : decode cX7_span 139 = .ok (.iconst 1, 1) := by decide +kernel
theorem dX7_span_140 : decode cX7_span 140 = .ok (.if_icmp .ne 15, 3) := by decide +kernel
theorem dX7_span_143 : decode cX7_span 143 = .ok (.aload_n 0, 1) := by decide +kernel
theorem dX7_span_144 : decode cX7_span 144 = .ok (.getfield 45, 3) := by decide +kernel
theorem dX7_span_147 : decode cX7_span 147 = .ok (.iload 8, 2) := by decide +kernel
theorem dX7_span_149 : decode cX7_span 149 = .ok (.iconst 1, 1) := by decide +kernel
theorem dX7_span_150 : decode cX7_span 150 = .ok (.isub, 1) := by decide +kernel
theorem dX7_span_151 : decode cX7_span 151 = .ok (.iaload, 1) := by decide +kernel
theorem dX7_span_152 : decode cX7_span 152 = .ok (.goto 21, 3) := by decide +kernel
theorem dX7_span_155 : decode cX7_span 155 = .ok (.iload 4, 2) := by decide +kernel
theorem dX7_span_157 : decode cX7_span 157 = .ok (.iconst 2, 1) := by decide +kernel
theorem dX7_span_158 : decode cX7_span 158 = .ok (.if_icmp .ne 11, 3) := by decide +kernel
theorem dX7_span_161 : decode cX7_span 161 = .ok (.iload 8, 2) := by decide +kernel
theorem dX7_span_163 : decode cX7_span 163 = .ok (.iload 7, 2) := by decide +kernel
theorem dX7_span_165 : decode cX7_span 165 = .ok (.isub, 1) := by decide +kernel
theorem dX7_span_166 : decode cX7_span 166 = .ok (.goto 7, 3) := by decide +kernel
theorem dX7_span_169 : decode cX7_span 169 = .ok (.aload_n 0, 1) := by decide +kernel
theorem dX7_span_170 : decode cX7_span 170 = .ok (.getfield 152, 3) := by decide +kernel
theorem dX7_span_173 : decode cX7_span 173 = .ok (.ireturn, 1) := by decide +kernel
theorem dX7_plain_0 : decode cX7_plain 0 = .ok (.iload_n 0, 1) := by decide +kernel
theorem dX7_plain_1 : decode cX7_plain 1 = .ok (.ifCond .ge 8, 3) := by decide +kernel
theorem dX7_plain_4 : decode cX7_plain 4 = .ok (.iload_n 0, 1) := by decide +kernel
theorem dX7_plain_5 : decode cX7_plain 5 = .ok (.ineg, 1) := by decide +kernel
theorem dX7_plain_6 : decode cX7_plain 6 = .ok (.goto 4, 3) := by decide +kernel
theorem dX7_plain_9 : decode cX7_plain 9 = .ok (.iload_n 0, 1) := by decide +kernel
theorem dX7_plain_10 : decode cX7_plain 10 = .ok (.ireturn, 1) := by decide +kernel
theorem dX7_shiftOf_0 : decode cX7_shiftOf 0 = .ok (.iload_n 1, 1) := by decide +kernel
theorem dX7_shiftOf_1 : decode cX7_shiftOf 1 = .ok (.ifCond .ne 7, 3) := by decide +kernel
theorem dX7_shiftOf_4 : decode cX7_shiftOf 4 = .ok (.iconst 0, 1) := by decide +kernel
theorem dX7_shiftOf_5 : decode cX7_shiftOf 5 = .ok (.goto 9, 3) := by decide +kernel
theorem dX7_shiftOf_8 : decode cX7_shiftOf 8 = .ok (.aload_n 0, 1) := by decide +kernel
theorem dX7_shiftOf_9 : decode cX7_shiftOf 9 = .ok (.iconst 0, 1) := by decide +kernel
theorem dX7_shiftOf_10 : decode cX7_shiftOf 10 = .ok (.iload_n 1, 1) := by decide +kernel
theorem dX7_shiftOf_11 : decode cX7_shiftOf 11 = .ok (.invokevirtual 155, 3) := by decide +kernel
theorem dX7_shiftOf_14 : decode cX7_shiftOf 14 = .ok (.istore_n 2, 1) := by decide +kernel
theorem dX7_shiftOf_15 : decode cX7_shiftOf 15 = .ok (.iconst 0, 1) := by decide +kernel
theorem dX7_shiftOf_16 : decode cX7_shiftOf 16 = .ok (.istore_n 3, 1) := by decide +kernel
theorem dX7_shiftOf_17 : decode cX7_shiftOf 17 = .ok (.iconst 0, 1) := by decide +kernel
theorem dX7_shiftOf_18 : decode cX7_shiftOf 18 = .ok (.istore 4, 2) := by decide +kernel
theorem dX7_shiftOf_20 : decode cX7_shiftOf 20 = .ok (.iconst 0, 1) := by decide +kernel
theorem dX7_shiftOf_21 : decode cX7_shiftOf 21 = .ok (.istore 5, 2) := by decide +kernel
theorem dX7_shiftOf_23 : decode cX7_shiftOf 23 = .ok (.iload 5, 2) := by decide +kernel
theorem dX7_shiftOf_25 : decode cX7_shiftOf 25 = .ok (.iload_n 2, 1) := by decide +kernel
theorem dX7_shiftOf_26 : decode cX7_shiftOf 26 = .ok (.if_icmp .ge 135, 3) := by decide +kernel
theorem dX7_shiftOf_29 : decode cX7_shiftOf 29 = .ok (.aload_n 0, 1) := by decide +kernel
theorem dX7_shiftOf_30 : decode cX7_shiftOf 30 = .ok (.getfield 48, 3) := by decide +kernel
theorem dX7_shiftOf_33 : decode cX7_shiftOf 33 = .ok (.iload 5, 2) := by decide +kernel
theorem dX7_shiftOf_35 : decode cX7_shiftOf 35 = .ok (.iaload, 1) := by decide +kernel
theorem dX7_shiftOf_36 : decode cX7_shiftOf 36 = .ok (.istore 6, 2) := by decide +kernel
theorem dX7_shiftOf_38 : decode cX7_shiftOf 38 = .ok (.iconst 0, 1) := by decide +kernel
theorem dX7_shiftOf_39 : decode cX7_shiftOf 39 = .ok (.istore 7, 2) := by decide +kernel
theorem dX7_shiftOf_41 : decode cX7_shiftOf 41 = .ok (.iconst 0, 1) := by decide +kernel
theorem dX7_shiftOf_42 : decode cX7_shiftOf 42 = .ok (.istore 8, 2) := by decide +kernel
theorem dX7_shiftOf_44 : decode cX7_shiftOf 44 = .ok (.iload 8, 2) := by decide +kernel
theorem dX7_shiftOf_46 : decode cX7_shiftOf 46 = .ok (.iload_n 2, 1) := by decide +kernel
theorem dX7_shiftOf_47 : decode cX7_shiftOf 47 = .ok (.if_icmp .ge 31, 3) := by decide +kernel
theorem dX7_shiftOf_50 : decode cX7_shiftOf 50 = .ok (.iload 7, 2) := by decide +kernel
theorem dX7_shiftOf_52 : decode cX7_shiftOf 52 = .ok (.aload_n 0, 1) := by decide +kernel
theorem dX7_shiftOf_53 : decode cX7_shiftOf 53 = .ok (.getfield 48, 3) := by decide +kernel
theorem dX7_shiftOf_56 : decode cX7_shiftOf 56 = .ok (.iload 8, 2) := by decide +kernel
theorem dX7_shiftOf_58 : decode cX7_shiftOf 58 = .ok (.iaload, 1) := by decide +kernel
theorem dX7_shiftOf_59 : decode cX7_shiftOf 59 = .ok (.iload 6, 2) := by decide +kernel
theorem dX7_shiftOf_61 : decode cX7_shiftOf 61 = .ok (.if_icmp .ne 7, 3) := by decide +kernel
theorem dX7_shiftOf_64 : decode cX7_shiftOf 64 = .ok (.iconst 1, 1) := by decide +kernel
theorem dX7_shiftOf_65 : decode cX7_shiftOf 65 = .ok (.goto 4, 3) := by decide +kernel
theorem dX7_shiftOf_68 : decode cX7_shiftOf 68 = .ok (.iconst 0, 1) := by decide +kernel
theorem dX7_shiftOf_69 : decode cX7_shiftOf 69 = .ok (.iadd, 1) := by decide +kernel
theorem dX7_shiftOf_70 : decode cX7_shiftOf 70 = .ok (.istore 7, 2) := by decide +kernel
theorem dX7_shiftOf_72 : decode cX7_shiftOf 72 = .ok (.iinc 8 1, 3) := by decide +kernel
theorem dX7_shiftOf_75 : decode cX7_shiftOf 75 = .ok (.goto (-31), 3) := by decide +kernel
theorem dX7_shiftOf_78 : decode cX7_shiftOf 78 = .ok (.iload 7, 2) := by decide +kernel
theorem dX7_shiftOf_80 : decode cX7_shiftOf 80 = .ok (.iload 4, 2) := by decide +kernel
theorem dX7_shiftOf_82 : decode cX7_shiftOf 82 = .ok (.if_icmp .gt 40, 3) := by decide +kernel
theorem dX7_shiftOf_85 : decode cX7_shiftOf 85 = .ok (.iload 7, 2) := by decide +kernel
theorem dX7_shiftOf_87 : decode cX7_shiftOf 87 = .ok (.iload 4, 2) := by decide +kernel
theorem dX7_shiftOf_89 : decode cX7_shiftOf 89 = .ok (.if_icmp .ne 37, 3) := by decide +kernel
theorem dX7_shiftOf_92 : decode cX7_shiftOf 92 = .ok (.iload 6, 2) := by decide +kernel
theorem dX7_shiftOf_94 : decode cX7_shiftOf 94 = .ok (.invokestatic 167, 3) := by decide +kernel
theorem dX7_shiftOf_97 : decode cX7_shiftOf 97 = .ok (.iload_n 3, 1) := by decide +kernel
theorem dX7_shiftOf_98 : decode cX7_shiftOf 98 = .ok (.invokestatic 167, 3) := by decide +kernel
theorem dX7_shiftOf_101 : decode cX7_shiftOf 101 = .ok (.if_icmp .lt 21, 3) := by decide +kernel
theorem dX7_shiftOf_104 : decode cX7_shiftOf 104 = .ok (.iload 6, 2) := by decide +kernel
theorem dX7_shiftOf_106 : decode cX7_shiftOf 106 = .ok (.invokestatic 167, 3) := by decide +kernel
theorem dX7_shiftOf_109 : decode cX7_shiftOf 109 = .ok (.iload_n 3, 1) := by decide +kernel
theorem dX7_shiftOf_110 : decode cX7_shiftOf 110 = .ok (.invokestatic 167, 3) := by decide +kernel
theorem dX7_shiftOf_113 : decode cX7_shiftOf 113 = .ok (.if_icmp .ne 13, 3) := by decide +kernel
theorem dX7_shiftOf_116 : decode cX7_shiftOf 116 = .ok (.iload 6, 2) := by decide +kernel
theorem dX7_shiftOf_118 : decode cX7_shiftOf 118 = .ok (.iload_n 3, 1) := by decide +kernel
theorem dX7_shiftOf_119 : decode cX7_shiftOf 119 = .ok (.if_icmp .ge 7, 3) := by decide +kernel
theorem dX7_shiftOf_122 : decode cX7_shiftOf 122 = .ok (.iconst 1, 1) := by decide +kernel
theorem dX7_shiftOf_123 : decode cX7_shiftOf 123 = .ok (.goto 4, 3) := by decide +kernel
theorem dX7_shiftOf_126 : decode cX7_shiftOf 126 = .ok (.iconst 0, 1) := by decide +kernel
theorem dX7_shiftOf_127 : decode cX7_shiftOf 127 = .ok (.istore 8, 2) := by decide +kernel
theorem dX7_shiftOf_129 : decode cX7_shiftOf 129 = .ok (.iload 8, 2) := by decide +kernel
theorem dX7_shiftOf_131 : decode cX7_shiftOf 131 = .ok (.ifCond .eq 8, 3) := by decide +kernel
theorem dX7_shiftOf_134 : decode cX7_shiftOf 134 = .ok (.iload 6, 2) := by decide +kernel
theorem dX7_shiftOf_136 : decode cX7_shiftOf 136 = .ok (.goto 4, 3) := by decide +kernel
theorem dX7_shiftOf_139 : decode cX7_shiftOf 139 = .ok (.iload_n 3, 1) := by decide +kernel
theorem dX7_shiftOf_140 : decode cX7_shiftOf 140 = .ok (.istore_n 3, 1) := by decide +kernel
theorem dX7_shiftOf_141 : decode cX7_shiftOf 141 = .ok (.iload 8, 2) := by decide +kernel
theorem dX7_shiftOf_143 : decode cX7_shiftOf 143 = .ok (.ifCond .eq 8, 3) := by decide +kernel
theorem dX7_shiftOf_146 : decode cX7_shiftOf 146 = .ok (.iload 7, 2) := by decide +kernel
theorem dX7_shiftOf_148 : decode cX7_shiftOf 148 = .ok (.goto 5, 3) := by decide +kernel
theorem dX7_shiftOf_151 : decode cX7_shiftOf 151 = .ok (.iload 4, 2) := by decide +kernel
theorem dX7_shiftOf_153 : decode cX7_shiftOf 153 = .ok (.istore 4, 2) := by decide +kernel
theorem dX7_shiftOf_155 : decode cX7_shiftOf 155 = .ok (.iinc 5 1, 3) := by decide +kernel
theorem dX7_shiftOf_158 : decode cX7_shiftOf 158 = .ok (.goto (-135), 3) := by decide +kernel
theorem dX7_shiftOf_161 : decode cX7_shiftOf 161 = .ok (.iload_n 3, 1) := by decide +kernel
theorem dX7_shiftOf_162 : decode cX7_shiftOf 162 = .ok (.ireturn, 1) := by decide +kernel
theorem dX7_agreed_0 : decode cX7_agreed 0 = .ok (.iconst 0, 1) := by decide +kernel
theorem dX7_agreed_1 : decode cX7_agreed 1 = .ok (.istore_n 3, 1) := by decide +kernel
theorem dX7_agreed_2 : decode cX7_agreed 2 = .ok (.aload_n 0, 1) := by decide +kernel
theorem dX7_agreed_3 : decode cX7_agreed 3 = .ok (.iload_n 1, 1) := by decide +kernel
theorem dX7_agreed_4 : decode cX7_agreed 4 = .ok (.invokevirtual 170, 3) := by decide +kernel
theorem dX7_agreed_7 : decode cX7_agreed 7 = .ok (.istore 4, 2) := by decide +kernel
theorem dX7_agreed_9 : decode cX7_agreed 9 = .ok (.iconst 0, 1) := by decide +kernel
theorem dX7_agreed_10 : decode cX7_agreed 10 = .ok (.istore 5, 2) := by decide +kernel
theorem dX7_agreed_12 : decode cX7_agreed 12 = .ok (.iload 5, 2) := by decide +kernel
theorem dX7_agreed_14 : decode cX7_agreed 14 = .ok (.bipush 8, 2) := by decide +kernel
theorem dX7_agreed_16 : decode cX7_agreed 16 = .ok (.if_icmp .ge 67, 3) := by decide +kernel
theorem dX7_agreed_19 : decode cX7_agreed 19 = .ok (.aload_n 0, 1) := by decide +kernel
theorem dX7_agreed_20 : decode cX7_agreed 20 = .ok (.iconst 0, 1) := by decide +kernel
theorem dX7_agreed_21 : decode cX7_agreed 21 = .ok (.iload 5, 2) := by decide +kernel
theorem dX7_agreed_23 : decode cX7_agreed 23 = .ok (.invokevirtual 141, 3) := by decide +kernel
theorem dX7_agreed_26 : decode cX7_agreed 26 = .ok (.istore 6, 2) := by decide +kernel
theorem dX7_agreed_28 : decode cX7_agreed 28 = .ok (.aload_n 0, 1) := by decide +kernel
theorem dX7_agreed_29 : decode cX7_agreed 29 = .ok (.iload_n 1, 1) := by decide +kernel
theorem dX7_agreed_30 : decode cX7_agreed 30 = .ok (.iload 5, 2) := by decide +kernel
theorem dX7_agreed_32 : decode cX7_agreed 32 = .ok (.invokevirtual 141, 3) := by decide +kernel
theorem dX7_agreed_35 : decode cX7_agreed 35 = .ok (.istore 7, 2) := by decide +kernel
theorem dX7_agreed_37 : decode cX7_agreed 37 = .ok (.iload_n 3, 1) := by decide +kernel
theorem dX7_agreed_38 : decode cX7_agreed 38 = .ok (.iload 6, 2) := by decide +kernel
theorem dX7_agreed_40 : decode cX7_agreed 40 = .ok (.ifCond .lt 34, 3) := by decide +kernel
theorem dX7_agreed_43 : decode cX7_agreed 43 = .ok (.iload 7, 2) := by decide +kernel
theorem dX7_agreed_45 : decode cX7_agreed 45 = .ok (.ifCond .lt 29, 3) := by decide +kernel
theorem dX7_agreed_48 : decode cX7_agreed 48 = .ok (.iload 7, 2) := by decide +kernel
theorem dX7_agreed_50 : decode cX7_agreed 50 = .ok (.iload 6, 2) := by decide +kernel
theorem dX7_agreed_52 : decode cX7_agreed 52 = .ok (.isub, 1) := by decide +kernel
theorem dX7_agreed_53 : decode cX7_agreed 53 = .ok (.iload 4, 2) := by decide +kernel
theorem dX7_agreed_55 : decode cX7_agreed 55 = .ok (.if_icmp .ne 7, 3) := by decide +kernel
theorem dX7_agreed_58 : decode cX7_agreed 58 = .ok (.iconst 1, 1) := by decide +kernel
theorem dX7_agreed_59 : decode cX7_agreed 59 = .ok (.goto 4, 3) := by decide +kernel
theorem dX7_agreed_62 : decode cX7_agreed 62 = .ok (.iconst 0, 1) := by decide +kernel
theorem dX7_agreed_63 : decode cX7_agreed 63 = .ok (.iload_n 2, 1) := by decide +kernel
theorem dX7_agreed_64 : decode cX7_agreed 64 = .ok (.if_icmp .ne 10, 3) := by decide +kernel
theorem dX7_agreed_67 : decode cX7_agreed 67 = .ok (.iconst 1, 1) := by decide +kernel
theorem dX7_agreed_68 : decode cX7_agreed 68 = .ok (.iload 5, 2) := by decide +kernel
theorem dX7_agreed_70 : decode cX7_agreed 70 = .ok (.ishl, 1) := by decide +kernel
theorem dX7_agreed_71 : decode cX7_agreed 71 = .ok (.goto 4, 3) := by decide +kernel
theorem dX7_agreed_74 : decode cX7_agreed 74 = .ok (.iconst 0, 1) := by decide +kernel
theorem dX7_agreed_75 : decode cX7_agreed 75 = .ok (.ior, 1) := by decide +kernel
theorem dX7_agreed_76 : decode cX7_agreed 76 = .ok (.istore_n 3, 1) := by decide +kernel
theorem dX7_agreed_77 : decode cX7_agreed 77 = .ok (.iinc 5 1, 3) := by decide +kernel
theorem dX7_agreed_80 : decode cX7_agreed 80 = .ok (.goto (-68), 3) := by decide +kernel
theorem dX7_agreed_83 : decode cX7_agreed 83 = .ok (.iload_n 3, 1) := by decide +kernel
theorem dX7_agreed_84 : decode cX7_agreed 84 = .ok (.ireturn, 1) := by decide +kernel
theorem dX7_shift_0 : decode cX7_shift 0 = .ok (.aload_n 0, 1) := by decide +kernel
theorem dX7_shift_1 : decode cX7_shift 1 = .ok (.iload_n 1, 1) := by decide +kernel
theorem dX7_shift_2 : decode cX7_shift 2 = .ok (.invokevirtual 126, 3) := by decide +kernel
theorem dX7_shift_5 : decode cX7_shift 5 = .ok (.ifCond .eq 15, 3) := by decide +kernel
theorem dX7_shift_8 : decode cX7_shift 8 = .ok (.iload_n 2, 1) := by decide +kernel
theorem dX7_shift_9 : decode cX7_shift 9 = .ok (.i2l, 1) := by decide +kernel
theorem dX7_shift_10 : decode cX7_shift 10 = .ok (.lconst 0, 1) := by decide +kernel
theorem dX7_shift_11 : decode cX7_shift 11 = .ok (.ldc2_w 173, 3) := by decide +kernel
theorem dX7_shift_14 : decode cX7_shift 14 = .ok (.invokestatic 62, 3) := by decide +kernel
theorem dX7_shift_17 : decode cX7_shift 17 = .ok (.ifCond .ne 6, 3) := by decide +kernel
theorem dX7_shift_20 : decode cX7_shift 20 = .ok (.ldc 163, 2) := by decide +kernel
theorem dX7_shift_22 : decode cX7_shift 22 = .ok (.ireturn, 1) := by decide +kernel
theorem dX7_shift_23 : decode cX7_shift 23 = .ok (.iload_n 2, 1) := by decide +kernel
theorem dX7_shift_24 : decode cX7_shift 24 = .ok (.ifCond .ne 11, 3) := by decide +kernel
theorem dX7_shift_27 : decode cX7_shift 27 = .ok (.aload_n 0, 1) := by decide +kernel
theorem dX7_shift_28 : decode cX7_shift 28 = .ok (.iload_n 1, 1) := by decide +kernel
theorem dX7_shift_29 : decode cX7_shift 29 = .ok (.invokevirtual 170, 3) := by decide +kernel
theorem dX7_shift_32 : decode cX7_shift 32 = .ok (.goto 18, 3) := by decide +kernel
theorem dX7_shift_35 : decode cX7_shift 35 = .ok (.aload_n 0, 1) := by decide +kernel
theorem dX7_shift_36 : decode cX7_shift 36 = .ok (.iload_n 1, 1) := by decide +kernel
theorem dX7_shift_37 : decode cX7_shift 37 = .ok (.iload_n 2, 1) := by decide +kernel
theorem dX7_shift_38 : decode cX7_shift 38 = .ok (.iconst 1, 1) := by decide +kernel
theorem dX7_shift_39 : decode cX7_shift 39 = .ok (.if_icmp .ne 7, 3) := by decide +kernel
theorem dX7_shift_42 : decode cX7_shift 42 = .ok (.iconst 1, 1) := by decide +kernel
theorem dX7_shift_43 : decode cX7_shift 43 = .ok (.goto 4, 3) := by decide +kernel
theorem dX7_shift_46 : decode cX7_shift 46 = .ok (.iconst 0, 1) := by decide +kernel
theorem dX7_shift_47 : decode cX7_shift 47 = .ok (.invokevirtual 175, 3) := by decide +kernel
theorem dX7_shift_50 : decode cX7_shift 50 = .ok (.ireturn, 1) := by decide +kernel
theorem dX7_aloneIn_0 : decode cX7_aloneIn 0 = .ok (.iconst 0, 1) := by decide +kernel
theorem dX7_aloneIn_1 : decode cX7_aloneIn 1 = .ok (.istore_n 2, 1) := by decide +kernel
theorem dX7_aloneIn_2 : decode cX7_aloneIn 2 = .ok (.iconst 0, 1) := by decide +kernel
theorem dX7_aloneIn_3 : decode cX7_aloneIn 3 = .ok (.istore_n 3, 1) := by decide +kernel
theorem dX7_aloneIn_4 : decode cX7_aloneIn 4 = .ok (.iload_n 3, 1) := by decide +kernel
theorem dX7_aloneIn_5 : decode cX7_aloneIn 5 = .ok (.bipush 8, 2) := by decide +kernel
theorem dX7_aloneIn_7 : decode cX7_aloneIn 7 = .ok (.if_icmp .ge 28, 3) := by decide +kernel
theorem dX7_aloneIn_10 : decode cX7_aloneIn 10 = .ok (.iload_n 2, 1) := by decide +kernel
theorem dX7_aloneIn_11 : decode cX7_aloneIn 11 = .ok (.aload_n 0, 1) := by decide +kernel
theorem dX7_aloneIn_12 : decode cX7_aloneIn 12 = .ok (.iload_n 3, 1) := by decide +kernel
theorem dX7_aloneIn_13 : decode cX7_aloneIn 13 = .ok (.invokevirtual 179, 3) := by decide +kernel
theorem dX7_aloneIn_16 : decode cX7_aloneIn 16 = .ok (.iconst 1, 1) := by decide +kernel
theorem dX7_aloneIn_17 : decode cX7_aloneIn 17 = .ok (.iload_n 1, 1) := by decide +kernel
theorem dX7_aloneIn_18 : decode cX7_aloneIn 18 = .ok (.ishl, 1) := by decide +kernel
theorem dX7_aloneIn_19 : decode cX7_aloneIn 19 = .ok (.if_icmp .ne 7, 3) := by decide +kernel
theorem dX7_aloneIn_22 : decode cX7_aloneIn 22 = .ok (.iconst 1, 1) := by decide +kernel
theorem dX7_aloneIn_23 : decode cX7_aloneIn 23 = .ok (.goto 4, 3) := by decide +kernel
theorem dX7_aloneIn_26 : decode cX7_aloneIn 26 = .ok (.iconst 0, 1) := by decide +kernel
theorem dX7_aloneIn_27 : decode cX7_aloneIn 27 = .ok (.iadd, 1) := by decide +kernel
theorem dX7_aloneIn_28 : decode cX7_aloneIn 28 = .ok (.istore_n 2, 1) := by decide +kernel
theorem dX7_aloneIn_29 : decode cX7_aloneIn 29 = .ok (.iinc 3 1, 3) := by decide +kernel
theorem dX7_aloneIn_32 : decode cX7_aloneIn 32 = .ok (.goto (-28), 3) := by decide +kernel
theorem dX7_aloneIn_35 : decode cX7_aloneIn 35 = .ok (.iload_n 2, 1) := by decide +kernel
theorem dX7_aloneIn_36 : decode cX7_aloneIn 36 = .ok (.ireturn, 1) := by decide +kernel
theorem dX7_knotsIn_0 : decode cX7_knotsIn 0 = .ok (.aload_n 0, 1) := by decide +kernel
theorem dX7_knotsIn_1 : decode cX7_knotsIn 1 = .ok (.invokevirtual 182, 3) := by decide +kernel
theorem dX7_knotsIn_4 : decode cX7_knotsIn 4 = .ok (.istore_n 2, 1) := by decide +kernel
theorem dX7_knotsIn_5 : decode cX7_knotsIn 5 = .ok (.iconst 0, 1) := by decide +kernel
theorem dX7_knotsIn_6 : decode cX7_knotsIn 6 = .ok (.istore_n 3, 1) := by decide +kernel
theorem dX7_knotsIn_7 : decode cX7_knotsIn 7 = .ok (.iconst 0, 1) := by decide +kernel
theorem dX7_knotsIn_8 : decode cX7_knotsIn 8 = .ok (.istore 4, 2) := by decide +kernel
theorem dX7_knotsIn_10 : decode cX7_knotsIn 10 = .ok (.iload 4, 2) := by decide +kernel
theorem dX7_knotsIn_12 : decode cX7_knotsIn 12 = .ok (.bipush 8, 2) := by decide +kernel
theorem dX7_knotsIn_14 : decode cX7_knotsIn 14 = .ok (.if_icmp .ge 36, 3) := by decide +kernel
theorem dX7_knotsIn_17 : decode cX7_knotsIn 17 = .ok (.iload_n 3, 1) := by decide +kernel
theorem dX7_knotsIn_18 : decode cX7_knotsIn 18 = .ok (.iload_n 2, 1) := by decide +kernel
theorem dX7_knotsIn_19 : decode cX7_knotsIn 19 = .ok (.iload 4, 2) := by decide +kernel
theorem dX7_knotsIn_21 : decode cX7_knotsIn 21 = .ok (.invokestatic 135, 3) := by decide +kernel
theorem dX7_knotsIn_24 : decode cX7_knotsIn 24 = .ok (.ifCond .eq 17, 3) := by decide +kernel
theorem dX7_knotsIn_27 : decode cX7_knotsIn 27 = .ok (.aload_n 0, 1) := by decide +kernel
theorem dX7_knotsIn_28 : decode cX7_knotsIn 28 = .ok (.iload_n 1, 1) := by decide +kernel
theorem dX7_knotsIn_29 : decode cX7_knotsIn 29 = .ok (.iload 4, 2) := by decide +kernel
theorem dX7_knotsIn_31 : decode cX7_knotsIn 31 = .ok (.invokevirtual 141, 3) := by decide +kernel
theorem dX7_knotsIn_34 : decode cX7_knotsIn 34 = .ok (.ifCond .lt 7, 3) := by decide +kernel
theorem dX7_knotsIn_37 : decode cX7_knotsIn 37 = .ok (.iconst 1, 1) := by decide +kernel
theorem dX7_knotsIn_38 : decode cX7_knotsIn 38 = .ok (.goto 4, 3) := by decide +kernel
theorem dX7_knotsIn_41 : decode cX7_knotsIn 41 = .ok (.iconst 0, 1) := by decide +kernel
theorem dX7_knotsIn_42 : decode cX7_knotsIn 42 = .ok (.iadd, 1) := by decide +kernel
theorem dX7_knotsIn_43 : decode cX7_knotsIn 43 = .ok (.istore_n 3, 1) := by decide +kernel
theorem dX7_knotsIn_44 : decode cX7_knotsIn 44 = .ok (.iinc 4 1, 3) := by decide +kernel
theorem dX7_knotsIn_47 : decode cX7_knotsIn 47 = .ok (.goto (-37), 3) := by decide +kernel
theorem dX7_knotsIn_50 : decode cX7_knotsIn 50 = .ok (.iload_n 3, 1) := by decide +kernel
theorem dX7_knotsIn_51 : decode cX7_knotsIn 51 = .ok (.ireturn, 1) := by decide +kernel
theorem dX7_measured_0 : decode cX7_measured 0 = .ok (.iload_n 2, 1) := by decide +kernel
theorem dX7_measured_1 : decode cX7_measured 1 = .ok (.tableswitch 80 0 3 #[31, 37, 47, 74], 31) := by decide +kernel
theorem dX7_measured_32 : decode cX7_measured 32 = .ok (.aload_n 0, 1) := by decide +kernel
theorem dX7_measured_33 : decode cX7_measured 33 = .ok (.iload_n 1, 1) := by decide +kernel
theorem dX7_measured_34 : decode cX7_measured 34 = .ok (.invokevirtual 186, 3) := by decide +kernel
theorem dX7_measured_37 : decode cX7_measured 37 = .ok (.ireturn, 1) := by decide +kernel
theorem dX7_measured_38 : decode cX7_measured 38 = .ok (.aload_n 0, 1) := by decide +kernel
theorem dX7_measured_39 : decode cX7_measured 39 = .ok (.iload_n 1, 1) := by decide +kernel
theorem dX7_measured_40 : decode cX7_measured 40 = .ok (.iconst 1, 1) := by decide +kernel
theorem dX7_measured_41 : decode cX7_measured 41 = .ok (.invokevirtual 175, 3) := by decide +kernel
theorem dX7_measured_44 : decode cX7_measured 44 = .ok (.invokestatic 189, 3) := by decide +kernel
theorem dX7_measured_47 : decode cX7_measured 47 = .ok (.ireturn, 1) := by decide +kernel
theorem dX7_measured_48 : decode cX7_measured 48 = .ok (.iload_n 1, 1) := by decide +kernel
theorem dX7_measured_49 : decode cX7_measured 49 = .ok (.ifCond .le 12, 3) := by decide +kernel
theorem dX7_measured_52 : decode cX7_measured 52 = .ok (.aload_n 0, 1) := by decide +kernel
theorem dX7_measured_53 : decode cX7_measured 53 = .ok (.iconst 0, 1) := by decide +kernel
theorem dX7_measured_54 : decode cX7_measured 54 = .ok (.iload_n 1, 1) := by decide +kernel
theorem dX7_measured_55 : decode cX7_measured 55 = .ok (.invokevirtual 164, 3) := by decide +kernel
theorem dX7_measured_58 : decode cX7_measured 58 = .ok (.goto 16, 3) := by decide +kernel
theorem dX7_measured_61 : decode cX7_measured 61 = .ok (.aload_n 0, 1) := by decide +kernel
theorem dX7_measured_62 : decode cX7_measured 62 = .ok (.iconst 0, 1) := by decide +kernel
theorem dX7_measured_63 : decode cX7_measured 63 = .ok (.invokevirtual 186, 3) := by decide +kernel
theorem dX7_measured_66 : decode cX7_measured 66 = .ok (.ifCond .le 7, 3) := by decide +kernel
theorem dX7_measured_69 : decode cX7_measured 69 = .ok (.iconst 1, 1) := by decide +kernel
theorem dX7_measured_70 : decode cX7_measured 70 = .ok (.goto 4, 3) := by decide +kernel
theorem dX7_measured_73 : decode cX7_measured 73 = .ok (.iconst 0, 1) := by decide +kernel
theorem dX7_measured_74 : decode cX7_measured 74 = .ok (.ireturn, 1) := by decide +kernel
theorem dX7_measured_75 : decode cX7_measured 75 = .ok (.aload_n 0, 1) := by decide +kernel
theorem dX7_measured_76 : decode cX7_measured 76 = .ok (.iload_n 1, 1) := by decide +kernel
theorem dX7_measured_77 : decode cX7_measured 77 = .ok (.invokevirtual 192, 3) := by decide +kernel
theorem dX7_measured_80 : decode cX7_measured 80 = .ok (.ireturn, 1) := by decide +kernel
theorem dX7_measured_81 : decode cX7_measured 81 = .ok (.aload_n 0, 1) := by decide +kernel
theorem dX7_measured_82 : decode cX7_measured 82 = .ok (.iload_n 1, 1) := by decide +kernel
theorem dX7_measured_83 : decode cX7_measured 83 = .ok (.invokevirtual 195, 3) := by decide +kernel
theorem dX7_measured_86 : decode cX7_measured 86 = .ok (.ireturn, 1) := by decide +kernel
theorem dX7_measure_0 : decode cX7_measure 0 = .ok (.aload_n 0, 1) := by decide +kernel
theorem dX7_measure_1 : decode cX7_measure 1 = .ok (.iload_n 1, 1) := by decide +kernel
theorem dX7_measure_2 : decode cX7_measure 2 = .ok (.invokevirtual 126, 3) := by decide +kernel
theorem dX7_measure_5 : decode cX7_measure 5 = .ok (.ifCond .eq 15, 3) := by decide +kernel
theorem dX7_measure_8 : decode cX7_measure 8 = .ok (.iload_n 2, 1) := by decide +kernel
theorem dX7_measure_9 : decode cX7_measure 9 = .ok (.i2l, 1) := by decide +kernel
theorem dX7_measure_10 : decode cX7_measure 10 = .ok (.lconst 0, 1) := by decide +kernel
theorem dX7_measure_11 : decode cX7_measure 11 = .ok (.ldc2_w 198, 3) := by decide +kernel
theorem dX7_measure_14 : decode cX7_measure 14 = .ok (.invokestatic 62, 3) := by decide +kernel
theorem dX7_measure_17 : decode cX7_measure 17 = .ok (.ifCond .ne 7, 3) := by decide +kernel
theorem dX7_measure_20 : decode cX7_measure 20 = .ok (.iconst (-1), 1) := by decide +kernel
theorem dX7_measure_21 : decode cX7_measure 21 = .ok (.goto 9, 3) := by decide +kernel
theorem dX7_measure_24 : decode cX7_measure 24 = .ok (.aload_n 0, 1) := by decide +kernel
theorem dX7_measure_25 : decode cX7_measure 25 = .ok (.iload_n 1, 1) := by decide +kernel
theorem dX7_measure_26 : decode cX7_measure 26 = .ok (.iload_n 2, 1) := by decide +kernel
theorem dX7_measure_27 : decode cX7_measure 27 = .ok (.invokevirtual 200, 3) := by decide +kernel
theorem dX7_measure_30 : decode cX7_measure 30 = .ok (.ireturn, 1) := by decide +kernel
theorem dX7_rank_0 : decode cX7_rank 0 = .ok (.iload_n 1, 1) := by decide +kernel
theorem dX7_rank_1 : decode cX7_rank 1 = .ok (.i2l, 1) := by decide +kernel
theorem dX7_rank_2 : decode cX7_rank 2 = .ok (.lconst 0, 1) := by decide +kernel
theorem dX7_rank_3 : decode cX7_rank 3 = .ok (.ldc2_w 198, 3) := by decide +kernel
theorem dX7_rank_6 : decode cX7_rank 6 = .ok (.invokestatic 62, 3) := by decide +kernel
theorem dX7_rank_9 : decode cX7_rank 9 = .ok (.ifCond .eq 7, 3) := by decide +kernel
theorem dX7_rank_12 : decode cX7_rank 12 = .ok (.iload_n 2, 1) := by decide +kernel
theorem dX7_rank_13 : decode cX7_rank 13 = .ok (.ifCond .ge 5, 3) := by decide +kernel
theorem dX7_rank_16 : decode cX7_rank 16 = .ok (.iconst (-1), 1) := by decide +kernel
theorem dX7_rank_17 : decode cX7_rank 17 = .ok (.ireturn, 1) := by decide +kernel
theorem dX7_rank_18 : decode cX7_rank 18 = .ok (.iconst 0, 1) := by decide +kernel
theorem dX7_rank_19 : decode cX7_rank 19 = .ok (.istore_n 3, 1) := by decide +kernel
theorem dX7_rank_20 : decode cX7_rank 20 = .ok (.iload_n 3, 1) := by decide +kernel
theorem dX7_rank_21 : decode cX7_rank 21 = .ok (.aload_n 0, 1) := by decide +kernel
theorem dX7_rank_22 : decode cX7_rank 22 = .ok (.getfield 120, 3) := by decide +kernel
theorem dX7_rank_25 : decode cX7_rank 25 = .ok (.if_icmp .ge 85, 3) := by decide +kernel
theorem dX7_rank_28 : decode cX7_rank 28 = .ok (.aload_n 0, 1) := by decide +kernel
theorem dX7_rank_29 : decode cX7_rank 29 = .ok (.iload_n 3, 1) := by decide +kernel
theorem dX7_rank_30 : decode cX7_rank 30 = .ok (.iload_n 1, 1) := by decide +kernel
theorem dX7_rank_31 : decode cX7_rank 31 = .ok (.invokevirtual 200, 3) := by decide +kernel
theorem dX7_rank_34 : decode cX7_rank 34 = .ok (.istore 4, 2) := by decide +kernel
theorem dX7_rank_36 : decode cX7_rank 36 = .ok (.iconst 0, 1) := by decide +kernel
theorem dX7_rank_37 : decode cX7_rank 37 = .ok (.istore 5, 2) := by decide +kernel
theorem dX7_rank_39 : decode cX7_rank 39 = .ok (.iconst 0, 1) := by decide +kernel
theorem dX7_rank_40 : decode cX7_rank 40 = .ok (.istore 6, 2) := by decide +kernel
theorem dX7_rank_42 : decode cX7_rank 42 = .ok (.iload 6, 2) := by decide +kernel
theorem dX7_rank_44 : decode cX7_rank 44 = .ok (.aload_n 0, 1) := by decide +kernel
theorem dX7_rank_45 : decode cX7_rank 45 = .ok (.getfield 120, 3) := by decide +kernel
theorem dX7_rank_48 : decode cX7_rank 48 = .ok (.if_icmp .ge 48, 3) := by decide +kernel
theorem dX7_rank_51 : decode cX7_rank 51 = .ok (.aload_n 0, 1) := by decide +kernel
theorem dX7_rank_52 : decode cX7_rank 52 = .ok (.iload 6, 2) := by decide +kernel
theorem dX7_rank_54 : decode cX7_rank 54 = .ok (.iload_n 1, 1) := by decide +kernel
theorem dX7_rank_55 : decode cX7_rank 55 = .ok (.invokevirtual 200, 3) := by decide +kernel
theorem dX7_rank_58 : decode cX7_rank 58 = .ok (.istore 7, 2) := by decide +kernel
theorem dX7_rank_60 : decode cX7_rank 60 = .ok (.iload 5, 2) := by decide +kernel
theorem dX7_rank_62 : decode cX7_rank 62 = .ok (.iload 7, 2) := by decide +kernel
theorem dX7_rank_64 : decode cX7_rank 64 = .ok (.iload 4, 2) := by decide +kernel
theorem dX7_rank_66 : decode cX7_rank 66 = .ok (.if_icmp .gt 16, 3) := by decide +kernel
theorem dX7_rank_69 : decode cX7_rank 69 = .ok (.iload 7, 2) := by decide +kernel
theorem dX7_rank_71 : decode cX7_rank 71 = .ok (.iload 4, 2) := by decide +kernel
theorem dX7_rank_73 : decode cX7_rank 73 = .ok (.if_icmp .ne 13, 3) := by decide +kernel
theorem dX7_rank_76 : decode cX7_rank 76 = .ok (.iload 6, 2) := by decide +kernel
theorem dX7_rank_78 : decode cX7_rank 78 = .ok (.iload_n 3, 1) := by decide +kernel
theorem dX7_rank_79 : decode cX7_rank 79 = .ok (.if_icmp .ge 7, 3) := by decide +kernel
theorem dX7_rank_82 : decode cX7_rank 82 = .ok (.iconst 1, 1) := by decide +kernel
theorem dX7_rank_83 : decode cX7_rank 83 = .ok (.goto 4, 3) := by decide +kernel
theorem dX7_rank_86 : decode cX7_rank 86 = .ok (.iconst 0, 1) := by decide +kernel
theorem dX7_rank_87 : decode cX7_rank 87 = .ok (.iadd, 1) := by decide +kernel
theorem dX7_rank_88 : decode cX7_rank 88 = .ok (.istore 5, 2) := by decide +kernel
theorem dX7_rank_90 : decode cX7_rank 90 = .ok (.iinc 6 1, 3) := by decide +kernel
theorem dX7_rank_93 : decode cX7_rank 93 = .ok (.goto (-51), 3) := by decide +kernel
theorem dX7_rank_96 : decode cX7_rank 96 = .ok (.iload 5, 2) := by decide +kernel
theorem dX7_rank_98 : decode cX7_rank 98 = .ok (.iload_n 2, 1) := by decide +kernel
theorem dX7_rank_99 : decode cX7_rank 99 = .ok (.if_icmp .ne 5, 3) := by decide +kernel
theorem dX7_rank_102 : decode cX7_rank 102 = .ok (.iload_n 3, 1) := by decide +kernel
theorem dX7_rank_103 : decode cX7_rank 103 = .ok (.ireturn, 1) := by decide +kernel
theorem dX7_rank_104 : decode cX7_rank 104 = .ok (.iinc 3 1, 3) := by decide +kernel
theorem dX7_rank_107 : decode cX7_rank 107 = .ok (.goto (-87), 3) := by decide +kernel
theorem dX7_rank_110 : decode cX7_rank 110 = .ok (.bipush (-9), 2) := by decide +kernel
theorem dX7_rank_112 : decode cX7_rank 112 = .ok (.ireturn, 1) := by decide +kernel
theorem dX7_event_0 : decode cX7_event 0 = .ok (.iload_n 1, 1) := by decide +kernel
theorem dX7_event_1 : decode cX7_event 1 = .ok (.i2l, 1) := by decide +kernel
theorem dX7_event_2 : decode cX7_event 2 = .ok (.lconst 0, 1) := by decide +kernel
theorem dX7_event_3 : decode cX7_event 3 = .ok (.ldc2_w 203, 3) := by decide +kernel
theorem dX7_event_6 : decode cX7_event 6 = .ok (.invokestatic 62, 3) := by decide +kernel
theorem dX7_event_9 : decode cX7_event 9 = .ok (.ifCond .eq 15, 3) := by decide +kernel
theorem dX7_event_12 : decode cX7_event 12 = .ok (.iload_n 2, 1) := by decide +kernel
theorem dX7_event_13 : decode cX7_event 13 = .ok (.i2l, 1) := by decide +kernel
theorem dX7_event_14 : decode cX7_event 14 = .ok (.lconst 0, 1) := by decide +kernel
theorem dX7_event_15 : decode cX7_event 15 = .ok (.ldc2_w 161, 3) := by decide +kernel
theorem dX7_event_18 : decode cX7_event 18 = .ok (.invokestatic 62, 3) := by decide +kernel
theorem dX7_event_21 : decode cX7_event 21 = .ok (.ifCond .ne 5, 3) := by decide +kernel
theorem dX7_event_24 : decode cX7_event 24 = .ok (.iconst (-1), 1) := by decide +kernel
theorem dX7_event_25 : decode cX7_event 25 = .ok (.ireturn, 1) := by decide +kernel
theorem dX7_event_26 : decode cX7_event 26 = .ok (.aload_n 0, 1) := by decide +kernel
theorem dX7_event_27 : decode cX7_event 27 = .ok (.invokevirtual 182, 3) := by decide +kernel
theorem dX7_event_30 : decode cX7_event 30 = .ok (.istore_n 3, 1) := by decide +kernel
theorem dX7_event_31 : decode cX7_event 31 = .ok (.iload_n 2, 1) := by decide +kernel
theorem dX7_event_32 : decode cX7_event 32 = .ok (.ifCond .ne 11, 3) := by decide +kernel
theorem dX7_event_35 : decode cX7_event 35 = .ok (.aload_n 0, 1) := by decide +kernel
theorem dX7_event_36 : decode cX7_event 36 = .ok (.iload_n 1, 1) := by decide +kernel
theorem dX7_event_37 : decode cX7_event 37 = .ok (.invokevirtual 179, 3) := by decide +kernel
theorem dX7_event_40 : decode cX7_event 40 = .ok (.goto 35, 3) := by decide +kernel
theorem dX7_event_43 : decode cX7_event 43 = .ok (.iload_n 2, 1) := by decide +kernel
theorem dX7_event_44 : decode cX7_event 44 = .ok (.iconst 1, 1) := by decide +kernel
theorem dX7_event_45 : decode cX7_event 45 = .ok (.if_icmp .ne 11, 3) := by decide +kernel
theorem dX7_event_48 : decode cX7_event 48 = .ok (.aload_n 0, 1) := by decide +kernel
theorem dX7_event_49 : decode cX7_event 49 = .ok (.iload_n 1, 1) := by decide +kernel
theorem dX7_event_50 : decode cX7_event 50 = .ok (.invokevirtual 145, 3) := by decide +kernel
theorem dX7_event_53 : decode cX7_event 53 = .ok (.goto 22, 3) := by decide +kernel
theorem dX7_event_56 : decode cX7_event 56 = .ok (.iload_n 2, 1) := by decide +kernel
theorem dX7_event_57 : decode cX7_event 57 = .ok (.iconst 2, 1) := by decide +kernel
theorem dX7_event_58 : decode cX7_event 58 = .ok (.if_icmp .ne 12, 3) := by decide +kernel
theorem dX7_event_61 : decode cX7_event 61 = .ok (.aload_n 0, 1) := by decide +kernel
theorem dX7_event_62 : decode cX7_event 62 = .ok (.getfield 42, 3) := by decide +kernel
theorem dX7_event_65 : decode cX7_event 65 = .ok (.iload_n 1, 1) := by decide +kernel
theorem dX7_event_66 : decode cX7_event 66 = .ok (.iaload, 1) := by decide +kernel
theorem dX7_event_67 : decode cX7_event 67 = .ok (.goto 8, 3) := by decide +kernel
theorem dX7_event_70 : decode cX7_event 70 = .ok (.iload_n 3, 1) := by decide +kernel
theorem dX7_event_71 : decode cX7_event 71 = .ok (.iload_n 1, 1) := by decide +kernel
theorem dX7_event_72 : decode cX7_event 72 = .ok (.ishr, 1) := by decide +kernel
theorem dX7_event_73 : decode cX7_event 73 = .ok (.iconst 1, 1) := by decide +kernel
theorem dX7_event_74 : decode cX7_event 74 = .ok (.iand, 1) := by decide +kernel
theorem dX7_event_75 : decode cX7_event 75 = .ok (.ireturn, 1) := by decide +kernel
theorem dX7_date_0 : decode cX7_date 0 = .ok (.iconst 0, 1) := by decide +kernel
theorem dX7_date_1 : decode cX7_date 1 = .ok (.istore_n 2, 1) := by decide +kernel
theorem dX7_date_2 : decode cX7_date 2 = .ok (.iload_n 2, 1) := by decide +kernel
theorem dX7_date_3 : decode cX7_date 3 = .ok (.aload_n 0, 1) := by decide +kernel
theorem dX7_date_4 : decode cX7_date 4 = .ok (.getfield 120, 3) := by decide +kernel
theorem dX7_date_7 : decode cX7_date 7 = .ok (.if_icmp .ge 43, 3) := by decide +kernel
theorem dX7_date_10 : decode cX7_date 10 = .ok (.iload_n 1, 1) := by decide +kernel
theorem dX7_date_11 : decode cX7_date 11 = .ok (.i2l, 1) := by decide +kernel
theorem dX7_date_12 : decode cX7_date 12 = .ok (.lconst 0, 1) := by decide +kernel
theorem dX7_date_13 : decode cX7_date 13 = .ok (.ldc2_w 203, 3) := by decide +kernel
theorem dX7_date_16 : decode cX7_date 16 = .ok (.invokestatic 62, 3) := by decide +kernel
theorem dX7_date_19 : decode cX7_date 19 = .ok (.ifCond .eq 31, 3) := by decide +kernel
theorem dX7_date_22 : decode cX7_date 22 = .ok (.aload_n 0, 1) := by decide +kernel
theorem dX7_date_23 : decode cX7_date 23 = .ok (.iload_n 2, 1) := by decide +kernel
theorem dX7_date_24 : decode cX7_date 24 = .ok (.iload_n 1, 1) := by decide +kernel
theorem dX7_date_25 : decode cX7_date 25 = .ok (.invokevirtual 141, 3) := by decide +kernel
theorem dX7_date_28 : decode cX7_date 28 = .ok (.ifCond .lt 16, 3) := by decide +kernel
theorem dX7_date_31 : decode cX7_date 31 = .ok (.aload_n 0, 1) := by decide +kernel
theorem dX7_date_32 : decode cX7_date 32 = .ok (.iload_n 2, 1) := by decide +kernel
theorem dX7_date_33 : decode cX7_date 33 = .ok (.iload_n 1, 1) := by decide +kernel
theorem dX7_date_34 : decode cX7_date 34 = .ok (.invokevirtual 141, 3) := by decide +kernel
theorem dX7_date_37 : decode cX7_date 37 = .ok (.aload_n 0, 1) := by decide +kernel
theorem dX7_date_38 : decode cX7_date 38 = .ok (.iload_n 2, 1) := by decide +kernel
theorem dX7_date_39 : decode cX7_date 39 = .ok (.invokevirtual 170, 3) := by decide +kernel
theorem dX7_date_42 : decode cX7_date 42 = .ok (.isub, 1) := by decide +kernel
theorem dX7_date_43 : decode cX7_date 43 = .ok (.ireturn, 1) := by decide +kernel
theorem dX7_date_44 : decode cX7_date 44 = .ok (.iinc 2 1, 3) := by decide +kernel
theorem dX7_date_47 : decode cX7_date 47 = .ok (.goto (-45), 3) := by decide +kernel
theorem dX7_date_50 : decode cX7_date 50 = .ok (.ldc 163, 2) := by decide +kernel
theorem dX7_date_52 : decode cX7_date 52 = .ok (.ireturn, 1) := by decide +kernel
theorem dX7_late_0 : decode cX7_late 0 = .ok (.aload_n 0, 1) := by decide +kernel
theorem dX7_late_1 : decode cX7_late 1 = .ok (.iload_n 1, 1) := by decide +kernel
theorem dX7_late_2 : decode cX7_late 2 = .ok (.invokevirtual 205, 3) := by decide +kernel
theorem dX7_late_5 : decode cX7_late 5 = .ok (.istore_n 3, 1) := by decide +kernel
theorem dX7_late_6 : decode cX7_late 6 = .ok (.aload_n 0, 1) := by decide +kernel
theorem dX7_late_7 : decode cX7_late 7 = .ok (.iload_n 2, 1) := by decide +kernel
theorem dX7_late_8 : decode cX7_late 8 = .ok (.invokevirtual 205, 3) := by decide +kernel
theorem dX7_late_11 : decode cX7_late 11 = .ok (.istore 4, 2) := by decide +kernel
theorem dX7_late_13 : decode cX7_late 13 = .ok (.iload_n 3, 1) := by decide +kernel
theorem dX7_late_14 : decode cX7_late 14 = .ok (.ldc 163, 2) := by decide +kernel
theorem dX7_late_16 : decode cX7_late 16 = .ok (.if_icmp .eq 10, 3) := by decide +kernel
theorem dX7_late_19 : decode cX7_late 19 = .ok (.iload 4, 2) := by decide +kernel
theorem dX7_late_21 : decode cX7_late 21 = .ok (.ldc 163, 2) := by decide +kernel
theorem dX7_late_23 : decode cX7_late 23 = .ok (.if_icmp .ne 8, 3) := by decide +kernel
theorem dX7_late_26 : decode cX7_late 26 = .ok (.ldc 163, 2) := by decide +kernel
theorem dX7_late_28 : decode cX7_late 28 = .ok (.goto 7, 3) := by decide +kernel
theorem dX7_late_31 : decode cX7_late 31 = .ok (.iload_n 3, 1) := by decide +kernel
theorem dX7_late_32 : decode cX7_late 32 = .ok (.iload 4, 2) := by decide +kernel
theorem dX7_late_34 : decode cX7_late 34 = .ok (.isub, 1) := by decide +kernel
theorem dX7_late_35 : decode cX7_late 35 = .ok (.ireturn, 1) := by decide +kernel
theorem dX7_line_0 : decode cX7_line 0 = .ok (.iload_n 1, 1) := by decide +kernel
theorem dX7_line_1 : decode cX7_line 1 = .ok (.ifCond .ge 5, 3) := by decide +kernel
theorem dX7_line_4 : decode cX7_line 4 = .ok (.iconst (-1), 1) := by decide +kernel
theorem dX7_line_5 : decode cX7_line 5 = .ok (.ireturn, 1) := by decide +kernel
theorem dX7_line_6 : decode cX7_line 6 = .ok (.aload_n 0, 1) := by decide +kernel
theorem dX7_line_7 : decode cX7_line 7 = .ok (.invokevirtual 182, 3) := by decide +kernel
theorem dX7_line_10 : decode cX7_line 10 = .ok (.ifCond .eq 6, 3) := by decide +kernel
theorem dX7_line_13 : decode cX7_line 13 = .ok (.bipush (-9), 2) := by decide +kernel
theorem dX7_line_15 : decode cX7_line 15 = .ok (.ireturn, 1) := by decide +kernel
theorem dX7_line_16 : decode cX7_line 16 = .ok (.iconst 0, 1) := by decide +kernel
theorem dX7_line_17 : decode cX7_line 17 = .ok (.istore_n 2, 1) := by decide +kernel
theorem dX7_line_18 : decode cX7_line 18 = .ok (.iconst 0, 1) := by decide +kernel
theorem dX7_line_19 : decode cX7_line 19 = .ok (.istore_n 3, 1) := by decide +kernel
theorem dX7_line_20 : decode cX7_line 20 = .ok (.iload_n 3, 1) := by decide +kernel
theorem dX7_line_21 : decode cX7_line 21 = .ok (.bipush 8, 2) := by decide +kernel
theorem dX7_line_23 : decode cX7_line 23 = .ok (.if_icmp .ge 27, 3) := by decide +kernel
theorem dX7_line_26 : decode cX7_line 26 = .ok (.iload_n 2, 1) := by decide +kernel
theorem dX7_line_27 : decode cX7_line 27 = .ok (.aload_n 0, 1) := by decide +kernel
theorem dX7_line_28 : decode cX7_line 28 = .ok (.iload_n 3, 1) := by decide +kernel
theorem dX7_line_29 : decode cX7_line 29 = .ok (.invokevirtual 179, 3) := by decide +kernel
theorem dX7_line_32 : decode cX7_line 32 = .ok (.ifCond .eq 9, 3) := by decide +kernel
theorem dX7_line_35 : decode cX7_line 35 = .ok (.iconst 1, 1) := by decide +kernel
theorem dX7_line_36 : decode cX7_line 36 = .ok (.iload_n 3, 1) := by decide +kernel
theorem dX7_line_37 : decode cX7_line 37 = .ok (.ishl, 1) := by decide +kernel
theorem dX7_line_38 : decode cX7_line 38 = .ok (.goto 4, 3) := by decide +kernel
theorem dX7_line_41 : decode cX7_line 41 = .ok (.iconst 0, 1) := by decide +kernel
theorem dX7_line_42 : decode cX7_line 42 = .ok (.ior, 1) := by decide +kernel
theorem dX7_line_43 : decode cX7_line 43 = .ok (.istore_n 2, 1) := by decide +kernel
theorem dX7_line_44 : decode cX7_line 44 = .ok (.iinc 3 1, 3) := by decide +kernel
theorem dX7_line_47 : decode cX7_line 47 = .ok (.goto (-27), 3) := by decide +kernel
theorem dX7_line_50 : decode cX7_line 50 = .ok (.iconst 0, 1) := by decide +kernel
theorem dX7_line_51 : decode cX7_line 51 = .ok (.istore_n 3, 1) := by decide +kernel
theorem dX7_line_52 : decode cX7_line 52 = .ok (.iload_n 2, 1) := by decide +kernel
theorem dX7_line_53 : decode cX7_line 53 = .ok (.ifCond .eq 92, 3) := by decide +kernel
theorem dX7_line_56 : decode cX7_line 56 = .ok (.iconst 0, 1) := by decide +kernel
theorem dX7_line_57 : decode cX7_line 57 = .ok (.istore 4, 2) := by decide +kernel
theorem dX7_line_59 : decode cX7_line 59 = .ok (.iconst 0, 1) := by decide +kernel
theorem dX7_line_60 : decode cX7_line 60 = .ok (.istore 5, 2) := by decide +kernel
theorem dX7_line_62 : decode cX7_line 62 = .ok (.iload 5, 2) := by decide +kernel
theorem dX7_line_64 : decode cX7_line 64 = .ok (.bipush 8, 2) := by decide +kernel
theorem dX7_line_66 : decode cX7_line 66 = .ok (.if_icmp .ge 33, 3) := by decide +kernel
theorem dX7_line_69 : decode cX7_line 69 = .ok (.iload 4, 2) := by decide +kernel
theorem dX7_line_71 : decode cX7_line 71 = .ok (.iload_n 2, 1) := by decide +kernel
theorem dX7_line_72 : decode cX7_line 72 = .ok (.iload 5, 2) := by decide +kernel
theorem dX7_line_74 : decode cX7_line 74 = .ok (.invokestatic 135, 3) := by decide +kernel
theorem dX7_line_77 : decode cX7_line 77 = .ok (.ifCond .eq 12, 3) := by decide +kernel
theorem dX7_line_80 : decode cX7_line 80 = .ok (.aload_n 0, 1) := by decide +kernel
theorem dX7_line_81 : decode cX7_line 81 = .ok (.iload 5, 2) := by decide +kernel
theorem dX7_line_83 : decode cX7_line 83 = .ok (.invokevirtual 145, 3) := by decide +kernel
theorem dX7_line_86 : decode cX7_line 86 = .ok (.goto 4, 3) := by decide +kernel
theorem dX7_line_89 : decode cX7_line 89 = .ok (.iconst 0, 1) := by decide +kernel
theorem dX7_line_90 : decode cX7_line 90 = .ok (.ior, 1) := by decide +kernel
theorem dX7_line_91 : decode cX7_line 91 = .ok (.istore 4, 2) := by decide +kernel
theorem dX7_line_93 : decode cX7_line 93 = .ok (.iinc 5 1, 3) := by decide +kernel
theorem dX7_line_96 : decode cX7_line 96 = .ok (.goto (-34), 3) := by decide +kernel
theorem dX7_line_99 : decode cX7_line 99 = .ok (.iconst 0, 1) := by decide +kernel
theorem dX7_line_100 : decode cX7_line 100 = .ok (.istore 5, 2) := by decide +kernel
theorem dX7_line_102 : decode cX7_line 102 = .ok (.iload_n 2, 1) := by decide +kernel
theorem dX7_line_103 : decode cX7_line 103 = .ok (.iload 4, 2) := by decide +kernel
theorem dX7_line_105 : decode cX7_line 105 = .ok (.iconst (-1), 1) := by decide +kernel
theorem dX7_line_106 : decode cX7_line 106 = .ok (.ixor, 1) := by decide +kernel
theorem dX7_line_107 : decode cX7_line 107 = .ok (.iand, 1) := by decide +kernel
theorem dX7_line_108 : decode cX7_line 108 = .ok (.iload 5, 2) := by decide +kernel
theorem dX7_line_110 : decode cX7_line 110 = .ok (.invokestatic 135, 3) := by decide +kernel
theorem dX7_line_113 : decode cX7_line 113 = .ok (.ifCond .ne 9, 3) := by decide +kernel
theorem dX7_line_116 : decode cX7_line 116 = .ok (.iinc 5 1, 3) := by decide +kernel
theorem dX7_line_119 : decode cX7_line 119 = .ok (.goto (-17), 3) := by decide +kernel
theorem dX7_line_122 : decode cX7_line 122 = .ok (.iload_n 3, 1) := by decide +kernel
theorem dX7_line_123 : decode cX7_line 123 = .ok (.iload_n 1, 1) := by decide +kernel
theorem dX7_line_124 : decode cX7_line 124 = .ok (.if_icmp .ne 6, 3) := by decide +kernel
theorem dX7_line_127 : decode cX7_line 127 = .ok (.iload 5, 2) := by decide +kernel
theorem dX7_line_129 : decode cX7_line 129 = .ok (.ireturn, 1) := by decide +kernel
theorem dX7_line_130 : decode cX7_line 130 = .ok (.iload_n 2, 1) := by decide +kernel
theorem dX7_line_131 : decode cX7_line 131 = .ok (.iconst 1, 1) := by decide +kernel
theorem dX7_line_132 : decode cX7_line 132 = .ok (.iload 5, 2) := by decide +kernel
theorem dX7_line_134 : decode cX7_line 134 = .ok (.ishl, 1) := by decide +kernel
theorem dX7_line_135 : decode cX7_line 135 = .ok (.iconst (-1), 1) := by decide +kernel
theorem dX7_line_136 : decode cX7_line 136 = .ok (.ixor, 1) := by decide +kernel
theorem dX7_line_137 : decode cX7_line 137 = .ok (.iand, 1) := by decide +kernel
theorem dX7_line_138 : decode cX7_line 138 = .ok (.istore_n 2, 1) := by decide +kernel
theorem dX7_line_139 : decode cX7_line 139 = .ok (.iinc 3 1, 3) := by decide +kernel
theorem dX7_line_142 : decode cX7_line 142 = .ok (.goto (-90), 3) := by decide +kernel
theorem dX7_line_145 : decode cX7_line 145 = .ok (.bipush (-9), 2) := by decide +kernel
theorem dX7_line_147 : decode cX7_line 147 = .ok (.ireturn, 1) := by decide +kernel
theorem dX7_without_0 : decode cX7_without 0 = .ok (.bipush 15, 2) := by decide +kernel
theorem dX7_without_2 : decode cX7_without 2 = .ok (.istore_n 1, 1) := by decide +kernel
theorem dX7_without_3 : decode cX7_without 3 = .ok (.iconst 0, 1) := by decide +kernel
theorem dX7_without_4 : decode cX7_without 4 = .ok (.istore_n 2, 1) := by decide +kernel
theorem dX7_without_5 : decode cX7_without 5 = .ok (.iload_n 2, 1) := by decide +kernel
theorem dX7_without_6 : decode cX7_without 6 = .ok (.iconst 1, 1) := by decide +kernel
theorem dX7_without_7 : decode cX7_without 7 = .ok (.aload_n 0, 1) := by decide +kernel
theorem dX7_without_8 : decode cX7_without 8 = .ok (.getfield 120, 3) := by decide +kernel
theorem dX7_without_11 : decode cX7_without 11 = .ok (.ishl, 1) := by decide +kernel
theorem dX7_without_12 : decode cX7_without 12 = .ok (.if_icmp .ge 43, 3) := by decide +kernel
theorem dX7_without_15 : decode cX7_without 15 = .ok (.iload_n 2, 1) := by decide +kernel
theorem dX7_without_16 : decode cX7_without 16 = .ok (.invokestatic 189, 3) := by decide +kernel
theorem dX7_without_19 : decode cX7_without 19 = .ok (.iload_n 1, 1) := by decide +kernel
theorem dX7_without_20 : decode cX7_without 20 = .ok (.invokestatic 189, 3) := by decide +kernel
theorem dX7_without_23 : decode cX7_without 23 = .ok (.if_icmp .ge 26, 3) := by decide +kernel
theorem dX7_without_26 : decode cX7_without 26 = .ok (.aload_n 0, 1) := by decide +kernel
theorem dX7_without_27 : decode cX7_without 27 = .ok (.iload_n 2, 1) := by decide +kernel
theorem dX7_without_28 : decode cX7_without 28 = .ok (.putfield 132, 3) := by decide +kernel
theorem dX7_without_31 : decode cX7_without 31 = .ok (.aload_n 0, 1) := by decide +kernel
theorem dX7_without_32 : decode cX7_without 32 = .ok (.invokevirtual 182, 3) := by decide +kernel
theorem dX7_without_35 : decode cX7_without 35 = .ok (.ifCond .ne 7, 3) := by decide +kernel
theorem dX7_without_38 : decode cX7_without 38 = .ok (.iload_n 2, 1) := by decide +kernel
theorem dX7_without_39 : decode cX7_without 39 = .ok (.goto 4, 3) := by decide +kernel
theorem dX7_without_42 : decode cX7_without 42 = .ok (.iload_n 1, 1) := by decide +kernel
theorem dX7_without_43 : decode cX7_without 43 = .ok (.istore_n 1, 1) := by decide +kernel
theorem dX7_without_44 : decode cX7_without 44 = .ok (.aload_n 0, 1) := by decide +kernel
theorem dX7_without_45 : decode cX7_without 45 = .ok (.iconst 0, 1) := by decide +kernel
theorem dX7_without_46 : decode cX7_without 46 = .ok (.putfield 132, 3) := by decide +kernel
theorem dX7_without_49 : decode cX7_without 49 = .ok (.iinc 2 1, 3) := by decide +kernel
theorem dX7_without_52 : decode cX7_without 52 = .ok (.goto (-47), 3) := by decide +kernel
theorem dX7_without_55 : decode cX7_without 55 = .ok (.iload_n 1, 1) := by decide +kernel
theorem dX7_without_56 : decode cX7_without 56 = .ok (.ireturn, 1) := by decide +kernel
theorem dX7_entry_0 : decode cX7_entry 0 = .ok (.aload_n 0, 1) := by decide +kernel
theorem dX7_entry_1 : decode cX7_entry 1 = .ok (.iload_n 1, 1) := by decide +kernel
theorem dX7_entry_2 : decode cX7_entry 2 = .ok (.iload_n 2, 1) := by decide +kernel
theorem dX7_entry_3 : decode cX7_entry 3 = .ok (.invokevirtual 129, 3) := by decide +kernel
theorem dX7_entry_6 : decode cX7_entry 6 = .ok (.ifCond .eq 15, 3) := by decide +kernel
theorem dX7_entry_9 : decode cX7_entry 9 = .ok (.iload_n 3, 1) := by decide +kernel
theorem dX7_entry_10 : decode cX7_entry 10 = .ok (.i2l, 1) := by decide +kernel
theorem dX7_entry_11 : decode cX7_entry 11 = .ok (.lconst 0, 1) := by decide +kernel
theorem dX7_entry_12 : decode cX7_entry 12 = .ok (.ldc2_w 173, 3) := by decide +kernel
theorem dX7_entry_15 : decode cX7_entry 15 = .ok (.invokestatic 62, 3) := by decide +kernel
theorem dX7_entry_18 : decode cX7_entry 18 = .ok (.ifCond .ne 5, 3) := by decide +kernel
theorem dX7_entry_21 : decode cX7_entry 21 = .ok (.iconst (-1), 1) := by decide +kernel
theorem dX7_entry_22 : decode cX7_entry 22 = .ok (.ireturn, 1) := by decide +kernel
theorem dX7_entry_23 : decode cX7_entry 23 = .ok (.bipush 6, 2) := by decide +kernel
theorem dX7_entry_25 : decode cX7_entry 25 = .ok (.iload_n 1, 1) := by decide +kernel
theorem dX7_entry_26 : decode cX7_entry 26 = .ok (.imul, 1) := by decide +kernel
theorem dX7_entry_27 : decode cX7_entry 27 = .ok (.iload_n 2, 1) := by decide +kernel
theorem dX7_entry_28 : decode cX7_entry 28 = .ok (.iadd, 1) := by decide +kernel
theorem dX7_entry_29 : decode cX7_entry 29 = .ok (.istore 4, 2) := by decide +kernel
theorem dX7_entry_31 : decode cX7_entry 31 = .ok (.iload_n 3, 1) := by decide +kernel
theorem dX7_entry_32 : decode cX7_entry 32 = .ok (.ifCond .ne 13, 3) := by decide +kernel
theorem dX7_entry_35 : decode cX7_entry 35 = .ok (.aload_n 0, 1) := by decide +kernel
theorem dX7_entry_36 : decode cX7_entry 36 = .ok (.getfield 26, 3) := by decide +kernel
theorem dX7_entry_39 : decode cX7_entry 39 = .ok (.iload 4, 2) := by decide +kernel
theorem dX7_entry_41 : decode cX7_entry 41 = .ok (.iaload, 1) := by decide +kernel
theorem dX7_entry_42 : decode cX7_entry 42 = .ok (.goto 30, 3) := by decide +kernel
theorem dX7_entry_45 : decode cX7_entry 45 = .ok (.iload_n 3, 1) := by decide +kernel
theorem dX7_entry_46 : decode cX7_entry 46 = .ok (.iconst 1, 1) := by decide +kernel
theorem dX7_entry_47 : decode cX7_entry 47 = .ok (.if_icmp .ne 15, 3) := by decide +kernel
theorem dX7_entry_50 : decode cX7_entry 50 = .ok (.aload_n 0, 1) := by decide +kernel
theorem dX7_entry_51 : decode cX7_entry 51 = .ok (.getfield 7, 3) := by decide +kernel
theorem dX7_entry_54 : decode cX7_entry 54 = .ok (.iconst 1, 1) := by decide +kernel
theorem dX7_entry_55 : decode cX7_entry 55 = .ok (.iload 4, 2) := by decide +kernel
theorem dX7_entry_57 : decode cX7_entry 57 = .ok (.iadd, 1) := by decide +kernel
theorem dX7_entry_58 : decode cX7_entry 58 = .ok (.iaload, 1) := by decide +kernel
theorem dX7_entry_59 : decode cX7_entry 59 = .ok (.goto 13, 3) := by decide +kernel
theorem dX7_entry_62 : decode cX7_entry 62 = .ok (.aload_n 0, 1) := by decide +kernel
theorem dX7_entry_63 : decode cX7_entry 63 = .ok (.getfield 7, 3) := by decide +kernel
theorem dX7_entry_66 : decode cX7_entry 66 = .ok (.bipush 25, 2) := by decide +kernel
theorem dX7_entry_68 : decode cX7_entry 68 = .ok (.iload 4, 2) := by decide +kernel
theorem dX7_entry_70 : decode cX7_entry 70 = .ok (.iadd, 1) := by decide +kernel
theorem dX7_entry_71 : decode cX7_entry 71 = .ok (.iaload, 1) := by decide +kernel
theorem dX7_entry_72 : decode cX7_entry 72 = .ok (.ireturn, 1) := by decide +kernel
theorem dX7_strikes_0 : decode cX7_strikes 0 = .ok (.aload_n 0, 1) := by decide +kernel
theorem dX7_strikes_1 : decode cX7_strikes 1 = .ok (.iload_n 1, 1) := by decide +kernel
theorem dX7_strikes_2 : decode cX7_strikes 2 = .ok (.iload_n 2, 1) := by decide +kernel
theorem dX7_strikes_3 : decode cX7_strikes 3 = .ok (.invokevirtual 129, 3) := by decide +kernel
theorem dX7_strikes_6 : decode cX7_strikes 6 = .ok (.ifCond .ne 5, 3) := by decide +kernel
theorem dX7_strikes_9 : decode cX7_strikes 9 = .ok (.iconst (-1), 1) := by decide +kernel
theorem dX7_strikes_10 : decode cX7_strikes 10 = .ok (.ireturn, 1) := by decide +kernel
theorem dX7_strikes_11 : decode cX7_strikes 11 = .ok (.aload_n 0, 1) := by decide +kernel
theorem dX7_strikes_12 : decode cX7_strikes 12 = .ok (.invokevirtual 208, 3) := by decide +kernel
theorem dX7_strikes_15 : decode cX7_strikes 15 = .ok (.bipush 25, 2) := by decide +kernel
theorem dX7_strikes_17 : decode cX7_strikes 17 = .ok (.bipush 6, 2) := by decide +kernel
theorem dX7_strikes_19 : decode cX7_strikes 19 = .ok (.iload_n 1, 1) := by decide +kernel
theorem dX7_strikes_20 : decode cX7_strikes 20 = .ok (.imul, 1) := by decide +kernel
theorem dX7_strikes_21 : decode cX7_strikes 21 = .ok (.iadd, 1) := by decide +kernel
theorem dX7_strikes_22 : decode cX7_strikes 22 = .ok (.iload_n 2, 1) := by decide +kernel
theorem dX7_strikes_23 : decode cX7_strikes 23 = .ok (.iadd, 1) := by decide +kernel
theorem dX7_strikes_24 : decode cX7_strikes 24 = .ok (.istore_n 3, 1) := by decide +kernel
theorem dX7_strikes_25 : decode cX7_strikes 25 = .ok (.aload_n 0, 1) := by decide +kernel
theorem dX7_strikes_26 : decode cX7_strikes 26 = .ok (.getfield 7, 3) := by decide +kernel
theorem dX7_strikes_29 : decode cX7_strikes 29 = .ok (.iload_n 3, 1) := by decide +kernel
theorem dX7_strikes_30 : decode cX7_strikes 30 = .ok (.iconst 1, 1) := by decide +kernel
theorem dX7_strikes_31 : decode cX7_strikes 31 = .ok (.aload_n 0, 1) := by decide +kernel
theorem dX7_strikes_32 : decode cX7_strikes 32 = .ok (.getfield 7, 3) := by decide +kernel
theorem dX7_strikes_35 : decode cX7_strikes 35 = .ok (.iload_n 3, 1) := by decide +kernel
theorem dX7_strikes_36 : decode cX7_strikes 36 = .ok (.iaload, 1) := by decide +kernel
theorem dX7_strikes_37 : decode cX7_strikes 37 = .ok (.isub, 1) := by decide +kernel
theorem dX7_strikes_38 : decode cX7_strikes 38 = .ok (.iastore, 1) := by decide +kernel
theorem dX7_strikes_39 : decode cX7_strikes 39 = .ok (.aload_n 0, 1) := by decide +kernel
theorem dX7_strikes_40 : decode cX7_strikes 40 = .ok (.getfield 7, 3) := by decide +kernel
theorem dX7_strikes_43 : decode cX7_strikes 43 = .ok (.iload_n 3, 1) := by decide +kernel
theorem dX7_strikes_44 : decode cX7_strikes 44 = .ok (.iaload, 1) := by decide +kernel
theorem dX7_strikes_45 : decode cX7_strikes 45 = .ok (.ireturn, 1) := by decide +kernel
end
section
theorem dX7_tells_0 : decode cX7_tells 0 = .ok (.aload_n 0, 1) := by decide +kernel
theorem dX7_tells_1 : decode cX7_tells 1 = .ok (.iload_n 1, 1) := by decide +kernel
theorem dX7_tells_2 : decode cX7_tells 2 = .ok (.iload_n 2, 1) := by decide +kernel
theorem dX7_tells_3 : decode cX7_tells 3 = .ok (.invokevirtual 129, 3) := by decide +kernel
theorem dX7_tells_6 : decode cX7_tells 6 = .ok (.ifCond .eq 15, 3) := by decide +kernel
theorem dX7_tells_9 : decode cX7_tells 9 = .ok (.iload_n 3, 1) := by decide +kernel
theorem dX7_tells_10 : decode cX7_tells 10 = .ok (.i2l, 1) := by decide +kernel
theorem dX7_tells_11 : decode cX7_tells 11 = .ok (.lconst 0, 1) := by decide +kernel
theorem dX7_tells_12 : decode cX7_tells 12 = .ok (.ldc2_w 211, 3) := by decide +kernel
theorem dX7_tells_15 : decode cX7_tells 15 = .ok (.invokestatic 62, 3) := by decide +kernel
theorem dX7_tells_18 : decode cX7_tells 18 = .ok (.ifCond .ne 5, 3) := by decide +kernel
theorem dX7_tells_21 : decode cX7_tells 21 = .ok (.iconst (-1), 1) := by decide +kernel
theorem dX7_tells_22 : decode cX7_tells 22 = .ok (.ireturn, 1) := by decide +kernel
theorem dX7_tells_23 : decode cX7_tells 23 = .ok (.iconst 1, 1) := by decide +kernel
theorem dX7_tells_24 : decode cX7_tells 24 = .ok (.bipush 6, 2) := by decide +kernel
theorem dX7_tells_26 : decode cX7_tells 26 = .ok (.iload_n 1, 1) := by decide +kernel
theorem dX7_tells_27 : decode cX7_tells 27 = .ok (.imul, 1) := by decide +kernel
theorem dX7_tells_28 : decode cX7_tells 28 = .ok (.iadd, 1) := by decide +kernel
theorem dX7_tells_29 : decode cX7_tells 29 = .ok (.iload_n 2, 1) := by decide +kernel
theorem dX7_tells_30 : decode cX7_tells 30 = .ok (.iadd, 1) := by decide +kernel
theorem dX7_tells_31 : decode cX7_tells 31 = .ok (.istore 4, 2) := by decide +kernel
theorem dX7_tells_33 : decode cX7_tells 33 = .ok (.aload_n 0, 1) := by decide +kernel
theorem dX7_tells_34 : decode cX7_tells 34 = .ok (.getfield 7, 3) := by decide +kernel
theorem dX7_tells_37 : decode cX7_tells 37 = .ok (.iload 4, 2) := by decide +kernel
theorem dX7_tells_39 : decode cX7_tells 39 = .ok (.iaload, 1) := by decide +kernel
theorem dX7_tells_40 : decode cX7_tells 40 = .ok (.istore 5, 2) := by decide +kernel
theorem dX7_tells_42 : decode cX7_tells 42 = .ok (.iload_n 3, 1) := by decide +kernel
theorem dX7_tells_43 : decode cX7_tells 43 = .ok (.iload 5, 2) := by decide +kernel
theorem dX7_tells_45 : decode cX7_tells 45 = .ok (.if_icmp .eq 45, 3) := by decide +kernel
theorem dX7_tells_48 : decode cX7_tells 48 = .ok (.iload_n 2, 1) := by decide +kernel
theorem dX7_tells_49 : decode cX7_tells 49 = .ok (.ifCond .le 16, 3) := by decide +kernel
theorem dX7_tells_52 : decode cX7_tells 52 = .ok (.iload_n 3, 1) := by decide +kernel
theorem dX7_tells_53 : decode cX7_tells 53 = .ok (.aload_n 0, 1) := by decide +kernel
theorem dX7_tells_54 : decode cX7_tells 54 = .ok (.getfield 7, 3) := by decide +kernel
theorem dX7_tells_57 : decode cX7_tells 57 = .ok (.iload 4, 2) := by decide +kernel
theorem dX7_tells_59 : decode cX7_tells 59 = .ok (.iconst 1, 1) := by decide +kernel
theorem dX7_tells_60 : decode cX7_tells 60 = .ok (.isub, 1) := by decide +kernel
theorem dX7_tells_61 : decode cX7_tells 61 = .ok (.iaload, 1) := by decide +kernel
theorem dX7_tells_62 : decode cX7_tells 62 = .ok (.if_icmp .lt 28, 3) := by decide +kernel
theorem dX7_tells_65 : decode cX7_tells 65 = .ok (.iload_n 2, 1) := by decide +kernel
theorem dX7_tells_66 : decode cX7_tells 66 = .ok (.aload_n 0, 1) := by decide +kernel
theorem dX7_tells_67 : decode cX7_tells 67 = .ok (.getfield 23, 3) := by decide +kernel
theorem dX7_tells_70 : decode cX7_tells 70 = .ok (.iload_n 1, 1) := by decide +kernel
theorem dX7_tells_71 : decode cX7_tells 71 = .ok (.iaload, 1) := by decide +kernel
theorem dX7_tells_72 : decode cX7_tells 72 = .ok (.iconst 1, 1) := by decide +kernel
theorem dX7_tells_73 : decode cX7_tells 73 = .ok (.isub, 1) := by decide +kernel
theorem dX7_tells_74 : decode cX7_tells 74 = .ok (.if_icmp .ge 19, 3) := by decide +kernel
theorem dX7_tells_77 : decode cX7_tells 77 = .ok (.iload_n 3, 1) := by decide +kernel
theorem dX7_tells_78 : decode cX7_tells 78 = .ok (.aload_n 0, 1) := by decide +kernel
theorem dX7_tells_79 : decode cX7_tells 79 = .ok (.getfield 7, 3) := by decide +kernel
theorem dX7_tells_82 : decode cX7_tells 82 = .ok (.iload 4, 2) := by decide +kernel
theorem dX7_tells_84 : decode cX7_tells 84 = .ok (.iconst 1, 1) := by decide +kernel
theorem dX7_tells_85 : decode cX7_tells 85 = .ok (.iadd, 1) := by decide +kernel
theorem dX7_tells_86 : decode cX7_tells 86 = .ok (.iaload, 1) := by decide +kernel
theorem dX7_tells_87 : decode cX7_tells 87 = .ok (.if_icmp .le 6, 3) := by decide +kernel
theorem dX7_tells_90 : decode cX7_tells 90 = .ok (.bipush (-2), 2) := by decide +kernel
theorem dX7_tells_92 : decode cX7_tells 92 = .ok (.ireturn, 1) := by decide +kernel
theorem dX7_tells_93 : decode cX7_tells 93 = .ok (.aload_n 0, 1) := by decide +kernel
theorem dX7_tells_94 : decode cX7_tells 94 = .ok (.invokevirtual 208, 3) := by decide +kernel
theorem dX7_tells_97 : decode cX7_tells 97 = .ok (.aload_n 0, 1) := by decide +kernel
theorem dX7_tells_98 : decode cX7_tells 98 = .ok (.getfield 7, 3) := by decide +kernel
theorem dX7_tells_101 : decode cX7_tells 101 = .ok (.iload 4, 2) := by decide +kernel
theorem dX7_tells_103 : decode cX7_tells 103 = .ok (.iload_n 3, 1) := by decide +kernel
theorem dX7_tells_104 : decode cX7_tells 104 = .ok (.iastore, 1) := by decide +kernel
theorem dX7_tells_105 : decode cX7_tells 105 = .ok (.iload 5, 2) := by decide +kernel
theorem dX7_tells_107 : decode cX7_tells 107 = .ok (.ireturn, 1) := by decide +kernel
theorem dX7_slacks_0 : decode cX7_slacks 0 = .ok (.iload_n 1, 1) := by decide +kernel
theorem dX7_slacks_1 : decode cX7_slacks 1 = .ok (.i2l, 1) := by decide +kernel
theorem dX7_slacks_2 : decode cX7_slacks 2 = .ok (.lconst 0, 1) := by decide +kernel
theorem dX7_slacks_3 : decode cX7_slacks 3 = .ok (.ldc2_w 213, 3) := by decide +kernel
theorem dX7_slacks_6 : decode cX7_slacks 6 = .ok (.invokestatic 62, 3) := by decide +kernel
theorem dX7_slacks_9 : decode cX7_slacks 9 = .ok (.ifCond .ne 5, 3) := by decide +kernel
theorem dX7_slacks_12 : decode cX7_slacks 12 = .ok (.iconst (-1), 1) := by decide +kernel
theorem dX7_slacks_13 : decode cX7_slacks 13 = .ok (.ireturn, 1) := by decide +kernel
theorem dX7_slacks_14 : decode cX7_slacks 14 = .ok (.aload_n 0, 1) := by decide +kernel
theorem dX7_slacks_15 : decode cX7_slacks 15 = .ok (.getfield 7, 3) := by decide +kernel
theorem dX7_slacks_18 : decode cX7_slacks 18 = .ok (.iconst 0, 1) := by decide +kernel
theorem dX7_slacks_19 : decode cX7_slacks 19 = .ok (.iaload, 1) := by decide +kernel
theorem dX7_slacks_20 : decode cX7_slacks 20 = .ok (.istore_n 2, 1) := by decide +kernel
theorem dX7_slacks_21 : decode cX7_slacks 21 = .ok (.iload_n 2, 1) := by decide +kernel
theorem dX7_slacks_22 : decode cX7_slacks 22 = .ok (.iload_n 1, 1) := by decide +kernel
theorem dX7_slacks_23 : decode cX7_slacks 23 = .ok (.if_icmp .ne 6, 3) := by decide +kernel
theorem dX7_slacks_26 : decode cX7_slacks 26 = .ok (.bipush (-2), 2) := by decide +kernel
theorem dX7_slacks_28 : decode cX7_slacks 28 = .ok (.ireturn, 1) := by decide +kernel
theorem dX7_slacks_29 : decode cX7_slacks 29 = .ok (.aload_n 0, 1) := by decide +kernel
theorem dX7_slacks_30 : decode cX7_slacks 30 = .ok (.invokevirtual 208, 3) := by decide +kernel
theorem dX7_slacks_33 : decode cX7_slacks 33 = .ok (.aload_n 0, 1) := by decide +kernel
theorem dX7_slacks_34 : decode cX7_slacks 34 = .ok (.getfield 7, 3) := by decide +kernel
theorem dX7_slacks_37 : decode cX7_slacks 37 = .ok (.iconst 0, 1) := by decide +kernel
theorem dX7_slacks_38 : decode cX7_slacks 38 = .ok (.iload_n 1, 1) := by decide +kernel
theorem dX7_slacks_39 : decode cX7_slacks 39 = .ok (.iastore, 1) := by decide +kernel
theorem dX7_slacks_40 : decode cX7_slacks 40 = .ok (.iload_n 2, 1) := by decide +kernel
theorem dX7_slacks_41 : decode cX7_slacks 41 = .ok (.ireturn, 1) := by decide +kernel
theorem dX7_undo_0 : decode cX7_undo 0 = .ok (.aload_n 0, 1) := by decide +kernel
theorem dX7_undo_1 : decode cX7_undo 1 = .ok (.getfield 51, 3) := by decide +kernel
theorem dX7_undo_4 : decode cX7_undo 4 = .ok (.ifCond .ne 6, 3) := by decide +kernel
theorem dX7_undo_7 : decode cX7_undo 7 = .ok (.bipush (-2), 2) := by decide +kernel
theorem dX7_undo_9 : decode cX7_undo 9 = .ok (.ireturn, 1) := by decide +kernel
theorem dX7_undo_10 : decode cX7_undo 10 = .ok (.aload_n 0, 1) := by decide +kernel
theorem dX7_undo_11 : decode cX7_undo 11 = .ok (.dup, 1) := by decide +kernel
theorem dX7_undo_12 : decode cX7_undo 12 = .ok (.getfield 51, 3) := by decide +kernel
theorem dX7_undo_15 : decode cX7_undo 15 = .ok (.iconst 1, 1) := by decide +kernel
theorem dX7_undo_16 : decode cX7_undo 16 = .ok (.isub, 1) := by decide +kernel
theorem dX7_undo_17 : decode cX7_undo 17 = .ok (.putfield 51, 3) := by decide +kernel
theorem dX7_undo_20 : decode cX7_undo 20 = .ok (.aload_n 0, 1) := by decide +kernel
theorem dX7_undo_21 : decode cX7_undo 21 = .ok (.sipush 147, 3) := by decide +kernel
theorem dX7_undo_24 : decode cX7_undo 24 = .ok (.bipush 49, 2) := by decide +kernel
theorem dX7_undo_26 : decode cX7_undo 26 = .ok (.aload_n 0, 1) := by decide +kernel
theorem dX7_undo_27 : decode cX7_undo 27 = .ok (.getfield 51, 3) := by decide +kernel
theorem dX7_undo_30 : decode cX7_undo 30 = .ok (.imul, 1) := by decide +kernel
theorem dX7_undo_31 : decode cX7_undo 31 = .ok (.iadd, 1) := by decide +kernel
theorem dX7_undo_32 : decode cX7_undo 32 = .ok (.iconst 0, 1) := by decide +kernel
theorem dX7_undo_33 : decode cX7_undo 33 = .ok (.invokevirtual 54, 3) := by decide +kernel
theorem dX7_undo_36 : decode cX7_undo 36 = .ok (.aload_n 0, 1) := by decide +kernel
theorem dX7_undo_37 : decode cX7_undo 37 = .ok (.getfield 51, 3) := by decide +kernel
theorem dX7_undo_40 : decode cX7_undo 40 = .ok (.ireturn, 1) := by decide +kernel
theorem dX7_sees_0 : decode cX7_sees 0 = .ok (.iload_n 1, 1) := by decide +kernel
theorem dX7_sees_1 : decode cX7_sees 1 = .ok (.i2l, 1) := by decide +kernel
theorem dX7_sees_2 : decode cX7_sees 2 = .ok (.lconst 0, 1) := by decide +kernel
theorem dX7_sees_3 : decode cX7_sees 3 = .ok (.ldc2_w 215, 3) := by decide +kernel
theorem dX7_sees_6 : decode cX7_sees 6 = .ok (.invokestatic 62, 3) := by decide +kernel
theorem dX7_sees_9 : decode cX7_sees 9 = .ok (.ifCond .ne 5, 3) := by decide +kernel
theorem dX7_sees_12 : decode cX7_sees 12 = .ok (.iconst (-1), 1) := by decide +kernel
theorem dX7_sees_13 : decode cX7_sees 13 = .ok (.ireturn, 1) := by decide +kernel
theorem dX7_sees_14 : decode cX7_sees 14 = .ok (.aload_n 0, 1) := by decide +kernel
theorem dX7_sees_15 : decode cX7_sees 15 = .ok (.getfield 123, 3) := by decide +kernel
theorem dX7_sees_18 : decode cX7_sees 18 = .ok (.bipush 6, 2) := by decide +kernel
theorem dX7_sees_20 : decode cX7_sees 20 = .ok (.if_icmp .ne 6, 3) := by decide +kernel
theorem dX7_sees_23 : decode cX7_sees 23 = .ok (.bipush (-3), 2) := by decide +kernel
theorem dX7_sees_25 : decode cX7_sees 25 = .ok (.ireturn, 1) := by decide +kernel
theorem dX7_sees_26 : decode cX7_sees 26 = .ok (.aload_n 0, 1) := by decide +kernel
theorem dX7_sees_27 : decode cX7_sees 27 = .ok (.getfield 17, 3) := by decide +kernel
theorem dX7_sees_30 : decode cX7_sees 30 = .ok (.aload_n 0, 1) := by decide +kernel
theorem dX7_sees_31 : decode cX7_sees 31 = .ok (.getfield 123, 3) := by decide +kernel
theorem dX7_sees_34 : decode cX7_sees 34 = .ok (.iload_n 1, 1) := by decide +kernel
theorem dX7_sees_35 : decode cX7_sees 35 = .ok (.iastore, 1) := by decide +kernel
theorem dX7_sees_36 : decode cX7_sees 36 = .ok (.aload_n 0, 1) := by decide +kernel
theorem dX7_sees_37 : decode cX7_sees 37 = .ok (.dup, 1) := by decide +kernel
theorem dX7_sees_38 : decode cX7_sees 38 = .ok (.getfield 123, 3) := by decide +kernel
theorem dX7_sees_41 : decode cX7_sees 41 = .ok (.iconst 1, 1) := by decide +kernel
theorem dX7_sees_42 : decode cX7_sees 42 = .ok (.iadd, 1) := by decide +kernel
theorem dX7_sees_43 : decode cX7_sees 43 = .ok (.putfield 123, 3) := by decide +kernel
theorem dX7_sees_46 : decode cX7_sees 46 = .ok (.aload_n 0, 1) := by decide +kernel
theorem dX7_sees_47 : decode cX7_sees 47 = .ok (.getfield 123, 3) := by decide +kernel
theorem dX7_sees_50 : decode cX7_sees 50 = .ok (.ireturn, 1) := by decide +kernel
theorem dX7_forget_0 : decode cX7_forget 0 = .ok (.aload_n 0, 1) := by decide +kernel
theorem dX7_forget_1 : decode cX7_forget 1 = .ok (.getfield 123, 3) := by decide +kernel
theorem dX7_forget_4 : decode cX7_forget 4 = .ok (.istore_n 1, 1) := by decide +kernel
theorem dX7_forget_5 : decode cX7_forget 5 = .ok (.aload_n 0, 1) := by decide +kernel
theorem dX7_forget_6 : decode cX7_forget 6 = .ok (.iconst 0, 1) := by decide +kernel
theorem dX7_forget_7 : decode cX7_forget 7 = .ok (.putfield 123, 3) := by decide +kernel
theorem dX7_forget_10 : decode cX7_forget 10 = .ok (.iload_n 1, 1) := by decide +kernel
theorem dX7_forget_11 : decode cX7_forget 11 = .ok (.ireturn, 1) := by decide +kernel
theorem dX7_isUnseen_0 : decode cX7_isUnseen 0 = .ok (.aload_n 0, 1) := by decide +kernel
theorem dX7_isUnseen_1 : decode cX7_isUnseen 1 = .ok (.iload_n 1, 1) := by decide +kernel
theorem dX7_isUnseen_2 : decode cX7_isUnseen 2 = .ok (.iload_n 2, 1) := by decide +kernel
theorem dX7_isUnseen_3 : decode cX7_isUnseen 3 = .ok (.invokevirtual 138, 3) := by decide +kernel
theorem dX7_isUnseen_6 : decode cX7_isUnseen 6 = .ok (.istore_n 3, 1) := by decide +kernel
theorem dX7_isUnseen_7 : decode cX7_isUnseen 7 = .ok (.iload_n 3, 1) := by decide +kernel
theorem dX7_isUnseen_8 : decode cX7_isUnseen 8 = .ok (.ifCond .eq 68, 3) := by decide +kernel
theorem dX7_isUnseen_11 : decode cX7_isUnseen 11 = .ok (.aload_n 0, 1) := by decide +kernel
theorem dX7_isUnseen_12 : decode cX7_isUnseen 12 = .ok (.bipush 6, 2) := by decide +kernel
theorem dX7_isUnseen_14 : decode cX7_isUnseen 14 = .ok (.iload_n 1, 1) := by decide +kernel
theorem dX7_isUnseen_15 : decode cX7_isUnseen 15 = .ok (.imul, 1) := by decide +kernel
theorem dX7_isUnseen_16 : decode cX7_isUnseen 16 = .ok (.iload_n 2, 1) := by decide +kernel
theorem dX7_isUnseen_17 : decode cX7_isUnseen 17 = .ok (.iadd, 1) := by decide +kernel
theorem dX7_isUnseen_18 : decode cX7_isUnseen 18 = .ok (.putfield 38, 3) := by decide +kernel
theorem dX7_isUnseen_21 : decode cX7_isUnseen 21 = .ok (.aload_n 0, 1) := by decide +kernel
theorem dX7_isUnseen_22 : decode cX7_isUnseen 22 = .ok (.invokevirtual 182, 3) := by decide +kernel
theorem dX7_isUnseen_25 : decode cX7_isUnseen 25 = .ok (.invokestatic 189, 3) := by decide +kernel
theorem dX7_isUnseen_28 : decode cX7_isUnseen 28 = .ok (.istore 4, 2) := by decide +kernel
theorem dX7_isUnseen_30 : decode cX7_isUnseen 30 = .ok (.aload_n 0, 1) := by decide +kernel
theorem dX7_isUnseen_31 : decode cX7_isUnseen 31 = .ok (.bipush (-9), 2) := by decide +kernel
theorem dX7_isUnseen_33 : decode cX7_isUnseen 33 = .ok (.putfield 38, 3) := by decide +kernel
theorem dX7_isUnseen_36 : decode cX7_isUnseen 36 = .ok (.iconst 0, 1) := by decide +kernel
theorem dX7_isUnseen_37 : decode cX7_isUnseen 37 = .ok (.istore 5, 2) := by decide +kernel
theorem dX7_isUnseen_39 : decode cX7_isUnseen 39 = .ok (.iload 5, 2) := by decide +kernel
theorem dX7_isUnseen_41 : decode cX7_isUnseen 41 = .ok (.aload_n 0, 1) := by decide +kernel
theorem dX7_isUnseen_42 : decode cX7_isUnseen 42 = .ok (.getfield 123, 3) := by decide +kernel
theorem dX7_isUnseen_45 : decode cX7_isUnseen 45 = .ok (.if_icmp .ge 31, 3) := by decide +kernel
theorem dX7_isUnseen_48 : decode cX7_isUnseen 48 = .ok (.iload_n 3, 1) := by decide +kernel
theorem dX7_isUnseen_49 : decode cX7_isUnseen 49 = .ok (.ifCond .eq 19, 3) := by decide +kernel
theorem dX7_isUnseen_52 : decode cX7_isUnseen 52 = .ok (.aload_n 0, 1) := by decide +kernel
theorem dX7_isUnseen_53 : decode cX7_isUnseen 53 = .ok (.getfield 17, 3) := by decide +kernel
theorem dX7_isUnseen_56 : decode cX7_isUnseen 56 = .ok (.iload 5, 2) := by decide +kernel
theorem dX7_isUnseen_58 : decode cX7_isUnseen 58 = .ok (.iaload, 1) := by decide +kernel
theorem dX7_isUnseen_59 : decode cX7_isUnseen 59 = .ok (.iload 4, 2) := by decide +kernel
theorem dX7_isUnseen_61 : decode cX7_isUnseen 61 = .ok (.if_icmp .ne 7, 3) := by decide +kernel
theorem dX7_isUnseen_64 : decode cX7_isUnseen 64 = .ok (.iconst 1, 1) := by decide +kernel
theorem dX7_isUnseen_65 : decode cX7_isUnseen 65 = .ok (.goto 4, 3) := by decide +kernel
theorem dX7_isUnseen_68 : decode cX7_isUnseen 68 = .ok (.iconst 0, 1) := by decide +kernel
theorem dX7_isUnseen_69 : decode cX7_isUnseen 69 = .ok (.istore_n 3, 1) := by decide +kernel
theorem dX7_isUnseen_70 : decode cX7_isUnseen 70 = .ok (.iinc 5 1, 3) := by decide +kernel
theorem dX7_isUnseen_73 : decode cX7_isUnseen 73 = .ok (.goto (-34), 3) := by decide +kernel
theorem dX7_isUnseen_76 : decode cX7_isUnseen 76 = .ok (.iload_n 3, 1) := by decide +kernel
theorem dX7_isUnseen_77 : decode cX7_isUnseen 77 = .ok (.ireturn, 1) := by decide +kernel
theorem dX7_unseen_0 : decode cX7_unseen 0 = .ok (.iload_n 1, 1) := by decide +kernel
theorem dX7_unseen_1 : decode cX7_unseen 1 = .ok (.i2l, 1) := by decide +kernel
theorem dX7_unseen_2 : decode cX7_unseen 2 = .ok (.lconst 0, 1) := by decide +kernel
theorem dX7_unseen_3 : decode cX7_unseen 3 = .ok (.lconst 1, 1) := by decide +kernel
theorem dX7_unseen_4 : decode cX7_unseen 4 = .ok (.invokestatic 62, 3) := by decide +kernel
theorem dX7_unseen_7 : decode cX7_unseen 7 = .ok (.ifCond .ne 5, 3) := by decide +kernel
theorem dX7_unseen_10 : decode cX7_unseen 10 = .ok (.iconst (-1), 1) := by decide +kernel
theorem dX7_unseen_11 : decode cX7_unseen 11 = .ok (.ireturn, 1) := by decide +kernel
theorem dX7_unseen_12 : decode cX7_unseen 12 = .ok (.iconst 0, 1) := by decide +kernel
theorem dX7_unseen_13 : decode cX7_unseen 13 = .ok (.istore_n 2, 1) := by decide +kernel
theorem dX7_unseen_14 : decode cX7_unseen 14 = .ok (.bipush (-9), 2) := by decide +kernel
theorem dX7_unseen_16 : decode cX7_unseen 16 = .ok (.istore_n 3, 1) := by decide +kernel
theorem dX7_unseen_17 : decode cX7_unseen 17 = .ok (.bipush 23, 2) := by decide +kernel
theorem dX7_unseen_19 : decode cX7_unseen 19 = .ok (.istore 4, 2) := by decide +kernel
theorem dX7_unseen_21 : decode cX7_unseen 21 = .ok (.iload 4, 2) := by decide +kernel
theorem dX7_unseen_23 : decode cX7_unseen 23 = .ok (.ifCond .lt 44, 3) := by decide +kernel
theorem dX7_unseen_26 : decode cX7_unseen 26 = .ok (.aload_n 0, 1) := by decide +kernel
theorem dX7_unseen_27 : decode cX7_unseen 27 = .ok (.iload 4, 2) := by decide +kernel
theorem dX7_unseen_29 : decode cX7_unseen 29 = .ok (.bipush 6, 2) := by decide +kernel
theorem dX7_unseen_31 : decode cX7_unseen 31 = .ok (.idiv, 1) := by decide +kernel
theorem dX7_unseen_32 : decode cX7_unseen 32 = .ok (.iload 4, 2) := by decide +kernel
theorem dX7_unseen_34 : decode cX7_unseen 34 = .ok (.bipush 6, 2) := by decide +kernel
theorem dX7_unseen_36 : decode cX7_unseen 36 = .ok (.irem, 1) := by decide +kernel
theorem dX7_unseen_37 : decode cX7_unseen 37 = .ok (.invokevirtual 217, 3) := by decide +kernel
theorem dX7_unseen_40 : decode cX7_unseen 40 = .ok (.ifCond .eq 21, 3) := by decide +kernel
theorem dX7_unseen_43 : decode cX7_unseen 43 = .ok (.iinc 2 1, 3) := by decide +kernel
theorem dX7_unseen_46 : decode cX7_unseen 46 = .ok (.iload 4, 2) := by decide +kernel
theorem dX7_unseen_48 : decode cX7_unseen 48 = .ok (.bipush 6, 2) := by decide +kernel
theorem dX7_unseen_50 : decode cX7_unseen 50 = .ok (.idiv, 1) := by decide +kernel
theorem dX7_unseen_51 : decode cX7_unseen 51 = .ok (.bipush 10, 2) := by decide +kernel
theorem dX7_unseen_53 : decode cX7_unseen 53 = .ok (.imul, 1) := by decide +kernel
theorem dX7_unseen_54 : decode cX7_unseen 54 = .ok (.iload 4, 2) := by decide +kernel
theorem dX7_unseen_56 : decode cX7_unseen 56 = .ok (.bipush 6, 2) := by decide +kernel
theorem dX7_unseen_58 : decode cX7_unseen 58 = .ok (.irem, 1) := by decide +kernel
theorem dX7_unseen_59 : decode cX7_unseen 59 = .ok (.iadd, 1) := by decide +kernel
theorem dX7_unseen_60 : decode cX7_unseen 60 = .ok (.istore_n 3, 1) := by decide +kernel
theorem dX7_unseen_61 : decode cX7_unseen 61 = .ok (.iinc 4 (-1), 3) := by decide +kernel
theorem dX7_unseen_64 : decode cX7_unseen 64 = .ok (.goto (-43), 3) := by decide +kernel
theorem dX7_unseen_67 : decode cX7_unseen 67 = .ok (.iload_n 1, 1) := by decide +kernel
theorem dX7_unseen_68 : decode cX7_unseen 68 = .ok (.ifCond .ne 7, 3) := by decide +kernel
theorem dX7_unseen_71 : decode cX7_unseen 71 = .ok (.iload_n 2, 1) := by decide +kernel
theorem dX7_unseen_72 : decode cX7_unseen 72 = .ok (.goto 4, 3) := by decide +kernel
theorem dX7_unseen_75 : decode cX7_unseen 75 = .ok (.iload_n 3, 1) := by decide +kernel
theorem dX7_unseen_76 : decode cX7_unseen 76 = .ok (.ireturn, 1) := by decide +kernel
theorem dX7_keep_0 : decode cX7_keep 0 = .ok (.iload_n 1, 1) := by decide +kernel
theorem dX7_keep_1 : decode cX7_keep 1 = .ok (.i2l, 1) := by decide +kernel
theorem dX7_keep_2 : decode cX7_keep 2 = .ok (.lconst 0, 1) := by decide +kernel
theorem dX7_keep_3 : decode cX7_keep 3 = .ok (.lconst 1, 1) := by decide +kernel
theorem dX7_keep_4 : decode cX7_keep 4 = .ok (.invokestatic 62, 3) := by decide +kernel
theorem dX7_keep_7 : decode cX7_keep 7 = .ok (.ifCond .ne 5, 3) := by decide +kernel
theorem dX7_keep_10 : decode cX7_keep 10 = .ok (.iconst (-1), 1) := by decide +kernel
theorem dX7_keep_11 : decode cX7_keep 11 = .ok (.ireturn, 1) := by decide +kernel
theorem dX7_keep_12 : decode cX7_keep 12 = .ok (.aload_n 0, 1) := by decide +kernel
theorem dX7_keep_13 : decode cX7_keep 13 = .ok (.iconst 0, 1) := by decide +kernel
theorem dX7_keep_14 : decode cX7_keep 14 = .ok (.bipush 49, 2) := by decide +kernel
theorem dX7_keep_16 : decode cX7_keep 16 = .ok (.bipush 49, 2) := by decide +kernel
theorem dX7_keep_18 : decode cX7_keep 18 = .ok (.iload_n 1, 1) := by decide +kernel
theorem dX7_keep_19 : decode cX7_keep 19 = .ok (.imul, 1) := by decide +kernel
theorem dX7_keep_20 : decode cX7_keep 20 = .ok (.iadd, 1) := by decide +kernel
theorem dX7_keep_21 : decode cX7_keep 21 = .ok (.invokevirtual 54, 3) := by decide +kernel
theorem dX7_keep_24 : decode cX7_keep 24 = .ok (.aload_n 0, 1) := by decide +kernel
theorem dX7_keep_25 : decode cX7_keep 25 = .ok (.getfield 13, 3) := by decide +kernel
theorem dX7_keep_28 : decode cX7_keep 28 = .ok (.iload_n 1, 1) := by decide +kernel
theorem dX7_keep_29 : decode cX7_keep 29 = .ok (.iconst 1, 1) := by decide +kernel
theorem dX7_keep_30 : decode cX7_keep 30 = .ok (.bastore, 1) := by decide +kernel
theorem dX7_keep_31 : decode cX7_keep 31 = .ok (.aload_n 0, 1) := by decide +kernel
theorem dX7_keep_32 : decode cX7_keep 32 = .ok (.getfield 120, 3) := by decide +kernel
theorem dX7_keep_35 : decode cX7_keep 35 = .ok (.ireturn, 1) := by decide +kernel
theorem dX7_back_0 : decode cX7_back 0 = .ok (.iload_n 1, 1) := by decide +kernel
theorem dX7_back_1 : decode cX7_back 1 = .ok (.i2l, 1) := by decide +kernel
theorem dX7_back_2 : decode cX7_back 2 = .ok (.lconst 0, 1) := by decide +kernel
theorem dX7_back_3 : decode cX7_back 3 = .ok (.lconst 1, 1) := by decide +kernel
theorem dX7_back_4 : decode cX7_back 4 = .ok (.invokestatic 62, 3) := by decide +kernel
theorem dX7_back_7 : decode cX7_back 7 = .ok (.ifCond .ne 5, 3) := by decide +kernel
theorem dX7_back_10 : decode cX7_back 10 = .ok (.iconst (-1), 1) := by decide +kernel
theorem dX7_back_11 : decode cX7_back 11 = .ok (.ireturn, 1) := by decide +kernel
theorem dX7_back_12 : decode cX7_back 12 = .ok (.aload_n 0, 1) := by decide +kernel
theorem dX7_back_13 : decode cX7_back 13 = .ok (.getfield 13, 3) := by decide +kernel
theorem dX7_back_16 : decode cX7_back 16 = .ok (.iload_n 1, 1) := by decide +kernel
theorem dX7_back_17 : decode cX7_back 17 = .ok (.baload, 1) := by decide +kernel
theorem dX7_back_18 : decode cX7_back 18 = .ok (.ifCond .ne 6, 3) := by decide +kernel
theorem dX7_back_21 : decode cX7_back 21 = .ok (.bipush (-2), 2) := by decide +kernel
theorem dX7_back_23 : decode cX7_back 23 = .ok (.ireturn, 1) := by decide +kernel
theorem dX7_back_24 : decode cX7_back 24 = .ok (.aload_n 0, 1) := by decide +kernel
theorem dX7_back_25 : decode cX7_back 25 = .ok (.bipush 49, 2) := by decide +kernel
theorem dX7_back_27 : decode cX7_back 27 = .ok (.bipush 49, 2) := by decide +kernel
theorem dX7_back_29 : decode cX7_back 29 = .ok (.iload_n 1, 1) := by decide +kernel
theorem dX7_back_30 : decode cX7_back 30 = .ok (.imul, 1) := by decide +kernel
theorem dX7_back_31 : decode cX7_back 31 = .ok (.iadd, 1) := by decide +kernel
theorem dX7_back_32 : decode cX7_back 32 = .ok (.iconst 0, 1) := by decide +kernel
theorem dX7_back_33 : decode cX7_back 33 = .ok (.invokevirtual 54, 3) := by decide +kernel
theorem dX7_back_36 : decode cX7_back 36 = .ok (.aload_n 0, 1) := by decide +kernel
theorem dX7_back_37 : decode cX7_back 37 = .ok (.iconst 0, 1) := by decide +kernel
theorem dX7_back_38 : decode cX7_back 38 = .ok (.putfield 51, 3) := by decide +kernel
theorem dX7_back_41 : decode cX7_back 41 = .ok (.aload_n 0, 1) := by decide +kernel
theorem dX7_back_42 : decode cX7_back 42 = .ok (.getfield 120, 3) := by decide +kernel
theorem dX7_back_45 : decode cX7_back 45 = .ok (.ireturn, 1) := by decide +kernel
theorem dX7_entries_0 : decode cX7_entries 0 = .ok (.iconst 0, 1) := by decide +kernel
theorem dX7_entries_1 : decode cX7_entries 1 = .ok (.istore_n 1, 1) := by decide +kernel
theorem dX7_entries_2 : decode cX7_entries 2 = .ok (.iconst 0, 1) := by decide +kernel
theorem dX7_entries_3 : decode cX7_entries 3 = .ok (.istore_n 2, 1) := by decide +kernel
theorem dX7_entries_4 : decode cX7_entries 4 = .ok (.iload_n 2, 1) := by decide +kernel
theorem dX7_entries_5 : decode cX7_entries 5 = .ok (.aload_n 0, 1) := by decide +kernel
theorem dX7_entries_6 : decode cX7_entries 6 = .ok (.getfield 120, 3) := by decide +kernel
theorem dX7_entries_9 : decode cX7_entries 9 = .ok (.if_icmp .ge 17, 3) := by decide +kernel
theorem dX7_entries_12 : decode cX7_entries 12 = .ok (.iload_n 1, 1) := by decide +kernel
theorem dX7_entries_13 : decode cX7_entries 13 = .ok (.aload_n 0, 1) := by decide +kernel
theorem dX7_entries_14 : decode cX7_entries 14 = .ok (.iload_n 2, 1) := by decide +kernel
theorem dX7_entries_15 : decode cX7_entries 15 = .ok (.invokevirtual 186, 3) := by decide +kernel
theorem dX7_entries_18 : decode cX7_entries 18 = .ok (.iadd, 1) := by decide +kernel
theorem dX7_entries_19 : decode cX7_entries 19 = .ok (.istore_n 1, 1) := by decide +kernel
theorem dX7_entries_20 : decode cX7_entries 20 = .ok (.iinc 2 1, 3) := by decide +kernel
theorem dX7_entries_23 : decode cX7_entries 23 = .ok (.goto (-19), 3) := by decide +kernel
theorem dX7_entries_26 : decode cX7_entries 26 = .ok (.iload_n 1, 1) := by decide +kernel
theorem dX7_entries_27 : decode cX7_entries 27 = .ok (.ireturn, 1) := by decide +kernel
theorem dX7_events_0 : decode cX7_events 0 = .ok (.iconst 0, 1) := by decide +kernel
theorem dX7_events_1 : decode cX7_events 1 = .ok (.istore_n 1, 1) := by decide +kernel
theorem dX7_events_2 : decode cX7_events 2 = .ok (.iconst 0, 1) := by decide +kernel
theorem dX7_events_3 : decode cX7_events 3 = .ok (.istore_n 2, 1) := by decide +kernel
theorem dX7_events_4 : decode cX7_events 4 = .ok (.iload_n 2, 1) := by decide +kernel
theorem dX7_events_5 : decode cX7_events 5 = .ok (.bipush 8, 2) := by decide +kernel
theorem dX7_events_7 : decode cX7_events 7 = .ok (.if_icmp .ge 25, 3) := by decide +kernel
theorem dX7_events_10 : decode cX7_events 10 = .ok (.iload_n 1, 1) := by decide +kernel
theorem dX7_events_11 : decode cX7_events 11 = .ok (.aload_n 0, 1) := by decide +kernel
theorem dX7_events_12 : decode cX7_events 12 = .ok (.iload_n 2, 1) := by decide +kernel
theorem dX7_events_13 : decode cX7_events 13 = .ok (.invokevirtual 179, 3) := by decide +kernel
theorem dX7_events_16 : decode cX7_events 16 = .ok (.ifCond .eq 7, 3) := by decide +kernel
theorem dX7_events_19 : decode cX7_events 19 = .ok (.iconst 1, 1) := by decide +kernel
theorem dX7_events_20 : decode cX7_events 20 = .ok (.goto 4, 3) := by decide +kernel
theorem dX7_events_23 : decode cX7_events 23 = .ok (.iconst 0, 1) := by decide +kernel
theorem dX7_events_24 : decode cX7_events 24 = .ok (.iadd, 1) := by decide +kernel
theorem dX7_events_25 : decode cX7_events 25 = .ok (.istore_n 1, 1) := by decide +kernel
theorem dX7_events_26 : decode cX7_events 26 = .ok (.iinc 2 1, 3) := by decide +kernel
theorem dX7_events_29 : decode cX7_events 29 = .ok (.goto (-25), 3) := by decide +kernel
theorem dX7_events_32 : decode cX7_events 32 = .ok (.iload_n 1, 1) := by decide +kernel
theorem dX7_events_33 : decode cX7_events 33 = .ok (.ireturn, 1) := by decide +kernel
theorem dX7_count_0 : decode cX7_count 0 = .ok (.iload_n 1, 1) := by decide +kernel
theorem dX7_count_1 : decode cX7_count 1 = .ok (.tableswitch 92 0 7 #[47, 52, 57, 62, 70, 77, 82, 87], 47) := by decide +kernel
theorem dX7_count_48 : decode cX7_count 48 = .ok (.aload_n 0, 1) := by decide +kernel
theorem dX7_count_49 : decode cX7_count 49 = .ok (.getfield 120, 3) := by decide +kernel
theorem dX7_count_52 : decode cX7_count 52 = .ok (.ireturn, 1) := by decide +kernel
theorem dX7_count_53 : decode cX7_count 53 = .ok (.aload_n 0, 1) := by decide +kernel
theorem dX7_count_54 : decode cX7_count 54 = .ok (.invokevirtual 220, 3) := by decide +kernel
theorem dX7_count_57 : decode cX7_count 57 = .ok (.ireturn, 1) := by decide +kernel
theorem dX7_count_58 : decode cX7_count 58 = .ok (.aload_n 0, 1) := by decide +kernel
theorem dX7_count_59 : decode cX7_count 59 = .ok (.invokevirtual 223, 3) := by decide +kernel
theorem dX7_count_62 : decode cX7_count 62 = .ok (.ireturn, 1) := by decide +kernel
theorem dX7_count_63 : decode cX7_count 63 = .ok (.aload_n 0, 1) := by decide +kernel
theorem dX7_count_64 : decode cX7_count 64 = .ok (.invokevirtual 182, 3) := by decide +kernel
theorem dX7_count_67 : decode cX7_count 67 = .ok (.invokestatic 189, 3) := by decide +kernel
theorem dX7_count_70 : decode cX7_count 70 = .ok (.ireturn, 1) := by decide +kernel
theorem dX7_count_71 : decode cX7_count 71 = .ok (.aload_n 0, 1) := by decide +kernel
theorem dX7_count_72 : decode cX7_count 72 = .ok (.getfield 7, 3) := by decide +kernel
theorem dX7_count_75 : decode cX7_count 75 = .ok (.iconst 0, 1) := by decide +kernel
theorem dX7_count_76 : decode cX7_count 76 = .ok (.iaload, 1) := by decide +kernel
theorem dX7_count_77 : decode cX7_count 77 = .ok (.ireturn, 1) := by decide +kernel
theorem dX7_count_78 : decode cX7_count 78 = .ok (.aload_n 0, 1) := by decide +kernel
theorem dX7_count_79 : decode cX7_count 79 = .ok (.getfield 123, 3) := by decide +kernel
theorem dX7_count_82 : decode cX7_count 82 = .ok (.ireturn, 1) := by decide +kernel
theorem dX7_count_83 : decode cX7_count 83 = .ok (.aload_n 0, 1) := by decide +kernel
theorem dX7_count_84 : decode cX7_count 84 = .ok (.getfield 69, 3) := by decide +kernel
theorem dX7_count_87 : decode cX7_count 87 = .ok (.ireturn, 1) := by decide +kernel
theorem dX7_count_88 : decode cX7_count 88 = .ok (.aload_n 0, 1) := by decide +kernel
theorem dX7_count_89 : decode cX7_count 89 = .ok (.getfield 51, 3) := by decide +kernel
theorem dX7_count_92 : decode cX7_count 92 = .ok (.ireturn, 1) := by decide +kernel
theorem dX7_count_93 : decode cX7_count 93 = .ok (.iconst (-1), 1) := by decide +kernel
theorem dX7_count_94 : decode cX7_count 94 = .ok (.ireturn, 1) := by decide +kernel
theorem dJ6_bitCount_0f7a4_0 : decode cJ6_bitCount_0f7a4 0 = .ok (.iload_n 0, 1) := by decide +kernel
theorem dJ6_bitCount_0f7a4_1 : decode cJ6_bitCount_0f7a4 1 = .ok (.iload_n 0, 1) := by decide +kernel
theorem dJ6_bitCount_0f7a4_2 : decode cJ6_bitCount_0f7a4 2 = .ok (.iconst 1, 1) := by decide +kernel
theorem dJ6_bitCount_0f7a4_3 : decode cJ6_bitCount_0f7a4 3 = .ok (.iushr, 1) := by decide +kernel
theorem dJ6_bitCount_0f7a4_4 : decode cJ6_bitCount_0f7a4 4 = .ok (.ldc_w 265, 3) := by decide +kernel
theorem dJ6_bitCount_0f7a4_7 : decode cJ6_bitCount_0f7a4 7 = .ok (.iand, 1) := by decide +kernel
theorem dJ6_bitCount_0f7a4_8 : decode cJ6_bitCount_0f7a4 8 = .ok (.isub, 1) := by decide +kernel
theorem dJ6_bitCount_0f7a4_9 : decode cJ6_bitCount_0f7a4 9 = .ok (.istore_n 0, 1) := by decide +kernel
theorem dJ6_bitCount_0f7a4_10 : decode cJ6_bitCount_0f7a4 10 = .ok (.iload_n 0, 1) := by decide +kernel
theorem dJ6_bitCount_0f7a4_11 : decode cJ6_bitCount_0f7a4 11 = .ok (.ldc_w 266, 3) := by decide +kernel
theorem dJ6_bitCount_0f7a4_14 : decode cJ6_bitCount_0f7a4 14 = .ok (.iand, 1) := by decide +kernel
theorem dJ6_bitCount_0f7a4_15 : decode cJ6_bitCount_0f7a4 15 = .ok (.iload_n 0, 1) := by decide +kernel
theorem dJ6_bitCount_0f7a4_16 : decode cJ6_bitCount_0f7a4 16 = .ok (.iconst 2, 1) := by decide +kernel
theorem dJ6_bitCount_0f7a4_17 : decode cJ6_bitCount_0f7a4 17 = .ok (.iushr, 1) := by decide +kernel
theorem dJ6_bitCount_0f7a4_18 : decode cJ6_bitCount_0f7a4 18 = .ok (.ldc_w 266, 3) := by decide +kernel
theorem dJ6_bitCount_0f7a4_21 : decode cJ6_bitCount_0f7a4 21 = .ok (.iand, 1) := by decide +kernel
theorem dJ6_bitCount_0f7a4_22 : decode cJ6_bitCount_0f7a4 22 = .ok (.iadd, 1) := by decide +kernel
theorem dJ6_bitCount_0f7a4_23 : decode cJ6_bitCount_0f7a4 23 = .ok (.istore_n 0, 1) := by decide +kernel
theorem dJ6_bitCount_0f7a4_24 : decode cJ6_bitCount_0f7a4 24 = .ok (.iload_n 0, 1) := by decide +kernel
theorem dJ6_bitCount_0f7a4_25 : decode cJ6_bitCount_0f7a4 25 = .ok (.iload_n 0, 1) := by decide +kernel
theorem dJ6_bitCount_0f7a4_26 : decode cJ6_bitCount_0f7a4 26 = .ok (.iconst 4, 1) := by decide +kernel
theorem dJ6_bitCount_0f7a4_27 : decode cJ6_bitCount_0f7a4 27 = .ok (.iushr, 1) := by decide +kernel
theorem dJ6_bitCount_0f7a4_28 : decode cJ6_bitCount_0f7a4 28 = .ok (.iadd, 1) := by decide +kernel
theorem dJ6_bitCount_0f7a4_29 : decode cJ6_bitCount_0f7a4 29 = .ok (.ldc_w 267, 3) := by decide +kernel
theorem dJ6_bitCount_0f7a4_32 : decode cJ6_bitCount_0f7a4 32 = .ok (.iand, 1) := by decide +kernel
theorem dJ6_bitCount_0f7a4_33 : decode cJ6_bitCount_0f7a4 33 = .ok (.istore_n 0, 1) := by decide +kernel
theorem dJ6_bitCount_0f7a4_34 : decode cJ6_bitCount_0f7a4 34 = .ok (.iload_n 0, 1) := by decide +kernel
theorem dJ6_bitCount_0f7a4_35 : decode cJ6_bitCount_0f7a4 35 = .ok (.iload_n 0, 1) := by decide +kernel
theorem dJ6_bitCount_0f7a4_36 : decode cJ6_bitCount_0f7a4 36 = .ok (.bipush 8, 2) := by decide +kernel
theorem dJ6_bitCount_0f7a4_38 : decode cJ6_bitCount_0f7a4 38 = .ok (.iushr, 1) := by decide +kernel
theorem dJ6_bitCount_0f7a4_39 : decode cJ6_bitCount_0f7a4 39 = .ok (.iadd, 1) := by decide +kernel
theorem dJ6_bitCount_0f7a4_40 : decode cJ6_bitCount_0f7a4 40 = .ok (.istore_n 0, 1) := by decide +kernel
theorem dJ6_bitCount_0f7a4_41 : decode cJ6_bitCount_0f7a4 41 = .ok (.iload_n 0, 1) := by decide +kernel
theorem dJ6_bitCount_0f7a4_42 : decode cJ6_bitCount_0f7a4 42 = .ok (.iload_n 0, 1) := by decide +kernel
theorem dJ6_bitCount_0f7a4_43 : decode cJ6_bitCount_0f7a4 43 = .ok (.bipush 16, 2) := by decide +kernel
theorem dJ6_bitCount_0f7a4_45 : decode cJ6_bitCount_0f7a4 45 = .ok (.iushr, 1) := by decide +kernel
theorem dJ6_bitCount_0f7a4_46 : decode cJ6_bitCount_0f7a4 46 = .ok (.iadd, 1) := by decide +kernel
theorem dJ6_bitCount_0f7a4_47 : decode cJ6_bitCount_0f7a4 47 = .ok (.istore_n 0, 1) := by decide +kernel
theorem dJ6_bitCount_0f7a4_48 : decode cJ6_bitCount_0f7a4 48 = .ok (.iload_n 0, 1) := by decide +kernel
theorem dJ6_bitCount_0f7a4_49 : decode cJ6_bitCount_0f7a4 49 = .ok (.bipush 63, 2) := by decide +kernel
theorem dJ6_bitCount_0f7a4_51 : decode cJ6_bitCount_0f7a4 51 = .ok (.iand, 1) := by decide +kernel
theorem dJ6_bitCount_0f7a4_52 : decode cJ6_bitCount_0f7a4 52 = .ok (.ireturn, 1) := by decide +kernel
theorem dJ9_abs_0f7a4_0 : decode cJ9_abs_0f7a4 0 = .ok (.iload_n 0, 1) := by decide +kernel
theorem dJ9_abs_0f7a4_1 : decode cJ9_abs_0f7a4 1 = .ok (.ifCond .ge 8, 3) := by decide +kernel
theorem dJ9_abs_0f7a4_4 : decode cJ9_abs_0f7a4 4 = .ok (.iload_n 0, 1) := by decide +kernel
theorem dJ9_abs_0f7a4_5 : decode cJ9_abs_0f7a4 5 = .ok (.ineg, 1) := by decide +kernel
theorem dJ9_abs_0f7a4_6 : decode cJ9_abs_0f7a4 6 = .ok (.goto 4, 3) := by decide +kernel
theorem dJ9_abs_0f7a4_9 : decode cJ9_abs_0f7a4 9 = .ok (.iload_n 0, 1) := by decide +kernel
theorem dJ9_abs_0f7a4_10 : decode cJ9_abs_0f7a4 10 = .ok (.ireturn, 1) := by decide +kernel
theorem dJ9_max_7cf53_0 : decode cJ9_max_7cf53 0 = .ok (.iload_n 0, 1) := by decide +kernel
theorem dJ9_max_7cf53_1 : decode cJ9_max_7cf53 1 = .ok (.iload_n 1, 1) := by decide +kernel
theorem dJ9_max_7cf53_2 : decode cJ9_max_7cf53 2 = .ok (.if_icmp .lt 7, 3) := by decide +kernel
theorem dJ9_max_7cf53_5 : decode cJ9_max_7cf53 5 = .ok (.iload_n 0, 1) := by decide +kernel
theorem dJ9_max_7cf53_6 : decode cJ9_max_7cf53 6 = .ok (.goto 4, 3) := by decide +kernel
theorem dJ9_max_7cf53_9 : decode cJ9_max_7cf53 9 = .ok (.iload_n 1, 1) := by decide +kernel
theorem dJ9_max_7cf53_10 : decode cJ9_max_7cf53 10 = .ok (.ireturn, 1) := by decide +kernel
theorem dJ9_min_7cf53_0 : decode cJ9_min_7cf53 0 = .ok (.iload_n 0, 1) := by decide +kernel
theorem dJ9_min_7cf53_1 : decode cJ9_min_7cf53 1 = .ok (.iload_n 1, 1) := by decide +kernel
theorem dJ9_min_7cf53_2 : decode cJ9_min_7cf53 2 = .ok (.if_icmp .gt 7, 3) := by decide +kernel
theorem dJ9_min_7cf53_5 : decode cJ9_min_7cf53 5 = .ok (.iload_n 0, 1) := by decide +kernel
theorem dJ9_min_7cf53_6 : decode cJ9_min_7cf53 6 = .ok (.goto 4, 3) := by decide +kernel
theorem dJ9_min_7cf53_9 : decode cJ9_min_7cf53 9 = .ok (.iload_n 1, 1) := by decide +kernel
theorem dJ9_min_7cf53_10 : decode cJ9_min_7cf53 10 = .ok (.ireturn, 1) := by decide +kernel
end
section
theorem dL_law_0 : decode cL_law 0 = .ok (.new 7, 3) := by decide +kernel
theorem dL_law_3 : decode cL_law 3 = .ok (.dup, 1) := by decide +kernel
theorem dL_law_4 : decode cL_law 4 = .ok (.invokespecial 9, 3) := by decide +kernel
theorem dL_law_7 : decode cL_law 7 = .ok (.astore_n 1, 1) := by decide +kernel
theorem dL_law_8 : decode cL_law 8 = .ok (.new 10, 3) := by decide +kernel
theorem dL_law_11 : decode cL_law 11 = .ok (.dup, 1) := by decide +kernel
theorem dL_law_12 : decode cL_law 12 = .ok (.invokespecial 12, 3) := by decide +kernel
theorem dL_law_15 : decode cL_law 15 = .ok (.astore_n 2, 1) := by decide +kernel
theorem dL_law_16 : decode cL_law 16 = .ok (.iconst 0, 1) := by decide +kernel
theorem dL_law_17 : decode cL_law 17 = .ok (.istore_n 3, 1) := by decide +kernel
theorem dL_law_18 : decode cL_law 18 = .ok (.iload_n 3, 1) := by decide +kernel
theorem dL_law_19 : decode cL_law 19 = .ok (.aload_n 0, 1) := by decide +kernel
theorem dL_law_20 : decode cL_law 20 = .ok (.arraylength, 1) := by decide +kernel
theorem dL_law_21 : decode cL_law 21 = .ok (.iconst 5, 1) := by decide +kernel
theorem dL_law_22 : decode cL_law 22 = .ok (.isub, 1) := by decide +kernel
theorem dL_law_23 : decode cL_law 23 = .ok (.if_icmp .gt 732, 3) := by decide +kernel
theorem dL_law_26 : decode cL_law 26 = .ok (.aload_n 0, 1) := by decide +kernel
theorem dL_law_27 : decode cL_law 27 = .ok (.iload_n 3, 1) := by decide +kernel
theorem dL_law_28 : decode cL_law 28 = .ok (.iaload, 1) := by decide +kernel
theorem dL_law_29 : decode cL_law 29 = .ok (.bipush 31, 2) := by decide +kernel
theorem dL_law_31 : decode cL_law 31 = .ok (.iand, 1) := by decide +kernel
theorem dL_law_32 : decode cL_law 32 = .ok (.tableswitch 717 0 22 #[108, 131, 144, 157, 200, 233, 276, 299, 312, 365, 398, 431, 464, 497, 520, 553, 576, 589, 612, 625, 648, 671, 694], 108) := by decide +kernel
theorem dL_law_140 : decode cL_law 140 = .ok (.aload_n 1, 1) := by decide +kernel
theorem dL_law_141 : decode cL_law 141 = .ok (.aload_n 0, 1) := by decide +kernel
theorem dL_law_142 : decode cL_law 142 = .ok (.iload_n 3, 1) := by decide +kernel
theorem dL_law_143 : decode cL_law 143 = .ok (.iconst 1, 1) := by decide +kernel
theorem dL_law_144 : decode cL_law 144 = .ok (.iadd, 1) := by decide +kernel
theorem dL_law_145 : decode cL_law 145 = .ok (.iaload, 1) := by decide +kernel
theorem dL_law_146 : decode cL_law 146 = .ok (.invokevirtual 13, 3) := by decide +kernel
theorem dL_law_149 : decode cL_law 149 = .ok (.aload_n 2, 1) := by decide +kernel
theorem dL_law_150 : decode cL_law 150 = .ok (.aload_n 0, 1) := by decide +kernel
theorem dL_law_151 : decode cL_law 151 = .ok (.iload_n 3, 1) := by decide +kernel
theorem dL_law_152 : decode cL_law 152 = .ok (.iconst 1, 1) := by decide +kernel
theorem dL_law_153 : decode cL_law 153 = .ok (.iadd, 1) := by decide +kernel
theorem dL_law_154 : decode cL_law 154 = .ok (.iaload, 1) := by decide +kernel
theorem dL_law_155 : decode cL_law 155 = .ok (.invokevirtual 17, 3) := by decide +kernel
theorem dL_law_158 : decode cL_law 158 = .ok (.if_icmp .eq 591, 3) := by decide +kernel
theorem dL_law_161 : decode cL_law 161 = .ok (.iconst 0, 1) := by decide +kernel
theorem dL_law_162 : decode cL_law 162 = .ok (.ireturn, 1) := by decide +kernel
theorem dL_law_163 : decode cL_law 163 = .ok (.aload_n 1, 1) := by decide +kernel
theorem dL_law_164 : decode cL_law 164 = .ok (.invokevirtual 18, 3) := by decide +kernel
theorem dL_law_167 : decode cL_law 167 = .ok (.aload_n 2, 1) := by decide +kernel
theorem dL_law_168 : decode cL_law 168 = .ok (.invokevirtual 22, 3) := by decide +kernel
theorem dL_law_171 : decode cL_law 171 = .ok (.if_icmp .eq 578, 3) := by decide +kernel
theorem dL_law_174 : decode cL_law 174 = .ok (.iconst 0, 1) := by decide +kernel
theorem dL_law_175 : decode cL_law 175 = .ok (.ireturn, 1) := by decide +kernel
theorem dL_law_176 : decode cL_law 176 = .ok (.aload_n 1, 1) := by decide +kernel
theorem dL_law_177 : decode cL_law 177 = .ok (.invokevirtual 23, 3) := by decide +kernel
theorem dL_law_180 : decode cL_law 180 = .ok (.aload_n 2, 1) := by decide +kernel
theorem dL_law_181 : decode cL_law 181 = .ok (.invokevirtual 26, 3) := by decide +kernel
theorem dL_law_184 : decode cL_law 184 = .ok (.if_icmp .eq 565, 3) := by decide +kernel
theorem dL_law_187 : decode cL_law 187 = .ok (.iconst 0, 1) := by decide +kernel
theorem dL_law_188 : decode cL_law 188 = .ok (.ireturn, 1) := by decide +kernel
theorem dL_law_189 : decode cL_law 189 = .ok (.aload_n 1, 1) := by decide +kernel
theorem dL_law_190 : decode cL_law 190 = .ok (.aload_n 0, 1) := by decide +kernel
theorem dL_law_191 : decode cL_law 191 = .ok (.iload_n 3, 1) := by decide +kernel
theorem dL_law_192 : decode cL_law 192 = .ok (.iconst 1, 1) := by decide +kernel
theorem dL_law_193 : decode cL_law 193 = .ok (.iadd, 1) := by decide +kernel
theorem dL_law_194 : decode cL_law 194 = .ok (.iaload, 1) := by decide +kernel
theorem dL_law_195 : decode cL_law 195 = .ok (.aload_n 0, 1) := by decide +kernel
theorem dL_law_196 : decode cL_law 196 = .ok (.iload_n 3, 1) := by decide +kernel
theorem dL_law_197 : decode cL_law 197 = .ok (.iconst 2, 1) := by decide +kernel
theorem dL_law_198 : decode cL_law 198 = .ok (.iadd, 1) := by decide +kernel
theorem dL_law_199 : decode cL_law 199 = .ok (.iaload, 1) := by decide +kernel
theorem dL_law_200 : decode cL_law 200 = .ok (.aload_n 0, 1) := by decide +kernel
theorem dL_law_201 : decode cL_law 201 = .ok (.iload_n 3, 1) := by decide +kernel
theorem dL_law_202 : decode cL_law 202 = .ok (.iconst 3, 1) := by decide +kernel
theorem dL_law_203 : decode cL_law 203 = .ok (.iadd, 1) := by decide +kernel
theorem dL_law_204 : decode cL_law 204 = .ok (.iaload, 1) := by decide +kernel
theorem dL_law_205 : decode cL_law 205 = .ok (.invokevirtual 27, 3) := by decide +kernel
theorem dL_law_208 : decode cL_law 208 = .ok (.aload_n 2, 1) := by decide +kernel
theorem dL_law_209 : decode cL_law 209 = .ok (.aload_n 0, 1) := by decide +kernel
theorem dL_law_210 : decode cL_law 210 = .ok (.iload_n 3, 1) := by decide +kernel
theorem dL_law_211 : decode cL_law 211 = .ok (.iconst 1, 1) := by decide +kernel
theorem dL_law_212 : decode cL_law 212 = .ok (.iadd, 1) := by decide +kernel
theorem dL_law_213 : decode cL_law 213 = .ok (.iaload, 1) := by decide +kernel
theorem dL_law_214 : decode cL_law 214 = .ok (.aload_n 0, 1) := by decide +kernel
theorem dL_law_215 : decode cL_law 215 = .ok (.iload_n 3, 1) := by decide +kernel
theorem dL_law_216 : decode cL_law 216 = .ok (.iconst 2, 1) := by decide +kernel
theorem dL_law_217 : decode cL_law 217 = .ok (.iadd, 1) := by decide +kernel
theorem dL_law_218 : decode cL_law 218 = .ok (.iaload, 1) := by decide +kernel
theorem dL_law_219 : decode cL_law 219 = .ok (.aload_n 0, 1) := by decide +kernel
theorem dL_law_220 : decode cL_law 220 = .ok (.iload_n 3, 1) := by decide +kernel
theorem dL_law_221 : decode cL_law 221 = .ok (.iconst 3, 1) := by decide +kernel
theorem dL_law_222 : decode cL_law 222 = .ok (.iadd, 1) := by decide +kernel
theorem dL_law_223 : decode cL_law 223 = .ok (.iaload, 1) := by decide +kernel
theorem dL_law_224 : decode cL_law 224 = .ok (.invokevirtual 31, 3) := by decide +kernel
theorem dL_law_227 : decode cL_law 227 = .ok (.if_icmp .eq 522, 3) := by decide +kernel
theorem dL_law_230 : decode cL_law 230 = .ok (.iconst 0, 1) := by decide +kernel
theorem dL_law_231 : decode cL_law 231 = .ok (.ireturn, 1) := by decide +kernel
theorem dL_law_232 : decode cL_law 232 = .ok (.aload_n 1, 1) := by decide +kernel
theorem dL_law_233 : decode cL_law 233 = .ok (.aload_n 0, 1) := by decide +kernel
theorem dL_law_234 : decode cL_law 234 = .ok (.iload_n 3, 1) := by decide +kernel
theorem dL_law_235 : decode cL_law 235 = .ok (.iconst 1, 1) := by decide +kernel
theorem dL_law_236 : decode cL_law 236 = .ok (.iadd, 1) := by decide +kernel
theorem dL_law_237 : decode cL_law 237 = .ok (.iaload, 1) := by decide +kernel
theorem dL_law_238 : decode cL_law 238 = .ok (.aload_n 0, 1) := by decide +kernel
theorem dL_law_239 : decode cL_law 239 = .ok (.iload_n 3, 1) := by decide +kernel
theorem dL_law_240 : decode cL_law 240 = .ok (.iconst 2, 1) := by decide +kernel
theorem dL_law_241 : decode cL_law 241 = .ok (.iadd, 1) := by decide +kernel
theorem dL_law_242 : decode cL_law 242 = .ok (.iaload, 1) := by decide +kernel
theorem dL_law_243 : decode cL_law 243 = .ok (.invokevirtual 32, 3) := by decide +kernel
theorem dL_law_246 : decode cL_law 246 = .ok (.aload_n 2, 1) := by decide +kernel
theorem dL_law_247 : decode cL_law 247 = .ok (.aload_n 0, 1) := by decide +kernel
theorem dL_law_248 : decode cL_law 248 = .ok (.iload_n 3, 1) := by decide +kernel
theorem dL_law_249 : decode cL_law 249 = .ok (.iconst 1, 1) := by decide +kernel
theorem dL_law_250 : decode cL_law 250 = .ok (.iadd, 1) := by decide +kernel
theorem dL_law_251 : decode cL_law 251 = .ok (.iaload, 1) := by decide +kernel
theorem dL_law_252 : decode cL_law 252 = .ok (.aload_n 0, 1) := by decide +kernel
theorem dL_law_253 : decode cL_law 253 = .ok (.iload_n 3, 1) := by decide +kernel
theorem dL_law_254 : decode cL_law 254 = .ok (.iconst 2, 1) := by decide +kernel
theorem dL_law_255 : decode cL_law 255 = .ok (.iadd, 1) := by decide +kernel
theorem dL_law_256 : decode cL_law 256 = .ok (.iaload, 1) := by decide +kernel
theorem dL_law_257 : decode cL_law 257 = .ok (.invokevirtual 36, 3) := by decide +kernel
theorem dL_law_260 : decode cL_law 260 = .ok (.if_icmp .eq 489, 3) := by decide +kernel
theorem dL_law_263 : decode cL_law 263 = .ok (.iconst 0, 1) := by decide +kernel
theorem dL_law_264 : decode cL_law 264 = .ok (.ireturn, 1) := by decide +kernel
theorem dL_law_265 : decode cL_law 265 = .ok (.aload_n 1, 1) := by decide +kernel
theorem dL_law_266 : decode cL_law 266 = .ok (.aload_n 0, 1) := by decide +kernel
theorem dL_law_267 : decode cL_law 267 = .ok (.iload_n 3, 1) := by decide +kernel
theorem dL_law_268 : decode cL_law 268 = .ok (.iconst 1, 1) := by decide +kernel
theorem dL_law_269 : decode cL_law 269 = .ok (.iadd, 1) := by decide +kernel
theorem dL_law_270 : decode cL_law 270 = .ok (.iaload, 1) := by decide +kernel
theorem dL_law_271 : decode cL_law 271 = .ok (.aload_n 0, 1) := by decide +kernel
theorem dL_law_272 : decode cL_law 272 = .ok (.iload_n 3, 1) := by decide +kernel
theorem dL_law_273 : decode cL_law 273 = .ok (.iconst 2, 1) := by decide +kernel
theorem dL_law_274 : decode cL_law 274 = .ok (.iadd, 1) := by decide +kernel
theorem dL_law_275 : decode cL_law 275 = .ok (.iaload, 1) := by decide +kernel
theorem dL_law_276 : decode cL_law 276 = .ok (.aload_n 0, 1) := by decide +kernel
theorem dL_law_277 : decode cL_law 277 = .ok (.iload_n 3, 1) := by decide +kernel
theorem dL_law_278 : decode cL_law 278 = .ok (.iconst 3, 1) := by decide +kernel
theorem dL_law_279 : decode cL_law 279 = .ok (.iadd, 1) := by decide +kernel
theorem dL_law_280 : decode cL_law 280 = .ok (.iaload, 1) := by decide +kernel
theorem dL_law_281 : decode cL_law 281 = .ok (.invokevirtual 37, 3) := by decide +kernel
theorem dL_law_284 : decode cL_law 284 = .ok (.aload_n 2, 1) := by decide +kernel
theorem dL_law_285 : decode cL_law 285 = .ok (.aload_n 0, 1) := by decide +kernel
theorem dL_law_286 : decode cL_law 286 = .ok (.iload_n 3, 1) := by decide +kernel
theorem dL_law_287 : decode cL_law 287 = .ok (.iconst 1, 1) := by decide +kernel
theorem dL_law_288 : decode cL_law 288 = .ok (.iadd, 1) := by decide +kernel
theorem dL_law_289 : decode cL_law 289 = .ok (.iaload, 1) := by decide +kernel
theorem dL_law_290 : decode cL_law 290 = .ok (.aload_n 0, 1) := by decide +kernel
theorem dL_law_291 : decode cL_law 291 = .ok (.iload_n 3, 1) := by decide +kernel
theorem dL_law_292 : decode cL_law 292 = .ok (.iconst 2, 1) := by decide +kernel
theorem dL_law_293 : decode cL_law 293 = .ok (.iadd, 1) := by decide +kernel
theorem dL_law_294 : decode cL_law 294 = .ok (.iaload, 1) := by decide +kernel
theorem dL_law_295 : decode cL_law 295 = .ok (.aload_n 0, 1) := by decide +kernel
theorem dL_law_296 : decode cL_law 296 = .ok (.iload_n 3, 1) := by decide +kernel
theorem dL_law_297 : decode cL_law 297 = .ok (.iconst 3, 1) := by decide +kernel
theorem dL_law_298 : decode cL_law 298 = .ok (.iadd, 1) := by decide +kernel
theorem dL_law_299 : decode cL_law 299 = .ok (.iaload, 1) := by decide +kernel
theorem dL_law_300 : decode cL_law 300 = .ok (.invokevirtual 40, 3) := by decide +kernel
theorem dL_law_303 : decode cL_law 303 = .ok (.if_icmp .eq 446, 3) := by decide +kernel
theorem dL_law_306 : decode cL_law 306 = .ok (.iconst 0, 1) := by decide +kernel
theorem dL_law_307 : decode cL_law 307 = .ok (.ireturn, 1) := by decide +kernel
theorem dL_law_308 : decode cL_law 308 = .ok (.aload_n 1, 1) := by decide +kernel
theorem dL_law_309 : decode cL_law 309 = .ok (.aload_n 0, 1) := by decide +kernel
theorem dL_law_310 : decode cL_law 310 = .ok (.iload_n 3, 1) := by decide +kernel
theorem dL_law_311 : decode cL_law 311 = .ok (.iconst 1, 1) := by decide +kernel
theorem dL_law_312 : decode cL_law 312 = .ok (.iadd, 1) := by decide +kernel
theorem dL_law_313 : decode cL_law 313 = .ok (.iaload, 1) := by decide +kernel
theorem dL_law_314 : decode cL_law 314 = .ok (.invokevirtual 41, 3) := by decide +kernel
theorem dL_law_317 : decode cL_law 317 = .ok (.aload_n 2, 1) := by decide +kernel
theorem dL_law_318 : decode cL_law 318 = .ok (.aload_n 0, 1) := by decide +kernel
theorem dL_law_319 : decode cL_law 319 = .ok (.iload_n 3, 1) := by decide +kernel
theorem dL_law_320 : decode cL_law 320 = .ok (.iconst 1, 1) := by decide +kernel
theorem dL_law_321 : decode cL_law 321 = .ok (.iadd, 1) := by decide +kernel
theorem dL_law_322 : decode cL_law 322 = .ok (.iaload, 1) := by decide +kernel
theorem dL_law_323 : decode cL_law 323 = .ok (.invokevirtual 44, 3) := by decide +kernel
theorem dL_law_326 : decode cL_law 326 = .ok (.if_icmp .eq 423, 3) := by decide +kernel
theorem dL_law_329 : decode cL_law 329 = .ok (.iconst 0, 1) := by decide +kernel
theorem dL_law_330 : decode cL_law 330 = .ok (.ireturn, 1) := by decide +kernel
theorem dL_law_331 : decode cL_law 331 = .ok (.aload_n 1, 1) := by decide +kernel
theorem dL_law_332 : decode cL_law 332 = .ok (.invokevirtual 45, 3) := by decide +kernel
theorem dL_law_335 : decode cL_law 335 = .ok (.aload_n 2, 1) := by decide +kernel
theorem dL_law_336 : decode cL_law 336 = .ok (.invokevirtual 48, 3) := by decide +kernel
theorem dL_law_339 : decode cL_law 339 = .ok (.if_icmp .eq 410, 3) := by decide +kernel
theorem dL_law_342 : decode cL_law 342 = .ok (.iconst 0, 1) := by decide +kernel
theorem dL_law_343 : decode cL_law 343 = .ok (.ireturn, 1) := by decide +kernel
theorem dL_law_344 : decode cL_law 344 = .ok (.aload_n 1, 1) := by decide +kernel
theorem dL_law_345 : decode cL_law 345 = .ok (.aload_n 0, 1) := by decide +kernel
theorem dL_law_346 : decode cL_law 346 = .ok (.iload_n 3, 1) := by decide +kernel
theorem dL_law_347 : decode cL_law 347 = .ok (.iconst 1, 1) := by decide +kernel
theorem dL_law_348 : decode cL_law 348 = .ok (.iadd, 1) := by decide +kernel
theorem dL_law_349 : decode cL_law 349 = .ok (.iaload, 1) := by decide +kernel
theorem dL_law_350 : decode cL_law 350 = .ok (.aload_n 0, 1) := by decide +kernel
theorem dL_law_351 : decode cL_law 351 = .ok (.iload_n 3, 1) := by decide +kernel
theorem dL_law_352 : decode cL_law 352 = .ok (.iconst 2, 1) := by decide +kernel
theorem dL_law_353 : decode cL_law 353 = .ok (.iadd, 1) := by decide +kernel
theorem dL_law_354 : decode cL_law 354 = .ok (.iaload, 1) := by decide +kernel
theorem dL_law_355 : decode cL_law 355 = .ok (.aload_n 0, 1) := by decide +kernel
theorem dL_law_356 : decode cL_law 356 = .ok (.iload_n 3, 1) := by decide +kernel
theorem dL_law_357 : decode cL_law 357 = .ok (.iconst 3, 1) := by decide +kernel
theorem dL_law_358 : decode cL_law 358 = .ok (.iadd, 1) := by decide +kernel
theorem dL_law_359 : decode cL_law 359 = .ok (.iaload, 1) := by decide +kernel
theorem dL_law_360 : decode cL_law 360 = .ok (.aload_n 0, 1) := by decide +kernel
theorem dL_law_361 : decode cL_law 361 = .ok (.iload_n 3, 1) := by decide +kernel
theorem dL_law_362 : decode cL_law 362 = .ok (.iconst 4, 1) := by decide +kernel
theorem dL_law_363 : decode cL_law 363 = .ok (.iadd, 1) := by decide +kernel
theorem dL_law_364 : decode cL_law 364 = .ok (.iaload, 1) := by decide +kernel
theorem dL_law_365 : decode cL_law 365 = .ok (.invokevirtual 49, 3) := by decide +kernel
theorem dL_law_368 : decode cL_law 368 = .ok (.aload_n 2, 1) := by decide +kernel
theorem dL_law_369 : decode cL_law 369 = .ok (.aload_n 0, 1) := by decide +kernel
theorem dL_law_370 : decode cL_law 370 = .ok (.iload_n 3, 1) := by decide +kernel
theorem dL_law_371 : decode cL_law 371 = .ok (.iconst 1, 1) := by decide +kernel
theorem dL_law_372 : decode cL_law 372 = .ok (.iadd, 1) := by decide +kernel
theorem dL_law_373 : decode cL_law 373 = .ok (.iaload, 1) := by decide +kernel
theorem dL_law_374 : decode cL_law 374 = .ok (.aload_n 0, 1) := by decide +kernel
theorem dL_law_375 : decode cL_law 375 = .ok (.iload_n 3, 1) := by decide +kernel
theorem dL_law_376 : decode cL_law 376 = .ok (.iconst 2, 1) := by decide +kernel
theorem dL_law_377 : decode cL_law 377 = .ok (.iadd, 1) := by decide +kernel
theorem dL_law_378 : decode cL_law 378 = .ok (.iaload, 1) := by decide +kernel
theorem dL_law_379 : decode cL_law 379 = .ok (.aload_n 0, 1) := by decide +kernel
theorem dL_law_380 : decode cL_law 380 = .ok (.iload_n 3, 1) := by decide +kernel
theorem dL_law_381 : decode cL_law 381 = .ok (.iconst 3, 1) := by decide +kernel
theorem dL_law_382 : decode cL_law 382 = .ok (.iadd, 1) := by decide +kernel
theorem dL_law_383 : decode cL_law 383 = .ok (.iaload, 1) := by decide +kernel
theorem dL_law_384 : decode cL_law 384 = .ok (.aload_n 0, 1) := by decide +kernel
theorem dL_law_385 : decode cL_law 385 = .ok (.iload_n 3, 1) := by decide +kernel
theorem dL_law_386 : decode cL_law 386 = .ok (.iconst 4, 1) := by decide +kernel
theorem dL_law_387 : decode cL_law 387 = .ok (.iadd, 1) := by decide +kernel
theorem dL_law_388 : decode cL_law 388 = .ok (.iaload, 1) := by decide +kernel
theorem dL_law_389 : decode cL_law 389 = .ok (.invokevirtual 53, 3) := by decide +kernel
theorem dL_law_392 : decode cL_law 392 = .ok (.if_icmp .eq 357, 3) := by decide +kernel
theorem dL_law_395 : decode cL_law 395 = .ok (.iconst 0, 1) := by decide +kernel
theorem dL_law_396 : decode cL_law 396 = .ok (.ireturn, 1) := by decide +kernel
theorem dL_law_397 : decode cL_law 397 = .ok (.aload_n 1, 1) := by decide +kernel
theorem dL_law_398 : decode cL_law 398 = .ok (.aload_n 0, 1) := by decide +kernel
theorem dL_law_399 : decode cL_law 399 = .ok (.iload_n 3, 1) := by decide +kernel
theorem dL_law_400 : decode cL_law 400 = .ok (.iconst 1, 1) := by decide +kernel
theorem dL_law_401 : decode cL_law 401 = .ok (.iadd, 1) := by decide +kernel
theorem dL_law_402 : decode cL_law 402 = .ok (.iaload, 1) := by decide +kernel
theorem dL_law_403 : decode cL_law 403 = .ok (.aload_n 0, 1) := by decide +kernel
theorem dL_law_404 : decode cL_law 404 = .ok (.iload_n 3, 1) := by decide +kernel
theorem dL_law_405 : decode cL_law 405 = .ok (.iconst 2, 1) := by decide +kernel
theorem dL_law_406 : decode cL_law 406 = .ok (.iadd, 1) := by decide +kernel
theorem dL_law_407 : decode cL_law 407 = .ok (.iaload, 1) := by decide +kernel
theorem dL_law_408 : decode cL_law 408 = .ok (.invokevirtual 54, 3) := by decide +kernel
theorem dL_law_411 : decode cL_law 411 = .ok (.aload_n 2, 1) := by decide +kernel
theorem dL_law_412 : decode cL_law 412 = .ok (.aload_n 0, 1) := by decide +kernel
theorem dL_law_413 : decode cL_law 413 = .ok (.iload_n 3, 1) := by decide +kernel
theorem dL_law_414 : decode cL_law 414 = .ok (.iconst 1, 1) := by decide +kernel
theorem dL_law_415 : decode cL_law 415 = .ok (.iadd, 1) := by decide +kernel
theorem dL_law_416 : decode cL_law 416 = .ok (.iaload, 1) := by decide +kernel
theorem dL_law_417 : decode cL_law 417 = .ok (.aload_n 0, 1) := by decide +kernel
theorem dL_law_418 : decode cL_law 418 = .ok (.iload_n 3, 1) := by decide +kernel
theorem dL_law_419 : decode cL_law 419 = .ok (.iconst 2, 1) := by decide +kernel
theorem dL_law_420 : decode cL_law 420 = .ok (.iadd, 1) := by decide +kernel
theorem dL_law_421 : decode cL_law 421 = .ok (.iaload, 1) := by decide +kernel
theorem dL_law_422 : decode cL_law 422 = .ok (.invokevirtual 57, 3) := by decide +kernel
theorem dL_law_425 : decode cL_law 425 = .ok (.if_icmp .eq 324, 3) := by decide +kernel
end
section
theorem dL_law_428 : decode cL_law 428 = .ok (.iconst 0, 1) := by decide +kernel
theorem dL_law_429 : decode cL_law 429 = .ok (.ireturn, 1) := by decide +kernel
theorem dL_law_430 : decode cL_law 430 = .ok (.aload_n 1, 1) := by decide +kernel
theorem dL_law_431 : decode cL_law 431 = .ok (.aload_n 0, 1) := by decide +kernel
theorem dL_law_432 : decode cL_law 432 = .ok (.iload_n 3, 1) := by decide +kernel
theorem dL_law_433 : decode cL_law 433 = .ok (.iconst 1, 1) := by decide +kernel
theorem dL_law_434 : decode cL_law 434 = .ok (.iadd, 1) := by decide +kernel
theorem dL_law_435 : decode cL_law 435 = .ok (.iaload, 1) := by decide +kernel
theorem dL_law_436 : decode cL_law 436 = .ok (.aload_n 0, 1) := by decide +kernel
theorem dL_law_437 : decode cL_law 437 = .ok (.iload_n 3, 1) := by decide +kernel
theorem dL_law_438 : decode cL_law 438 = .ok (.iconst 2, 1) := by decide +kernel
theorem dL_law_439 : decode cL_law 439 = .ok (.iadd, 1) := by decide +kernel
theorem dL_law_440 : decode cL_law 440 = .ok (.iaload, 1) := by decide +kernel
theorem dL_law_441 : decode cL_law 441 = .ok (.invokevirtual 58, 3) := by decide +kernel
theorem dL_law_444 : decode cL_law 444 = .ok (.aload_n 2, 1) := by decide +kernel
theorem dL_law_445 : decode cL_law 445 = .ok (.aload_n 0, 1) := by decide +kernel
theorem dL_law_446 : decode cL_law 446 = .ok (.iload_n 3, 1) := by decide +kernel
theorem dL_law_447 : decode cL_law 447 = .ok (.iconst 1, 1) := by decide +kernel
theorem dL_law_448 : decode cL_law 448 = .ok (.iadd, 1) := by decide +kernel
theorem dL_law_449 : decode cL_law 449 = .ok (.iaload, 1) := by decide +kernel
theorem dL_law_450 : decode cL_law 450 = .ok (.aload_n 0, 1) := by decide +kernel
theorem dL_law_451 : decode cL_law 451 = .ok (.iload_n 3, 1) := by decide +kernel
theorem dL_law_452 : decode cL_law 452 = .ok (.iconst 2, 1) := by decide +kernel
theorem dL_law_453 : decode cL_law 453 = .ok (.iadd, 1) := by decide +kernel
theorem dL_law_454 : decode cL_law 454 = .ok (.iaload, 1) := by decide +kernel
theorem dL_law_455 : decode cL_law 455 = .ok (.invokevirtual 61, 3) := by decide +kernel
theorem dL_law_458 : decode cL_law 458 = .ok (.if_icmp .eq 291, 3) := by decide +kernel
theorem dL_law_461 : decode cL_law 461 = .ok (.iconst 0, 1) := by decide +kernel
theorem dL_law_462 : decode cL_law 462 = .ok (.ireturn, 1) := by decide +kernel
theorem dL_law_463 : decode cL_law 463 = .ok (.aload_n 1, 1) := by decide +kernel
theorem dL_law_464 : decode cL_law 464 = .ok (.aload_n 0, 1) := by decide +kernel
theorem dL_law_465 : decode cL_law 465 = .ok (.iload_n 3, 1) := by decide +kernel
theorem dL_law_466 : decode cL_law 466 = .ok (.iconst 1, 1) := by decide +kernel
theorem dL_law_467 : decode cL_law 467 = .ok (.iadd, 1) := by decide +kernel
theorem dL_law_468 : decode cL_law 468 = .ok (.iaload, 1) := by decide +kernel
theorem dL_law_469 : decode cL_law 469 = .ok (.aload_n 0, 1) := by decide +kernel
theorem dL_law_470 : decode cL_law 470 = .ok (.iload_n 3, 1) := by decide +kernel
theorem dL_law_471 : decode cL_law 471 = .ok (.iconst 2, 1) := by decide +kernel
theorem dL_law_472 : decode cL_law 472 = .ok (.iadd, 1) := by decide +kernel
theorem dL_law_473 : decode cL_law 473 = .ok (.iaload, 1) := by decide +kernel
theorem dL_law_474 : decode cL_law 474 = .ok (.invokevirtual 62, 3) := by decide +kernel
theorem dL_law_477 : decode cL_law 477 = .ok (.aload_n 2, 1) := by decide +kernel
theorem dL_law_478 : decode cL_law 478 = .ok (.aload_n 0, 1) := by decide +kernel
theorem dL_law_479 : decode cL_law 479 = .ok (.iload_n 3, 1) := by decide +kernel
theorem dL_law_480 : decode cL_law 480 = .ok (.iconst 1, 1) := by decide +kernel
theorem dL_law_481 : decode cL_law 481 = .ok (.iadd, 1) := by decide +kernel
theorem dL_law_482 : decode cL_law 482 = .ok (.iaload, 1) := by decide +kernel
theorem dL_law_483 : decode cL_law 483 = .ok (.aload_n 0, 1) := by decide +kernel
theorem dL_law_484 : decode cL_law 484 = .ok (.iload_n 3, 1) := by decide +kernel
theorem dL_law_485 : decode cL_law 485 = .ok (.iconst 2, 1) := by decide +kernel
theorem dL_law_486 : decode cL_law 486 = .ok (.iadd, 1) := by decide +kernel
theorem dL_law_487 : decode cL_law 487 = .ok (.iaload, 1) := by decide +kernel
theorem dL_law_488 : decode cL_law 488 = .ok (.invokevirtual 65, 3) := by decide +kernel
theorem dL_law_491 : decode cL_law 491 = .ok (.if_icmp .eq 258, 3) := by decide +kernel
theorem dL_law_494 : decode cL_law 494 = .ok (.iconst 0, 1) := by decide +kernel
theorem dL_law_495 : decode cL_law 495 = .ok (.ireturn, 1) := by decide +kernel
theorem dL_law_496 : decode cL_law 496 = .ok (.aload_n 1, 1) := by decide +kernel
theorem dL_law_497 : decode cL_law 497 = .ok (.aload_n 0, 1) := by decide +kernel
theorem dL_law_498 : decode cL_law 498 = .ok (.iload_n 3, 1) := by decide +kernel
theorem dL_law_499 : decode cL_law 499 = .ok (.iconst 1, 1) := by decide +kernel
theorem dL_law_500 : decode cL_law 500 = .ok (.iadd, 1) := by decide +kernel
theorem dL_law_501 : decode cL_law 501 = .ok (.iaload, 1) := by decide +kernel
theorem dL_law_502 : decode cL_law 502 = .ok (.aload_n 0, 1) := by decide +kernel
theorem dL_law_503 : decode cL_law 503 = .ok (.iload_n 3, 1) := by decide +kernel
theorem dL_law_504 : decode cL_law 504 = .ok (.iconst 2, 1) := by decide +kernel
theorem dL_law_505 : decode cL_law 505 = .ok (.iadd, 1) := by decide +kernel
theorem dL_law_506 : decode cL_law 506 = .ok (.iaload, 1) := by decide +kernel
theorem dL_law_507 : decode cL_law 507 = .ok (.invokevirtual 66, 3) := by decide +kernel
theorem dL_law_510 : decode cL_law 510 = .ok (.aload_n 2, 1) := by decide +kernel
theorem dL_law_511 : decode cL_law 511 = .ok (.aload_n 0, 1) := by decide +kernel
theorem dL_law_512 : decode cL_law 512 = .ok (.iload_n 3, 1) := by decide +kernel
theorem dL_law_513 : decode cL_law 513 = .ok (.iconst 1, 1) := by decide +kernel
theorem dL_law_514 : decode cL_law 514 = .ok (.iadd, 1) := by decide +kernel
theorem dL_law_515 : decode cL_law 515 = .ok (.iaload, 1) := by decide +kernel
theorem dL_law_516 : decode cL_law 516 = .ok (.aload_n 0, 1) := by decide +kernel
theorem dL_law_517 : decode cL_law 517 = .ok (.iload_n 3, 1) := by decide +kernel
theorem dL_law_518 : decode cL_law 518 = .ok (.iconst 2, 1) := by decide +kernel
theorem dL_law_519 : decode cL_law 519 = .ok (.iadd, 1) := by decide +kernel
theorem dL_law_520 : decode cL_law 520 = .ok (.iaload, 1) := by decide +kernel
theorem dL_law_521 : decode cL_law 521 = .ok (.invokevirtual 69, 3) := by decide +kernel
theorem dL_law_524 : decode cL_law 524 = .ok (.if_icmp .eq 225, 3) := by decide +kernel
theorem dL_law_527 : decode cL_law 527 = .ok (.iconst 0, 1) := by decide +kernel
theorem dL_law_528 : decode cL_law 528 = .ok (.ireturn, 1) := by decide +kernel
theorem dL_law_529 : decode cL_law 529 = .ok (.aload_n 1, 1) := by decide +kernel
theorem dL_law_530 : decode cL_law 530 = .ok (.aload_n 0, 1) := by decide +kernel
theorem dL_law_531 : decode cL_law 531 = .ok (.iload_n 3, 1) := by decide +kernel
theorem dL_law_532 : decode cL_law 532 = .ok (.iconst 1, 1) := by decide +kernel
theorem dL_law_533 : decode cL_law 533 = .ok (.iadd, 1) := by decide +kernel
theorem dL_law_534 : decode cL_law 534 = .ok (.iaload, 1) := by decide +kernel
theorem dL_law_535 : decode cL_law 535 = .ok (.invokevirtual 70, 3) := by decide +kernel
theorem dL_law_538 : decode cL_law 538 = .ok (.aload_n 2, 1) := by decide +kernel
theorem dL_law_539 : decode cL_law 539 = .ok (.aload_n 0, 1) := by decide +kernel
theorem dL_law_540 : decode cL_law 540 = .ok (.iload_n 3, 1) := by decide +kernel
theorem dL_law_541 : decode cL_law 541 = .ok (.iconst 1, 1) := by decide +kernel
theorem dL_law_542 : decode cL_law 542 = .ok (.iadd, 1) := by decide +kernel
theorem dL_law_543 : decode cL_law 543 = .ok (.iaload, 1) := by decide +kernel
theorem dL_law_544 : decode cL_law 544 = .ok (.invokevirtual 73, 3) := by decide +kernel
theorem dL_law_547 : decode cL_law 547 = .ok (.if_icmp .eq 202, 3) := by decide +kernel
theorem dL_law_550 : decode cL_law 550 = .ok (.iconst 0, 1) := by decide +kernel
theorem dL_law_551 : decode cL_law 551 = .ok (.ireturn, 1) := by decide +kernel
theorem dL_law_552 : decode cL_law 552 = .ok (.aload_n 1, 1) := by decide +kernel
theorem dL_law_553 : decode cL_law 553 = .ok (.aload_n 0, 1) := by decide +kernel
theorem dL_law_554 : decode cL_law 554 = .ok (.iload_n 3, 1) := by decide +kernel
theorem dL_law_555 : decode cL_law 555 = .ok (.iconst 1, 1) := by decide +kernel
theorem dL_law_556 : decode cL_law 556 = .ok (.iadd, 1) := by decide +kernel
theorem dL_law_557 : decode cL_law 557 = .ok (.iaload, 1) := by decide +kernel
theorem dL_law_558 : decode cL_law 558 = .ok (.aload_n 0, 1) := by decide +kernel
theorem dL_law_559 : decode cL_law 559 = .ok (.iload_n 3, 1) := by decide +kernel
theorem dL_law_560 : decode cL_law 560 = .ok (.iconst 2, 1) := by decide +kernel
theorem dL_law_561 : decode cL_law 561 = .ok (.iadd, 1) := by decide +kernel
theorem dL_law_562 : decode cL_law 562 = .ok (.iaload, 1) := by decide +kernel
theorem dL_law_563 : decode cL_law 563 = .ok (.invokevirtual 74, 3) := by decide +kernel
theorem dL_law_566 : decode cL_law 566 = .ok (.aload_n 2, 1) := by decide +kernel
theorem dL_law_567 : decode cL_law 567 = .ok (.aload_n 0, 1) := by decide +kernel
theorem dL_law_568 : decode cL_law 568 = .ok (.iload_n 3, 1) := by decide +kernel
theorem dL_law_569 : decode cL_law 569 = .ok (.iconst 1, 1) := by decide +kernel
theorem dL_law_570 : decode cL_law 570 = .ok (.iadd, 1) := by decide +kernel
theorem dL_law_571 : decode cL_law 571 = .ok (.iaload, 1) := by decide +kernel
theorem dL_law_572 : decode cL_law 572 = .ok (.aload_n 0, 1) := by decide +kernel
theorem dL_law_573 : decode cL_law 573 = .ok (.iload_n 3, 1) := by decide +kernel
theorem dL_law_574 : decode cL_law 574 = .ok (.iconst 2, 1) := by decide +kernel
theorem dL_law_575 : decode cL_law 575 = .ok (.iadd, 1) := by decide +kernel
theorem dL_law_576 : decode cL_law 576 = .ok (.iaload, 1) := by decide +kernel
theorem dL_law_577 : decode cL_law 577 = .ok (.invokevirtual 77, 3) := by decide +kernel
theorem dL_law_580 : decode cL_law 580 = .ok (.if_icmp .eq 169, 3) := by decide +kernel
theorem dL_law_583 : decode cL_law 583 = .ok (.iconst 0, 1) := by decide +kernel
theorem dL_law_584 : decode cL_law 584 = .ok (.ireturn, 1) := by decide +kernel
theorem dL_law_585 : decode cL_law 585 = .ok (.aload_n 1, 1) := by decide +kernel
theorem dL_law_586 : decode cL_law 586 = .ok (.aload_n 0, 1) := by decide +kernel
theorem dL_law_587 : decode cL_law 587 = .ok (.iload_n 3, 1) := by decide +kernel
theorem dL_law_588 : decode cL_law 588 = .ok (.iconst 1, 1) := by decide +kernel
theorem dL_law_589 : decode cL_law 589 = .ok (.iadd, 1) := by decide +kernel
theorem dL_law_590 : decode cL_law 590 = .ok (.iaload, 1) := by decide +kernel
theorem dL_law_591 : decode cL_law 591 = .ok (.invokevirtual 78, 3) := by decide +kernel
theorem dL_law_594 : decode cL_law 594 = .ok (.aload_n 2, 1) := by decide +kernel
theorem dL_law_595 : decode cL_law 595 = .ok (.aload_n 0, 1) := by decide +kernel
theorem dL_law_596 : decode cL_law 596 = .ok (.iload_n 3, 1) := by decide +kernel
theorem dL_law_597 : decode cL_law 597 = .ok (.iconst 1, 1) := by decide +kernel
theorem dL_law_598 : decode cL_law 598 = .ok (.iadd, 1) := by decide +kernel
theorem dL_law_599 : decode cL_law 599 = .ok (.iaload, 1) := by decide +kernel
theorem dL_law_600 : decode cL_law 600 = .ok (.invokevirtual 81, 3) := by decide +kernel
theorem dL_law_603 : decode cL_law 603 = .ok (.if_icmp .eq 146, 3) := by decide +kernel
theorem dL_law_606 : decode cL_law 606 = .ok (.iconst 0, 1) := by decide +kernel
theorem dL_law_607 : decode cL_law 607 = .ok (.ireturn, 1) := by decide +kernel
theorem dL_law_608 : decode cL_law 608 = .ok (.aload_n 1, 1) := by decide +kernel
theorem dL_law_609 : decode cL_law 609 = .ok (.invokevirtual 82, 3) := by decide +kernel
theorem dL_law_612 : decode cL_law 612 = .ok (.aload_n 2, 1) := by decide +kernel
theorem dL_law_613 : decode cL_law 613 = .ok (.invokevirtual 85, 3) := by decide +kernel
theorem dL_law_616 : decode cL_law 616 = .ok (.if_icmp .eq 133, 3) := by decide +kernel
theorem dL_law_619 : decode cL_law 619 = .ok (.iconst 0, 1) := by decide +kernel
theorem dL_law_620 : decode cL_law 620 = .ok (.ireturn, 1) := by decide +kernel
theorem dL_law_621 : decode cL_law 621 = .ok (.aload_n 1, 1) := by decide +kernel
theorem dL_law_622 : decode cL_law 622 = .ok (.aload_n 0, 1) := by decide +kernel
theorem dL_law_623 : decode cL_law 623 = .ok (.iload_n 3, 1) := by decide +kernel
theorem dL_law_624 : decode cL_law 624 = .ok (.iconst 1, 1) := by decide +kernel
theorem dL_law_625 : decode cL_law 625 = .ok (.iadd, 1) := by decide +kernel
theorem dL_law_626 : decode cL_law 626 = .ok (.iaload, 1) := by decide +kernel
theorem dL_law_627 : decode cL_law 627 = .ok (.invokevirtual 86, 3) := by decide +kernel
theorem dL_law_630 : decode cL_law 630 = .ok (.aload_n 2, 1) := by decide +kernel
theorem dL_law_631 : decode cL_law 631 = .ok (.aload_n 0, 1) := by decide +kernel
theorem dL_law_632 : decode cL_law 632 = .ok (.iload_n 3, 1) := by decide +kernel
theorem dL_law_633 : decode cL_law 633 = .ok (.iconst 1, 1) := by decide +kernel
theorem dL_law_634 : decode cL_law 634 = .ok (.iadd, 1) := by decide +kernel
theorem dL_law_635 : decode cL_law 635 = .ok (.iaload, 1) := by decide +kernel
theorem dL_law_636 : decode cL_law 636 = .ok (.invokevirtual 89, 3) := by decide +kernel
theorem dL_law_639 : decode cL_law 639 = .ok (.if_icmp .eq 110, 3) := by decide +kernel
theorem dL_law_642 : decode cL_law 642 = .ok (.iconst 0, 1) := by decide +kernel
theorem dL_law_643 : decode cL_law 643 = .ok (.ireturn, 1) := by decide +kernel
theorem dL_law_644 : decode cL_law 644 = .ok (.aload_n 1, 1) := by decide +kernel
theorem dL_law_645 : decode cL_law 645 = .ok (.invokevirtual 90, 3) := by decide +kernel
theorem dL_law_648 : decode cL_law 648 = .ok (.aload_n 2, 1) := by decide +kernel
theorem dL_law_649 : decode cL_law 649 = .ok (.invokevirtual 93, 3) := by decide +kernel
theorem dL_law_652 : decode cL_law 652 = .ok (.if_icmp .eq 97, 3) := by decide +kernel
theorem dL_law_655 : decode cL_law 655 = .ok (.iconst 0, 1) := by decide +kernel
theorem dL_law_656 : decode cL_law 656 = .ok (.ireturn, 1) := by decide +kernel
theorem dL_law_657 : decode cL_law 657 = .ok (.aload_n 1, 1) := by decide +kernel
theorem dL_law_658 : decode cL_law 658 = .ok (.aload_n 0, 1) := by decide +kernel
theorem dL_law_659 : decode cL_law 659 = .ok (.iload_n 3, 1) := by decide +kernel
theorem dL_law_660 : decode cL_law 660 = .ok (.iconst 1, 1) := by decide +kernel
theorem dL_law_661 : decode cL_law 661 = .ok (.iadd, 1) := by decide +kernel
theorem dL_law_662 : decode cL_law 662 = .ok (.iaload, 1) := by decide +kernel
theorem dL_law_663 : decode cL_law 663 = .ok (.invokevirtual 94, 3) := by decide +kernel
theorem dL_law_666 : decode cL_law 666 = .ok (.aload_n 2, 1) := by decide +kernel
theorem dL_law_667 : decode cL_law 667 = .ok (.aload_n 0, 1) := by decide +kernel
theorem dL_law_668 : decode cL_law 668 = .ok (.iload_n 3, 1) := by decide +kernel
theorem dL_law_669 : decode cL_law 669 = .ok (.iconst 1, 1) := by decide +kernel
theorem dL_law_670 : decode cL_law 670 = .ok (.iadd, 1) := by decide +kernel
theorem dL_law_671 : decode cL_law 671 = .ok (.iaload, 1) := by decide +kernel
theorem dL_law_672 : decode cL_law 672 = .ok (.invokevirtual 97, 3) := by decide +kernel
theorem dL_law_675 : decode cL_law 675 = .ok (.if_icmp .eq 74, 3) := by decide +kernel
theorem dL_law_678 : decode cL_law 678 = .ok (.iconst 0, 1) := by decide +kernel
theorem dL_law_679 : decode cL_law 679 = .ok (.ireturn, 1) := by decide +kernel
theorem dL_law_680 : decode cL_law 680 = .ok (.aload_n 1, 1) := by decide +kernel
theorem dL_law_681 : decode cL_law 681 = .ok (.aload_n 0, 1) := by decide +kernel
theorem dL_law_682 : decode cL_law 682 = .ok (.iload_n 3, 1) := by decide +kernel
theorem dL_law_683 : decode cL_law 683 = .ok (.iconst 1, 1) := by decide +kernel
theorem dL_law_684 : decode cL_law 684 = .ok (.iadd, 1) := by decide +kernel
theorem dL_law_685 : decode cL_law 685 = .ok (.iaload, 1) := by decide +kernel
theorem dL_law_686 : decode cL_law 686 = .ok (.invokevirtual 98, 3) := by decide +kernel
theorem dL_law_689 : decode cL_law 689 = .ok (.aload_n 2, 1) := by decide +kernel
theorem dL_law_690 : decode cL_law 690 = .ok (.aload_n 0, 1) := by decide +kernel
theorem dL_law_691 : decode cL_law 691 = .ok (.iload_n 3, 1) := by decide +kernel
theorem dL_law_692 : decode cL_law 692 = .ok (.iconst 1, 1) := by decide +kernel
theorem dL_law_693 : decode cL_law 693 = .ok (.iadd, 1) := by decide +kernel
theorem dL_law_694 : decode cL_law 694 = .ok (.iaload, 1) := by decide +kernel
theorem dL_law_695 : decode cL_law 695 = .ok (.invokevirtual 101, 3) := by decide +kernel
theorem dL_law_698 : decode cL_law 698 = .ok (.if_icmp .eq 51, 3) := by decide +kernel
theorem dL_law_701 : decode cL_law 701 = .ok (.iconst 0, 1) := by decide +kernel
theorem dL_law_702 : decode cL_law 702 = .ok (.ireturn, 1) := by decide +kernel
theorem dL_law_703 : decode cL_law 703 = .ok (.aload_n 1, 1) := by decide +kernel
theorem dL_law_704 : decode cL_law 704 = .ok (.aload_n 0, 1) := by decide +kernel
theorem dL_law_705 : decode cL_law 705 = .ok (.iload_n 3, 1) := by decide +kernel
theorem dL_law_706 : decode cL_law 706 = .ok (.iconst 1, 1) := by decide +kernel
theorem dL_law_707 : decode cL_law 707 = .ok (.iadd, 1) := by decide +kernel
theorem dL_law_708 : decode cL_law 708 = .ok (.iaload, 1) := by decide +kernel
theorem dL_law_709 : decode cL_law 709 = .ok (.invokevirtual 102, 3) := by decide +kernel
theorem dL_law_712 : decode cL_law 712 = .ok (.aload_n 2, 1) := by decide +kernel
theorem dL_law_713 : decode cL_law 713 = .ok (.aload_n 0, 1) := by decide +kernel
theorem dL_law_714 : decode cL_law 714 = .ok (.iload_n 3, 1) := by decide +kernel
theorem dL_law_715 : decode cL_law 715 = .ok (.iconst 1, 1) := by decide +kernel
theorem dL_law_716 : decode cL_law 716 = .ok (.iadd, 1) := by decide +kernel
theorem dL_law_717 : decode cL_law 717 = .ok (.iaload, 1) := by decide +kernel
theorem dL_law_718 : decode cL_law 718 = .ok (.invokevirtual 105, 3) := by decide +kernel
theorem dL_law_721 : decode cL_law 721 = .ok (.if_icmp .eq 28, 3) := by decide +kernel
theorem dL_law_724 : decode cL_law 724 = .ok (.iconst 0, 1) := by decide +kernel
theorem dL_law_725 : decode cL_law 725 = .ok (.ireturn, 1) := by decide +kernel
theorem dL_law_726 : decode cL_law 726 = .ok (.aload_n 1, 1) := by decide +kernel
theorem dL_law_727 : decode cL_law 727 = .ok (.aload_n 0, 1) := by decide +kernel
theorem dL_law_728 : decode cL_law 728 = .ok (.iload_n 3, 1) := by decide +kernel
theorem dL_law_729 : decode cL_law 729 = .ok (.iconst 1, 1) := by decide +kernel
theorem dL_law_730 : decode cL_law 730 = .ok (.iadd, 1) := by decide +kernel
theorem dL_law_731 : decode cL_law 731 = .ok (.iaload, 1) := by decide +kernel
theorem dL_law_732 : decode cL_law 732 = .ok (.invokevirtual 106, 3) := by decide +kernel
theorem dL_law_735 : decode cL_law 735 = .ok (.aload_n 2, 1) := by decide +kernel
theorem dL_law_736 : decode cL_law 736 = .ok (.aload_n 0, 1) := by decide +kernel
theorem dL_law_737 : decode cL_law 737 = .ok (.iload_n 3, 1) := by decide +kernel
theorem dL_law_738 : decode cL_law 738 = .ok (.iconst 1, 1) := by decide +kernel
theorem dL_law_739 : decode cL_law 739 = .ok (.iadd, 1) := by decide +kernel
theorem dL_law_740 : decode cL_law 740 = .ok (.iaload, 1) := by decide +kernel
theorem dL_law_741 : decode cL_law 741 = .ok (.invokevirtual 109, 3) := by decide +kernel
theorem dL_law_744 : decode cL_law 744 = .ok (.if_icmp .eq 5, 3) := by decide +kernel
theorem dL_law_747 : decode cL_law 747 = .ok (.iconst 0, 1) := by decide +kernel
theorem dL_law_748 : decode cL_law 748 = .ok (.ireturn, 1) := by decide +kernel
theorem dL_law_749 : decode cL_law 749 = .ok (.iinc 3 5, 3) := by decide +kernel
theorem dL_law_752 : decode cL_law 752 = .ok (.goto (-734), 3) := by decide +kernel
theorem dL_law_755 : decode cL_law 755 = .ok (.iconst 1, 1) := by decide +kernel
theorem dL_law_756 : decode cL_law 756 = .ok (.ireturn, 1) := by decide +kernel
end
section
/-! The flat memory: every object and array of the class (or of the reference) has a number; what it holds are ints, by number and slot; references are fixed by the shape. Contracts and rows over it. -/
def tbl : List Cond := lw_tbl.filter goodWord
theorem tb {i : Nat} {w : Cond} (h : lw_tbl[i]? = some w) (g : goodWord w = true) : w ∈ tbl := List.mem_filter.mpr ⟨List.mem_of_getElem? h, g⟩
theorem tbl_ok : ∀ w ∈ tbl, (w.onTables && w.keeps) = true ∨ ∃ ty, w = .arrayClass ty := fun w h => good_of_word (List.mem_filter.mp h).2
theorem tbl_sub : ∀ w ∈ tbl, w ∈ lw_tbl := fun w h => (List.mem_filter.mp h).1
theorem tbl_GI {ws : List Cond} (h : ∀ w ∈ ws, w ∈ tbl) : GoodIn tbl ws := fun w hw => ⟨h w hw, tbl_ok w (h w hw)⟩
theorem tbl_cons {w : Cond} (h : w ∈ tbl) : GoodIn tbl (w :: tbl) := tbl_GI (fun x hx => (List.mem_cons.mp hx).elim (fun e => e ▸ h) id)

abbrev Mem : Type := Nat → Nat → Int32
abbrev Shp : Type := (Nat × List (Option Nat)) ⊕ (Nat × Nat × (Nat → Nat))
abbrev Gl : Type := (Nat → ClassId) × (Nat → Nat → Nat) × (Nat → ClassId) × (Nat → Nat)
abbrev Wd : Type := Nat × (Nat → Shp)
abbrev gD (G : Gl) : va_G := (G.1, G.2.1)
abbrev gA (G : Gl) : Nat → Nat := G.2.2.2
def mup (σ : Mem) (k j : Nat) (v : Int32) : Mem := fun a => if a = k then upd (σ k) j v else σ a
def ffs (ad : Nat → Nat) (rs : List (Option Nat)) (f : Nat → Int32) : List Value := rs.mapIdx (fun j r => match r with | none => Value.int (f j) | some k => Value.ref (ad k))
def fcell (G : Gl) (s : Shp) (f : Nat → Int32) : va_E := match s with
  | .inl (ci, rs) => .inr (ci, ffs (gA G) rs f)
  | .inr (kd, n, tg) => .inl (G.2.2.1 kd, n, if kd < 2 then .inl f else .inr (.inr (.inr (.inr (fun i => some (gA G (tg i)))))))
def fw (G : Gl) (w : Wd) (σ : Mem) : va_W := (List.range w.1).map (fun k => (gA G k, fcell G (w.2 k) (σ k)))
def ftys (G : Gl) : List (ClassId × FieldType) := [(G.2.2.1 0, .int), (G.2.2.1 1, .boolean), (G.2.2.1 2, .object "YearLines$House"), (G.2.2.1 3, .object "YearLines$Chronicle")]
def FK (G : Gl) (U : State) : Prop := va_K (gD G) vwCl (ftys G) U
def FI (G : Gl) (w : Wd) : Prop := ∀ i j, i < w.1 → j < w.1 → gA G i = gA G j → i = j
def FA (G : Gl) (w : Wd) : Nat → Prop := fun q => ∃ k, k < w.1 ∧ q = gA G k
def FH (G : Gl) (w : Wd) (H0 H : Heap) (locs : List Loc) (σ : Mem) : Prop := va_P (gD G) vwCl (fw G w σ) H ∧ va_S (FA G w) H0 H locs
def SH (w : Wd) (k : Nat) (s : Shp) : Prop := k < w.1 ∧ w.2 k = s

theorem fw_get {G : Gl} {w : Wd} {σ : Mem} {k : Nat} (hk : k < w.1) : (fw G w σ)[k]? = some (gA G k, fcell G (w.2 k) (σ k)) := by
  simp [fw, List.getElem?_map, List.getElem?_range hk]
theorem fw_some {G : Gl} {w : Wd} {σ : Mem} {k : Nat} {q : Nat × va_E} (h : (fw G w σ)[k]? = some q) : k < w.1 ∧ q.1 = gA G k := by
  have hk : k < w.1 := by
    have := (List.getElem?_eq_some_iff.mp h).1
    simpa [fw] using this
  rw [fw_get hk] at h
  cases h
  exact ⟨hk, rfl⟩
theorem fw_set {G : Gl} {w : Wd} {σ : Mem} {k j : Nat} {v : Int32} (hk : k < w.1) : (fw G w σ).set k (gA G k, fcell G (w.2 k) (upd (σ k) j v)) = fw G w (mup σ k j v) := by
  apply List.ext_getElem?
  intro i
  by_cases hi : i = k
  · subst hi
    rw [List.getElem?_set_self (by simpa [fw] using hk), fw_get hk]
    simp [mup]
  · rw [List.getElem?_set_ne (Ne.symm hi)]
    by_cases h : i < w.1
    · rw [fw_get h, fw_get h]
      simp [mup, hi]
    · rw [List.getElem?_eq_none (by simpa [fw] using h), List.getElem?_eq_none (by simpa [fw] using h)]
theorem fw_D {G : Gl} {w : Wd} {σ : Mem} (hI : FI G w) : va_D (FA G w) (fw G w σ) := by
  refine ⟨fun i j p q hi hj h => ?_, fun k q hk => ?_⟩
  · obtain ⟨a1, a2⟩ := fw_some hi
    obtain ⟨b1, b2⟩ := fw_some hj
    exact hI i j a1 b1 (by rw [← a2, ← b2]; exact h)
  · obtain ⟨a1, a2⟩ := fw_some hk
    exact ⟨k, a1, a2⟩
theorem ffs_int {ad : Nat → Nat} {rs : List (Option Nat)} {f : Nat → Int32} {j : Nat} (h : rs[j]? = some none) : (ffs ad rs f)[j]? = some (.int (f j)) := by
  simp [ffs, List.getElem?_mapIdx, h]
theorem ffs_ref {ad : Nat → Nat} {rs : List (Option Nat)} {f : Nat → Int32} {j k : Nat} (h : rs[j]? = some (some k)) : (ffs ad rs f)[j]? = some (.ref (ad k)) := by
  simp [ffs, List.getElem?_mapIdx, h]
theorem ffs_set {ad : Nat → Nat} {rs : List (Option Nat)} {f : Nat → Int32} {j : Nat} {v : Int32} (h : rs[j]? = some none) : (ffs ad rs f).set j (.int v) = ffs ad rs (upd f j v) := by
  have hl : j < rs.length := (List.getElem?_eq_some_iff.mp h).1
  apply List.ext_getElem?
  intro i
  by_cases hi : i = j
  · subst hi
    rw [List.getElem?_set_self (by simpa [ffs] using hl), ffs_int h]
    simp [upd]
  · rw [List.getElem?_set_ne (Ne.symm hi)]
    simp only [ffs, List.getElem?_mapIdx]
    cases hr : rs[i]? with
    | none => rfl
    | some r => cases r <;> simp [upd, hi]
theorem ffs_len {ad : Nat → Nat} {rs : List (Option Nat)} {f : Nat → Int32} : (ffs ad rs f).length = rs.length := by simp [ffs]

def CX (p : Program) (s : State) (m : MethodId) (args : Array Value) (own : String) (G : Gl) (w : Wd) : Prop :=
  p.tables.exec = Jvm.exec ∧ s.vm.findClass own = some m.cls ∧ (∀ x ∈ tbl, x.before args s = true) ∧ FK G s ∧ FI G w
def MX (p : Program) (s : State) (m : MethodId) (args : Array Value) (meth : Method) (c : Code) (own : String) (G : Gl) (w : Wd) (cc : ByteArray) (nL : Nat) (ret : Option FieldType) : Prop :=
  CX p s m args own G w ∧ c.code = cc ∧ c.maxLocals = nL ∧ meth.sig.returnType = ret ∧ meth.locks = false
def FQ (G : Gl) (w : Wd) (σ' : Mem) (v : Option Value) : Array Value → State → Outcome → State → Prop := fun _ st oc t => oc = .returned v ∧ (va_P (gD G) vwCl (fw G w σ') t.heap ∧ FK G t) ∧ va_F (FA G w) st t
def FP (G : Gl) (w : Wd) (as : List Value) (σ : Mem) : Array Value → State → Prop := fun a U => a = as.toArray ∧ va_P (gD G) vwCl (fw G w σ) U.heap ∧ FK G U
def Ct (l : Launch) (G : Gl) (w : Wd) (y : MethodName) (bytes : ByteArray) (maxL : Nat) (ret : Option FieldType) (rm : Room) (as : List Value) (σ : Mem) (v : Option Value) (σ' : Mem) : Prop :=
  Met l y (Cond.code y bytes maxL ret :: tbl) rm (FP G w as σ) (FQ G w σ' v) 0 0 (FA G w)
abbrev WG (p : Program) (l : Launch) (e : Env) (R : Room) (s : State) (m : MethodId) (args : Array Value) (below : List Frame) (meth : Method) (c : Code) (G : Gl) (w : Wd) (v : Option Value) (σ' : Mem) (H : Heap) (locs : List Loc) (pc : Nat) (ls : Array Slot) (st : List Value) : Prop :=
  W p l e R s m args below meth c H locs 0 0 (MQ below (FQ G w σ' v) args s 0 0 (FA G w)) (F0 m pc ls st)
theorem FP_blind {G : Gl} {w : Wd} {as : List Value} {σ : Mem} : FrameBlind (FP G w as σ) := fun a U g mk q => ⟨q.1, q.2.1, va_K.moved (u := U) (U := U.calling g mk a) (Vm.Alike.refl U.vm) q.2.2⟩

theorem fl_start {l : Launch} {G : Gl} {w : Wd} {y : MethodName} {bytes : ByteArray} {maxL : Nat} {ret : Option FieldType} {rm : Room} {as : List Value} {σ σ' : Mem} {v : Option Value} (hI : FI G w) (hy : plainName y.cls = true) (hn : (lg_sl as).length ≤ maxL)
    (body : ∀ (p : Program) (e : Env) (s : State) (m : MethodId) (below : List Frame) (meth : Method) (c : Code), MX p s m as.toArray meth c y.cls G w bytes maxL ret → FH G w s.heap s.heap [] σ → ∀ ls : Array Slot, lv_has ls maxL (lv_args 0 as) → WG p l e rm s m as.toArray below meth c G w v σ' s.heap [] 0 ls []) :
    Ct l G w y bytes maxL ret rm as σ v σ' := by
  refine Met.ofW (cc := bytes) (maxL := maxL) (ret := ret) hy rfl ?_
  intro p e s m args below meth c s₁ B hml hv
  obtain ⟨rfl, hP, hK⟩ := hv
  have hts := atoms_spec (ws := Cond.code y bytes maxL ret :: tbl) B.pre
  rw [lg_entry_eq]
  exact body p e s m below meth c ⟨⟨B.exec, findClass_of_methodNamed B.named, fun x hx => hts x (List.mem_cons_of_mem _ hx), hK, hI⟩, B.bytes, hml, B.returns, B.notSynchronized⟩ ⟨hP, va_S.rf⟩ _ (lv_entry as hn)

section FL
variable {p : Program} {l : Launch} {e : Env} {R : Room} {s : State} {m : MethodId} {args : Array Value} {below : List Frame} {meth : Method} {c : Code} {H H0 : Heap} {locs : List Loc} {cells slots : Nat} {Q : State → Prop}
variable {cc : ByteArray} {pc : Nat} {ls : Array Slot} {rest : List Value} {G : Gl} {w : Wd} {σ : Mem} {own : String} {k ci j index N n kd : Nat} {C : String} {T : u_T} {rs : List (Option Nat)} {tg : Nat → Nat}
theorem fl_geti (X : CX p s m args own G w) (hb : c.code = cc) (hF : FH G w H0 H locs σ) (hs : SH w k (.inl (ci, rs))) (hc : vwCl[ci]? = some (C, T, N)) (hj : j < N) (hin : ∀ x ∈ u_ws C T N, x ∈ tbl) (hl : Cond.fieldLink own index (T j).1 (T j).2.1 (T j).2.2.1 ∈ tbl) (hv : rs[j]? = some none) (hdg : decode cc pc = .ok (.getfield index, 3))
    (kk : W p l e R s m args below meth c H locs cells slots Q (F0 m (pc + 3) ls (.int (σ k j) :: rest))) : W p l e R s m args below meth c H locs cells slots Q (F0 m pc ls (.ref (gA G k) :: rest)) :=
  va_get X.1 hb X.2.2.1 hin X.2.1 X.2.2.2.1 hF.1 k (fs := ffs (gA G) rs (σ k)) (ci := ci) (by rw [fw_get hs.1, hs.2]; rfl) hc j hj (X.2.2.1 _ hl) (fun _ h => h) (ffs_int hv) hdg kk
theorem fl_getr {k2 : Nat} (X : CX p s m args own G w) (hb : c.code = cc) (hF : FH G w H0 H locs σ) (hs : SH w k (.inl (ci, rs))) (hc : vwCl[ci]? = some (C, T, N)) (hj : j < N) (hin : ∀ x ∈ u_ws C T N, x ∈ tbl) (hl : Cond.fieldLink own index (T j).1 (T j).2.1 (T j).2.2.1 ∈ tbl) (hv : rs[j]? = some (some k2)) (hdg : decode cc pc = .ok (.getfield index, 3))
    (kk : W p l e R s m args below meth c H locs cells slots Q (F0 m (pc + 3) ls (.ref (gA G k2) :: rest))) : W p l e R s m args below meth c H locs cells slots Q (F0 m pc ls (.ref (gA G k) :: rest)) :=
  va_get X.1 hb X.2.2.1 hin X.2.1 X.2.2.2.1 hF.1 k (fs := ffs (gA G) rs (σ k)) (ci := ci) (by rw [fw_get hs.1, hs.2]; rfl) hc j hj (X.2.2.1 _ hl) (fun _ h => h) (ffs_ref hv) hdg kk
theorem fl_puti {v : Int32} {ty : FieldType} (X : CX p s m args own G w) (hb : c.code = cc) (hF : FH G w H0 H locs σ) (hs : SH w k (.inl (ci, rs))) (hc : vwCl[ci]? = some (C, T, N)) (hj : j < N) (hin : ∀ x ∈ u_ws C T N, x ∈ tbl) (ty0 : Nat → FieldType) (hty : ∀ k, k < N → parseFieldDescriptor (T k).2.2.1 = some (ty0 k)) (hnm : ∀ a, a < N → ∀ b, b < N → a ≠ b → (T a).2.1 ≠ (T b).2.1) (hl : Cond.fieldLink own index (T j).1 (T j).2.1 (T j).2.2.1 ∈ tbl) (hfin : (T j).2.2.2 = false) (hd : parseFieldDescriptor (T j).2.2.1 = some ty) (hnr : narrow ty (.int v) = .int v) (hfit : fits ty (.int v) = true) (hv : rs[j]? = some none) (hdg : decode cc pc = .ok (.putfield index, 3))
    (kk : ∀ (H1 : Heap) (locs1 : List Loc), FH G w H0 H1 locs1 (mup σ k j v) → W p l e R s m args below meth c H1 locs1 cells slots Q (F0 m (pc + 3) ls rest)) : W p l e R s m args below meth c H locs cells slots Q (F0 m pc ls (.int v :: .ref (gA G k) :: rest)) := by
  have hg : (fw G w σ)[k]? = some (gA G k, .inr (ci, ffs (gA G) rs (σ k))) := by rw [fw_get hs.1, hs.2]; rfl
  refine va_put X.1 hb X.2.2.1 hin ty0 hty hnm X.2.1 X.2.2.2.1 hF.1 (fw_D X.2.2.2.2) hF.2 k hg hc j hj (X.2.2.1 _ hl) (fun _ h => h) hfin hd hnr hfit (by rw [ffs_len]; exact (List.getElem?_eq_some_iff.mp hv).1) hdg (fun H1 locs1 hP1 _ hS1 => kk H1 locs1 ⟨?_, hS1⟩)
  rw [ffs_set hv] at hP1
  rw [← fw_set hs.1, hs.2]
  exact hP1
theorem fl_iald (X : CX p s m args own G w) (hb : c.code = cc) (hF : FH G w H0 H locs σ) (hs : SH w k (.inr (0, n, tg))) {i : Int32} (hi : ¬ (i < 0 ∨ n ≤ i.toNatClampNeg)) (hdg : decode cc pc = .ok (.iaload, 1))
    (kk : W p l e R s m args below meth c H locs cells slots Q (F0 m (pc + 1) ls (.int (σ k i.toNatClampNeg) :: rest))) : W p l e R s m args below meth c H locs cells slots Q (F0 m pc ls (.int i :: .ref (gA G k) :: rest)) :=
  va_iald X.1 hb X.2.2.2.1 hF.1 k 0 (n := n) (f := σ k) (by rw [fw_get hs.1, hs.2]; rfl) rfl hi hdg kk
theorem fl_zald (X : CX p s m args own G w) (hb : c.code = cc) (hF : FH G w H0 H locs σ) (hs : SH w k (.inr (1, n, tg))) {i : Int32} (hi : ¬ (i < 0 ∨ n ≤ i.toNatClampNeg)) (hdg : decode cc pc = .ok (.baload, 1))
    (kk : W p l e R s m args below meth c H locs cells slots Q (F0 m (pc + 1) ls (.int (σ k i.toNatClampNeg) :: rest))) : W p l e R s m args below meth c H locs cells slots Q (F0 m pc ls (.int i :: .ref (gA G k) :: rest)) :=
  va_zald X.1 hb X.2.2.2.1 hF.1 k 1 (n := n) (f := σ k) (by rw [fw_get hs.1, hs.2]; rfl) rfl hi hdg kk
theorem fl_aaldH (X : CX p s m args own G w) (hb : c.code = cc) (hF : FH G w H0 H locs σ) (hs : SH w k (.inr (2, n, tg))) {i : Int32} (hi : ¬ (i < 0 ∨ n ≤ i.toNatClampNeg)) (hdg : decode cc pc = .ok (.aaload, 1))
    (kk : W p l e R s m args below meth c H locs cells slots Q (F0 m (pc + 1) ls (.ref (gA G (tg i.toNatClampNeg)) :: rest))) : W p l e R s m args below meth c H locs cells slots Q (F0 m pc ls (.int i :: .ref (gA G k) :: rest)) :=
  va_aldq X.1 hb X.2.2.2.1 hF.1 k 2 (n := n) (f := fun i => some (gA G (tg i))) (by rw [fw_get hs.1, hs.2]; rfl) rfl hi hdg kk
theorem fl_aaldC (X : CX p s m args own G w) (hb : c.code = cc) (hF : FH G w H0 H locs σ) (hs : SH w k (.inr (3, n, tg))) {i : Int32} (hi : ¬ (i < 0 ∨ n ≤ i.toNatClampNeg)) (hdg : decode cc pc = .ok (.aaload, 1))
    (kk : W p l e R s m args below meth c H locs cells slots Q (F0 m (pc + 1) ls (.ref (gA G (tg i.toNatClampNeg)) :: rest))) : W p l e R s m args below meth c H locs cells slots Q (F0 m pc ls (.int i :: .ref (gA G k) :: rest)) :=
  va_aldq X.1 hb X.2.2.2.1 hF.1 k 3 (n := n) (f := fun i => some (gA G (tg i))) (by rw [fw_get hs.1, hs.2]; rfl) rfl hi hdg kk
theorem fl_iast (X : CX p s m args own G w) (hb : c.code = cc) (hF : FH G w H0 H locs σ) (hs : SH w k (.inr (0, n, tg))) {i x : Int32} (hi : ¬ (i < 0 ∨ n ≤ i.toNatClampNeg)) (hdg : decode cc pc = .ok (.iastore, 1))
    (kk : ∀ (H1 : Heap) (locs1 : List Loc), FH G w H0 H1 locs1 (mup σ k i.toNatClampNeg x) → W p l e R s m args below meth c H1 locs1 cells slots Q (F0 m (pc + 1) ls rest)) : W p l e R s m args below meth c H locs cells slots Q (F0 m pc ls (.int x :: .int i :: .ref (gA G k) :: rest)) := by
  refine va_iast X.1 hb X.2.2.2.1 hF.1 (fw_D X.2.2.2.2) hF.2 k 0 (n := n) (f := σ k) (cA := G.2.2.1 0) (by rw [fw_get hs.1, hs.2]; rfl) rfl hi hdg (fun H1 locs1 hP1 _ hS1 => kk H1 locs1 ⟨?_, hS1⟩)
  rw [← fw_set hs.1, hs.2]
  exact hP1
theorem fl_zast (X : CX p s m args own G w) (hb : c.code = cc) (hF : FH G w H0 H locs σ) (hs : SH w k (.inr (1, n, tg))) {i x : Int32} (hi : ¬ (i < 0 ∨ n ≤ i.toNatClampNeg)) (hx : vp_nar .boolean x = x) (hdg : decode cc pc = .ok (.bastore, 1))
    (kk : ∀ (H1 : Heap) (locs1 : List Loc), FH G w H0 H1 locs1 (mup σ k i.toNatClampNeg x) → W p l e R s m args below meth c H1 locs1 cells slots Q (F0 m (pc + 1) ls rest)) : W p l e R s m args below meth c H locs cells slots Q (F0 m pc ls (.int x :: .int i :: .ref (gA G k) :: rest)) := by
  refine va_zast X.1 hb X.2.2.2.1 hF.1 (fw_D X.2.2.2.2) hF.2 k 1 (n := n) (f := σ k) (cA := G.2.2.1 1) (by rw [fw_get hs.1, hs.2]; rfl) rfl hi hdg (fun H1 locs1 hP1 _ hS1 => kk H1 locs1 ⟨?_, hS1⟩)
  rw [hx] at hP1
  rw [← fw_set hs.1, hs.2]
  exact hP1
theorem fl_iret {v : Int32} (X : CX p s m args own G w) (hb : c.code = cc) (hr : meth.sig.returnType = some .int) (hlk : meth.locks = false) (hF : FH G w s.heap H locs σ) (hdg : decode cc pc = .ok (.ireturn, 1)) : WG p l e R s m args below meth c G w (some (.int v)) σ H locs pc ls [.int v] :=
  W.iret X.1 hb hr (fun t ht hW => ⟨rfl, ⟨by rw [ht]; exact hF.1, va_K.moved hW.alike X.2.2.2.1⟩, hF.2.F ht⟩) hF.2.2.2 hdg (hlocks := hlk)
theorem fl_zret {v : Int32} (X : CX p s m args own G w) (hb : c.code = cc) (hr : meth.sig.returnType = some .boolean) (hlk : meth.locks = false) (hF : FH G w s.heap H locs σ) (hv : v = 0 ∨ v = 1) (hdg : decode cc pc = .ok (.ireturn, 1)) : WG p l e R s m args below meth c G w (some (.int v)) σ H locs pc ls [.int v] :=
  W.zret X.1 hb hr (by rcases hv with rfl | rfl <;> rfl) (fun t ht hW => ⟨rfl, ⟨by rw [ht]; exact hF.1, va_K.moved hW.alike X.2.2.2.1⟩, hF.2.F ht⟩) hF.2.2.2 hdg (hlocks := hlk)
theorem fl_vret (X : CX p s m args own G w) (hb : c.code = cc) (hr : meth.sig.returnType = none) (hlk : meth.locks = false) (hF : FH G w s.heap H locs σ) (hdg : decode cc pc = .ok (.return_, 1)) : WG p l e R s m args below meth c G w none σ H locs pc ls [] :=
  W.vret X.1 hb hr (fun t ht hW => ⟨rfl, ⟨by rw [ht]; exact hF.1, va_K.moved hW.alike X.2.2.2.1⟩, hF.2.F ht⟩) hF.2.2.2 hdg (hlocks := hlk)
theorem fl_aret {o : String} (X : CX p s m args own G w) (hb : c.code = cc) (hr : meth.sig.returnType = some (.object o)) (hlk : meth.locks = false) (hF : FH G w s.heap H locs σ) (hdg : decode cc pc = .ok (.areturn, 1)) : WG p l e R s m args below meth c G w (some (.ref (gA G k))) σ H locs pc ls [.ref (gA G k)] :=
  W.aret X.1 hb hr (Or.inl ⟨_, rfl⟩) (Or.inr ⟨_, rfl⟩) (fun t ht hW => ⟨rfl, ⟨by rw [ht]; exact hF.1, va_K.moved hW.alike X.2.2.2.1⟩, hF.2.F ht⟩) hF.2.2.2 hdg (hlocks := hlk)
variable {y : MethodName} {bytes : ByteArray} {maxL nL : Nat} {ret : Option FieldType} {rm : Room} {As st0 : List Value} {v : Option Value} {σ' : Mem} {a : Array Value}
theorem fl_call (hr : va_Run p l e R s m args below meth c H locs cells slots 0 0 (F0 m pc ls st0) rest (FQ G w σ' v a) (FA G w)) (hF : FH G w H0 H locs σ)
    (kk : ∀ (H1 : Heap) (locs1 : List Loc), FH G w H0 H1 locs1 σ' → W p l e R s m args below meth c H1 locs1 cells slots Q (F0 m (pc + 3) ls (v.toList ++ rest))) : W p l e R s m args below meth c H locs cells slots Q (F0 m pc ls st0) := by
  intro T hT X
  obtain ⟨v', st₀, t, T', L, h0, X', hL, e1, e2, ⟨hv, ⟨hP, hK⟩, hz, hk⟩, st⟩ := hr T hT X
  cases hv
  rw [h0] at hz hk
  have hS := hF.2
  obtain ⟨t2, a1, b1⟩ := kk T'.heap (locs ++ L) ⟨by rw [e1]; exact hP, Nat.le_trans hS.1 (by rw [e1]; exact hz), fun q h1 h2 => by rw [e1, hk q (Nat.lt_of_lt_of_le h1 hS.1) h2]; exact hS.2.1 q h1 h2, fun q hq => by
      rcases List.mem_append.mp hq with h | h
      · exact hS.2.2 q h
      · exact hL q h⟩ T' rfl X'
  exact ⟨t2, st t2 a1, b1⟩
theorem fl_callV (X : CX p s m args own G w) (hb : c.code = cc) (hml : c.maxLocals = nL) (hF : FH G w H0 H locs σ) (hM : Ct l G w y bytes maxL ret rm (.ref (gA G k) :: As) σ v σ') (hs : SH w k (.inl (ci, rs))) (hc : vwCl[ci]? = some (C, T, N))
    (h1 : Cond.methodLink own index y ∈ tbl) (h2 : Cond.instanceMethod y ∈ tbl) (h3 : Cond.selects C y y ∈ tbl) (h4 : Cond.initialized y.cls ∈ tbl) (h5 : Cond.code y bytes maxL ret ∈ tbl)
    (hd : y.cls ≠ "java/lang/invoke/MethodHandle" ∧ y.cls ≠ "java/lang/invoke/VarHandle" ∧ (parseMethodDescriptor y.desc).map (fun d => d.parameters.length) = some n) (hrc : rm.cells = 0) (hrs : rm.slots = 0) (hR : rm.frames + 1 ≤ R.frames ∧ 8 + (maxL + 11) + rm.locals ≤ R.locals) (hf : cells ≤ R.cells ∧ slots ≤ R.slots)
    (hn : As.length = n) (hl : ls.size = nL) (hst : st0 = As.reverse ++ .ref (gA G k) :: rest) (hW : (rest.map fun v => v.category).sum ≤ 8) (hdg : decode cc pc = .ok (.invokevirtual index, 3))
    (kk : ∀ (H1 : Heap) (locs1 : List Loc), FH G w H0 H1 locs1 σ' → W p l e R s m args below meth c H1 locs1 cells slots Q (F0 m (pc + 3) ls (v.toList ++ rest))) : W p l e R s m args below meth c H locs cells slots Q (F0 m pc ls st0) :=
  fl_call (va_runV (Ts := tbl) (C := C) (b := gA G k) (As := As) (rest := rest) ⟨X.1, hb, hml, X.2.1, X.2.2.1⟩ hM ⟨callB_of n X.2.2.1 (tbl_cons h5) rfl hrc hrs (X.2.2.1 _ h4) (X.2.2.1 _ h1) hd hR, X.2.2.1 _ h2, X.2.2.1 _ h3⟩
    ⟨FP_blind, va_recv X.2.2.2.1 hF.1 hc (q0 := k) (fs := ffs (gA G) rs (σ k)) (by rw [fw_get hs.1, hs.2]; rfl), fun U hU hW => ⟨rfl, by rw [hU]; exact hF.1, va_K.moved hW.alike X.2.2.2.1⟩⟩ rfl hn hl hst (lv_room hW) hdg hf) hF kk
theorem fl_callS (X : CX p s m args own G w) (hb : c.code = cc) (hml : c.maxLocals = nL) (hF : FH G w H0 H locs σ) (hM : Ct l G w y bytes maxL ret rm As σ v σ')
    (h1 : Cond.methodLink own index y ∈ tbl) (h2 : Cond.static y ∈ tbl) (h4 : Cond.initialized y.cls ∈ tbl) (h5 : Cond.code y bytes maxL ret ∈ tbl)
    (hd : y.cls ≠ "java/lang/invoke/MethodHandle" ∧ y.cls ≠ "java/lang/invoke/VarHandle" ∧ (parseMethodDescriptor y.desc).map (fun d => d.parameters.length) = some n) (hrc : rm.cells = 0) (hrs : rm.slots = 0) (hR : rm.frames + 1 ≤ R.frames ∧ 8 + (maxL + 11) + rm.locals ≤ R.locals) (hf : cells ≤ R.cells ∧ slots ≤ R.slots)
    (hn : As.length = n) (hl : ls.size = nL) (hst : st0 = As.reverse ++ rest) (hW : (rest.map fun v => v.category).sum ≤ 8) (hdg : decode cc pc = .ok (.invokestatic index, 3))
    (kk : ∀ (H1 : Heap) (locs1 : List Loc), FH G w H0 H1 locs1 σ' → W p l e R s m args below meth c H1 locs1 cells slots Q (F0 m (pc + 3) ls (v.toList ++ rest))) : W p l e R s m args below meth c H locs cells slots Q (F0 m pc ls st0) :=
  fl_call (va_runS (Ts := tbl) (As := As) (rest := rest) ⟨X.1, hb, hml, X.2.1, X.2.2.1⟩ hM ⟨callB_of n X.2.2.1 (tbl_cons h5) rfl hrc hrs (X.2.2.1 _ h4) (X.2.2.1 _ h1) hd hR, X.2.2.1 _ h2⟩
    ⟨FP_blind, fun U hU hW => ⟨rfl, by rw [hU]; exact hF.1, va_K.moved hW.alike X.2.2.2.1⟩⟩ rfl hn hl hst (lv_room hW) hdg hf) hF kk
end FL
/-! what a pure picture of a method may be: nothing where the machine would throw -/
def grd {α : Type} (q : Prop) [Decidable q] (x : Option α) : Option α := if q then x else none
def bi {α : Type} (x : Option Int32) (k : Int32 → Option α) : Option α := match x with | none => none | some r => k r
def bk {α : Type} (x : Option Nat) (k : Nat → Option α) : Option α := match x with | none => none | some r => k r
def bv {α : Type} (x : Option Mem) (k : Mem → Option α) : Option α := match x with | none => none | some r => k r
def bm {α : Type} (x : Option (Int32 × Mem)) (k : Int32 → Mem → Option α) : Option α := match x with | none => none | some r => k r.1 r.2
theorem grd_some {α : Type} {q : Prop} [Decidable q] {x : Option α} {r : α} (h : grd q x = some r) : q ∧ x = some r := by
  unfold grd at h
  split at h
  · exact ⟨by assumption, h⟩
  · cases h
theorem bi_some {α : Type} {x : Option Int32} {k : Int32 → Option α} {r : α} (h : bi x k = some r) : ∃ z, x = some z ∧ k z = some r := by
  cases x with
  | none => cases h
  | some z => exact ⟨z, rfl, h⟩
theorem bk_some {α : Type} {x : Option Nat} {k : Nat → Option α} {r : α} (h : bk x k = some r) : ∃ z, x = some z ∧ k z = some r := by
  cases x with
  | none => cases h
  | some z => exact ⟨z, rfl, h⟩
theorem bv_some {α : Type} {x : Option Mem} {k : Mem → Option α} {r : α} (h : bv x k = some r) : ∃ z, x = some z ∧ k z = some r := by
  cases x with
  | none => cases h
  | some z => exact ⟨z, rfl, h⟩
theorem bm_some {α : Type} {x : Option (Int32 × Mem)} {k : Int32 → Mem → Option α} {r : α} (h : bm x k = some r) : ∃ z τ, x = some (z, τ) ∧ k z τ = some r := by
  cases x with
  | none => cases h
  | some z => exact ⟨z.1, z.2, rfl, h⟩
def FU : Nat := 1000
end
section
def tg0 : Nat → Nat := fun _ => 0
abbrev rsX1 : List (Option Nat) := [none, some 5, some 6, some 7, some 8]
abbrev rsX3 : List (Option Nat) := [some 13, some 14]
abbrev rsX4 : List (Option Nat) := [some 10, some 11, none]
abbrev rsX5 : List (Option Nat) := [none, some 2, none, none, none, none, none, none, none, none]
abbrev rsX6 : List (Option Nat) := [some 1, some 17, some 31, some 3, none, some 4, some 9, some 12, some 15, some 16, none]
abbrev rsX7 : List (Option Nat) := [some 1, some 2, none, some 3, none, some 4, none, none, some 5, some 6, none, none, none, none, none, none, some 7, some 8, some 9, none, none, some 10, some 11, some 12, none]
abbrev rsX0 (c : Nat) : List (Option Nat) := [some (c + 1), none, none]
abbrev rsX2 (h : Nat) : List (Option Nat) := [some (h + 1), some (h + 2), none, none]
def shXl : List Shp := [.inl (6, rsX6), .inl (5, rsX5), .inr (0, 110, tg0), .inr (3, 2, fun i => 45 + 14 * i), .inl (1, rsX1), .inr (0, 10, tg0), .inr (0, 10, tg0), .inr (0, 10, tg0), .inr (0, 10, tg0), .inl (4, rsX4), .inr (0, 6, tg0), .inr (0, 6, tg0), .inl (3, rsX3), .inr (0, 8, tg0), .inr (0, 8, tg0), .inr (0, 4, tg0), .inr (0, 6, tg0), .inl (0, rsX0 17), .inr (2, 4, fun i => 17 + 2 + 3 * i), .inl (2, rsX2 19), .inr (0, 6, tg0), .inr (0, 6, tg0), .inl (2, rsX2 22), .inr (0, 6, tg0), .inr (0, 6, tg0), .inl (2, rsX2 25), .inr (0, 6, tg0), .inr (0, 6, tg0), .inl (2, rsX2 28), .inr (0, 6, tg0), .inr (0, 6, tg0), .inl (0, rsX0 31), .inr (2, 4, fun i => 31 + 2 + 3 * i), .inl (2, rsX2 33), .inr (0, 6, tg0), .inr (0, 6, tg0), .inl (2, rsX2 36), .inr (0, 6, tg0), .inr (0, 6, tg0), .inl (2, rsX2 39), .inr (0, 6, tg0), .inr (0, 6, tg0), .inl (2, rsX2 42), .inr (0, 6, tg0), .inr (0, 6, tg0), .inl (0, rsX0 45), .inr (2, 4, fun i => 45 + 2 + 3 * i), .inl (2, rsX2 47), .inr (0, 6, tg0), .inr (0, 6, tg0), .inl (2, rsX2 50), .inr (0, 6, tg0), .inr (0, 6, tg0), .inl (2, rsX2 53), .inr (0, 6, tg0), .inr (0, 6, tg0), .inl (2, rsX2 56), .inr (0, 6, tg0), .inr (0, 6, tg0), .inl (0, rsX0 59), .inr (2, 4, fun i => 59 + 2 + 3 * i), .inl (2, rsX2 61), .inr (0, 6, tg0), .inr (0, 6, tg0), .inl (2, rsX2 64), .inr (0, 6, tg0), .inr (0, 6, tg0), .inl (2, rsX2 67), .inr (0, 6, tg0), .inr (0, 6, tg0), .inl (2, rsX2 70), .inr (0, 6, tg0), .inr (0, 6, tg0)]
def wX : Wd := (73, fun k => shXl.getD k (.inr (0, 0, tg0)))
def shRl : List Shp := [.inl (7, rsX7), .inr (0, 637, tg0), .inr (1, 2, tg0), .inr (0, 6, tg0), .inr (0, 110, tg0), .inr (0, 4, tg0), .inr (0, 24, tg0), .inr (0, 4, tg0), .inr (0, 24, tg0), .inr (0, 24, tg0), .inr (0, 8, tg0), .inr (0, 6, tg0), .inr (0, 6, tg0)]
def wR : Wd := (13, fun k => shRl.getD k (.inr (0, 0, tg0)))
theorem sh_X6 : SH wX 0 (.inl (6, rsX6)) := ⟨by decide, rfl⟩
theorem sh_X5 : SH wX 1 (.inl (5, rsX5)) := ⟨by decide, rfl⟩
theorem sh_X1 : SH wX 4 (.inl (1, rsX1)) := ⟨by decide, rfl⟩
theorem sh_X4 : SH wX 9 (.inl (4, rsX4)) := ⟨by decide, rfl⟩
theorem sh_X3 : SH wX 12 (.inl (3, rsX3)) := ⟨by decide, rfl⟩
theorem sh_X7 : SH wR 0 (.inl (7, rsX7)) := ⟨by decide, rfl⟩
theorem sh_a2 : SH wX 2 (.inr (0, 110, tg0)) := ⟨by decide, rfl⟩
theorem sh_a5 : SH wX 5 (.inr (0, 10, tg0)) := ⟨by decide, rfl⟩
theorem sh_a6 : SH wX 6 (.inr (0, 10, tg0)) := ⟨by decide, rfl⟩
theorem sh_a7 : SH wX 7 (.inr (0, 10, tg0)) := ⟨by decide, rfl⟩
theorem sh_a8 : SH wX 8 (.inr (0, 10, tg0)) := ⟨by decide, rfl⟩
theorem sh_a10 : SH wX 10 (.inr (0, 6, tg0)) := ⟨by decide, rfl⟩
theorem sh_a11 : SH wX 11 (.inr (0, 6, tg0)) := ⟨by decide, rfl⟩
theorem sh_a13 : SH wX 13 (.inr (0, 8, tg0)) := ⟨by decide, rfl⟩
theorem sh_a14 : SH wX 14 (.inr (0, 8, tg0)) := ⟨by decide, rfl⟩
theorem sh_a15 : SH wX 15 (.inr (0, 4, tg0)) := ⟨by decide, rfl⟩
theorem sh_a16 : SH wX 16 (.inr (0, 6, tg0)) := ⟨by decide, rfl⟩
theorem sh_a3 : SH wX 3 (.inr (3, 2, fun i => 45 + 14 * i)) := ⟨by decide, rfl⟩
theorem sh_r1 : SH wR 1 (.inr (0, 637, tg0)) := ⟨by decide, rfl⟩
theorem sh_r2 : SH wR 2 (.inr (1, 2, tg0)) := ⟨by decide, rfl⟩
theorem sh_r3 : SH wR 3 (.inr (0, 6, tg0)) := ⟨by decide, rfl⟩
theorem sh_r4 : SH wR 4 (.inr (0, 110, tg0)) := ⟨by decide, rfl⟩
theorem sh_r5 : SH wR 5 (.inr (0, 4, tg0)) := ⟨by decide, rfl⟩
theorem sh_r6 : SH wR 6 (.inr (0, 24, tg0)) := ⟨by decide, rfl⟩
theorem sh_r7 : SH wR 7 (.inr (0, 4, tg0)) := ⟨by decide, rfl⟩
theorem sh_r8 : SH wR 8 (.inr (0, 24, tg0)) := ⟨by decide, rfl⟩
theorem sh_r9 : SH wR 9 (.inr (0, 24, tg0)) := ⟨by decide, rfl⟩
theorem sh_r10 : SH wR 10 (.inr (0, 8, tg0)) := ⟨by decide, rfl⟩
theorem sh_r11 : SH wR 11 (.inr (0, 6, tg0)) := ⟨by decide, rfl⟩
theorem sh_r12 : SH wR 12 (.inr (0, 6, tg0)) := ⟨by decide, rfl⟩
def isC (c : Nat) : Prop := c = 17 ∨ c = 31 ∨ c = 45 ∨ c = 59
def isH (h : Nat) : Prop := ∃ c i, isC c ∧ i < 4 ∧ h = c + 2 + 3 * i
theorem isC_17 : isC 17 := Or.inl rfl
theorem isC_31 : isC 31 := Or.inr (Or.inl rfl)
theorem isC_im {i : Int32} (h : ¬ (i < 0 ∨ 2 ≤ i.toNatClampNeg)) : isC (45 + 14 * i.toNatClampNeg) := by
  have h2 : i.toNatClampNeg < 2 := Nat.not_le.mp fun q => h (Or.inr q)
  unfold isC
  omega
theorem isH_mk {c : Nat} (hc : isC c) {i : Int32} (h : ¬ (i < 0 ∨ 4 ≤ i.toNatClampNeg)) : isH (c + 2 + 3 * i.toNatClampNeg) := ⟨c, i.toNatClampNeg, hc, Nat.not_le.mp fun q => h (Or.inr q), rfl⟩
theorem sh_C {c : Nat} (h : isC c) : SH wX c (.inl (0, rsX0 c)) := by rcases h with rfl | rfl | rfl | rfl <;> exact ⟨by decide, rfl⟩
theorem sh_Ca {c : Nat} (h : isC c) : SH wX (c + 1) (.inr (2, 4, fun i => c + 2 + 3 * i)) := by rcases h with rfl | rfl | rfl | rfl <;> exact ⟨by decide, rfl⟩
theorem isH_cs {h : Nat} (q : isH h) {P : Nat → Prop} (k : P 19 ∧ P 22 ∧ P 25 ∧ P 28 ∧ P 33 ∧ P 36 ∧ P 39 ∧ P 42 ∧ P 47 ∧ P 50 ∧ P 53 ∧ P 56 ∧ P 61 ∧ P 64 ∧ P 67 ∧ P 70) : P h := by
  obtain ⟨k1, k2, k3, k4, k5, k6, k7, k8, k9, k10, k11, k12, k13, k14, k15, k16⟩ := k
  obtain ⟨c, i, hc, hi, rfl⟩ := q
  have hi : i = 0 ∨ i = 1 ∨ i = 2 ∨ i = 3 := by omega
  rcases hc with rfl | rfl | rfl | rfl <;> rcases hi with rfl | rfl | rfl | rfl <;> assumption
theorem sh_H {h : Nat} (q : isH h) : SH wX h (.inl (2, rsX2 h)) := isH_cs q (P := fun h => SH wX h (.inl (2, rsX2 h))) (by repeat' constructor)
theorem sh_He {h : Nat} (q : isH h) : SH wX (h + 1) (.inr (0, 6, tg0)) := isH_cs q (P := fun h => SH wX (h + 1) (.inr (0, 6, tg0))) (by repeat' constructor)
theorem sh_Hy {h : Nat} (q : isH h) : SH wX (h + 2) (.inr (0, 6, tg0)) := isH_cs q (P := fun h => SH wX (h + 2) (.inr (0, 6, tg0))) (by repeat' constructor)
theorem inT0 : ∀ x ∈ u_ws RX0 TX0 3, x ∈ tbl := by
  intro x hx
  obtain ⟨k, hk, rfl⟩ := List.mem_map.mp hx
  have hk := List.mem_range.mp hk
  match k, hk with
  | 0, _ => exact tb (i := 163) (by decide +kernel) (by decide +kernel)
  | 1, _ => exact tb (i := 165) (by decide +kernel) (by decide +kernel)
  | 2, _ => exact tb (i := 167) (by decide +kernel) (by decide +kernel)
theorem inT1 : ∀ x ∈ u_ws RX1 TX1 5, x ∈ tbl := by
  intro x hx
  obtain ⟨k, hk, rfl⟩ := List.mem_map.mp hx
  have hk := List.mem_range.mp hk
  match k, hk with
  | 0, _ => exact tb (i := 183) (by decide +kernel) (by decide +kernel)
  | 1, _ => exact tb (i := 185) (by decide +kernel) (by decide +kernel)
  | 2, _ => exact tb (i := 187) (by decide +kernel) (by decide +kernel)
  | 3, _ => exact tb (i := 189) (by decide +kernel) (by decide +kernel)
  | 4, _ => exact tb (i := 191) (by decide +kernel) (by decide +kernel)
theorem inT2 : ∀ x ∈ u_ws RX2 TX2 4, x ∈ tbl := by
  intro x hx
  obtain ⟨k, hk, rfl⟩ := List.mem_map.mp hx
  have hk := List.mem_range.mp hk
  match k, hk with
  | 0, _ => exact tb (i := 142) (by decide +kernel) (by decide +kernel)
  | 1, _ => exact tb (i := 144) (by decide +kernel) (by decide +kernel)
  | 2, _ => exact tb (i := 146) (by decide +kernel) (by decide +kernel)
  | 3, _ => exact tb (i := 148) (by decide +kernel) (by decide +kernel)
theorem inT3 : ∀ x ∈ u_ws RX3 TX3 2, x ∈ tbl := by
  intro x hx
  obtain ⟨k, hk, rfl⟩ := List.mem_map.mp hx
  have hk := List.mem_range.mp hk
  match k, hk with
  | 0, _ => exact tb (i := 222) (by decide +kernel) (by decide +kernel)
  | 1, _ => exact tb (i := 224) (by decide +kernel) (by decide +kernel)
theorem inT4 : ∀ x ∈ u_ws RX4 TX4 3, x ∈ tbl := by
  intro x hx
  obtain ⟨k, hk, rfl⟩ := List.mem_map.mp hx
  have hk := List.mem_range.mp hk
  match k, hk with
  | 0, _ => exact tb (i := 205) (by decide +kernel) (by decide +kernel)
  | 1, _ => exact tb (i := 207) (by decide +kernel) (by decide +kernel)
  | 2, _ => exact tb (i := 209) (by decide +kernel) (by decide +kernel)
theorem inT5 : ∀ x ∈ u_ws RX5 TX5 10, x ∈ tbl := by
  intro x hx
  obtain ⟨k, hk, rfl⟩ := List.mem_map.mp hx
  have hk := List.mem_range.mp hk
  match k, hk with
  | 0, _ => exact tb (i := 90) (by decide +kernel) (by decide +kernel)
  | 1, _ => exact tb (i := 92) (by decide +kernel) (by decide +kernel)
  | 2, _ => exact tb (i := 94) (by decide +kernel) (by decide +kernel)
  | 3, _ => exact tb (i := 96) (by decide +kernel) (by decide +kernel)
  | 4, _ => exact tb (i := 98) (by decide +kernel) (by decide +kernel)
  | 5, _ => exact tb (i := 100) (by decide +kernel) (by decide +kernel)
  | 6, _ => exact tb (i := 102) (by decide +kernel) (by decide +kernel)
  | 7, _ => exact tb (i := 104) (by decide +kernel) (by decide +kernel)
  | 8, _ => exact tb (i := 106) (by decide +kernel) (by decide +kernel)
  | 9, _ => exact tb (i := 108) (by decide +kernel) (by decide +kernel)
theorem inT6 : ∀ x ∈ u_ws RX6 TX6 11, x ∈ tbl := by
  intro x hx
  obtain ⟨k, hk, rfl⟩ := List.mem_map.mp hx
  have hk := List.mem_range.mp hk
  match k, hk with
  | 0, _ => exact tb (i := 238) (by decide +kernel) (by decide +kernel)
  | 1, _ => exact tb (i := 240) (by decide +kernel) (by decide +kernel)
  | 2, _ => exact tb (i := 242) (by decide +kernel) (by decide +kernel)
  | 3, _ => exact tb (i := 244) (by decide +kernel) (by decide +kernel)
  | 4, _ => exact tb (i := 246) (by decide +kernel) (by decide +kernel)
  | 5, _ => exact tb (i := 248) (by decide +kernel) (by decide +kernel)
  | 6, _ => exact tb (i := 250) (by decide +kernel) (by decide +kernel)
  | 7, _ => exact tb (i := 252) (by decide +kernel) (by decide +kernel)
  | 8, _ => exact tb (i := 254) (by decide +kernel) (by decide +kernel)
  | 9, _ => exact tb (i := 256) (by decide +kernel) (by decide +kernel)
  | 10, _ => exact tb (i := 258) (by decide +kernel) (by decide +kernel)
theorem inT7 : ∀ x ∈ u_ws RX7 TX7 25, x ∈ tbl := by
  intro x hx
  obtain ⟨k, hk, rfl⟩ := List.mem_map.mp hx
  have hk := List.mem_range.mp hk
  match k, hk with
  | 0, _ => exact tb (i := 659) (by decide +kernel) (by decide +kernel)
  | 1, _ => exact tb (i := 661) (by decide +kernel) (by decide +kernel)
  | 2, _ => exact tb (i := 663) (by decide +kernel) (by decide +kernel)
  | 3, _ => exact tb (i := 665) (by decide +kernel) (by decide +kernel)
  | 4, _ => exact tb (i := 667) (by decide +kernel) (by decide +kernel)
  | 5, _ => exact tb (i := 669) (by decide +kernel) (by decide +kernel)
  | 6, _ => exact tb (i := 671) (by decide +kernel) (by decide +kernel)
  | 7, _ => exact tb (i := 673) (by decide +kernel) (by decide +kernel)
  | 8, _ => exact tb (i := 675) (by decide +kernel) (by decide +kernel)
  | 9, _ => exact tb (i := 677) (by decide +kernel) (by decide +kernel)
  | 10, _ => exact tb (i := 679) (by decide +kernel) (by decide +kernel)
  | 11, _ => exact tb (i := 681) (by decide +kernel) (by decide +kernel)
  | 12, _ => exact tb (i := 683) (by decide +kernel) (by decide +kernel)
  | 13, _ => exact tb (i := 685) (by decide +kernel) (by decide +kernel)
  | 14, _ => exact tb (i := 687) (by decide +kernel) (by decide +kernel)
  | 15, _ => exact tb (i := 689) (by decide +kernel) (by decide +kernel)
  | 16, _ => exact tb (i := 691) (by decide +kernel) (by decide +kernel)
  | 17, _ => exact tb (i := 693) (by decide +kernel) (by decide +kernel)
  | 18, _ => exact tb (i := 695) (by decide +kernel) (by decide +kernel)
  | 19, _ => exact tb (i := 697) (by decide +kernel) (by decide +kernel)
  | 20, _ => exact tb (i := 699) (by decide +kernel) (by decide +kernel)
  | 21, _ => exact tb (i := 701) (by decide +kernel) (by decide +kernel)
  | 22, _ => exact tb (i := 703) (by decide +kernel) (by decide +kernel)
  | 23, _ => exact tb (i := 705) (by decide +kernel) (by decide +kernel)
  | 24, _ => exact tb (i := 707) (by decide +kernel) (by decide +kernel)
  | k + 25, hk => exact absurd hk (by omega)
section FR
variable {p : Program} {l : Launch} {e : Env} {R : Room} {s : State} {m : MethodId} {args : Array Value} {below : List Frame} {meth : Method} {c : Code} {H H0 : Heap} {locs : List Loc} {cells slots : Nat} {Q : State → Prop} {cc : ByteArray} {pc : Nat} {ls : Array Slot} {rest : List Value} {G : Gl} {σ : Mem} {k : Nat}
theorem wf_X5_15 : Cond.fieldLink RX5 15 (TX5 0).1 (TX5 0).2.1 (TX5 0).2.2.1 ∈ tbl := tb (i := 79) (by decide +kernel) (by decide +kernel)
theorem gf_X5_15 (X : CX p s m args RX5 G wX) (hb : c.code = cc) (hF : FH G wX H0 H locs σ) (hs : SH wX k (.inl (5, rsX5))) (hdg : decode cc pc = .ok (.getfield 15, 3)) (kk : W p l e R s m args below meth c H locs cells slots Q (F0 m (pc + 3) ls (.int (σ k 0) :: rest))) : W p l e R s m args below meth c H locs cells slots Q (F0 m pc ls (.ref (gA G k) :: rest)) := fl_geti X hb hF hs rfl (by decide) inT5 wf_X5_15 rfl hdg kk
theorem pf_X5_15 {v : Int32} (X : CX p s m args RX5 G wX) (hb : c.code = cc) (hF : FH G wX H0 H locs σ) (hs : SH wX k (.inl (5, rsX5))) (hdg : decode cc pc = .ok (.putfield 15, 3)) (kk : ∀ (H1 : Heap) (locs1 : List Loc), FH G wX H0 H1 locs1 (mup σ k 0 v) → W p l e R s m args below meth c H1 locs1 cells slots Q (F0 m (pc + 3) ls rest)) : W p l e R s m args below meth c H locs cells slots Q (F0 m pc ls (.int v :: .ref (gA G k) :: rest)) := fl_puti (ty := .int) X hb hF hs rfl (by decide) inT5 tyX5 tyX5_ok nmX5 wf_X5_15 rfl (by decide +kernel) rfl rfl rfl hdg kk
theorem wf_X6_69 : Cond.fieldLink RX6 69 (TX5 0).1 (TX5 0).2.1 (TX5 0).2.2.1 ∈ tbl := tb (i := 80) (by decide +kernel) (by decide +kernel)
theorem gf_X6_69 (X : CX p s m args RX6 G wX) (hb : c.code = cc) (hF : FH G wX H0 H locs σ) (hs : SH wX k (.inl (5, rsX5))) (hdg : decode cc pc = .ok (.getfield 69, 3)) (kk : W p l e R s m args below meth c H locs cells slots Q (F0 m (pc + 3) ls (.int (σ k 0) :: rest))) : W p l e R s m args below meth c H locs cells slots Q (F0 m pc ls (.ref (gA G k) :: rest)) := fl_geti X hb hF hs rfl (by decide) inT5 wf_X6_69 rfl hdg kk
theorem pf_X6_69 {v : Int32} (X : CX p s m args RX6 G wX) (hb : c.code = cc) (hF : FH G wX H0 H locs σ) (hs : SH wX k (.inl (5, rsX5))) (hdg : decode cc pc = .ok (.putfield 69, 3)) (kk : ∀ (H1 : Heap) (locs1 : List Loc), FH G wX H0 H1 locs1 (mup σ k 0 v) → W p l e R s m args below meth c H1 locs1 cells slots Q (F0 m (pc + 3) ls rest)) : W p l e R s m args below meth c H locs cells slots Q (F0 m pc ls (.int v :: .ref (gA G k) :: rest)) := fl_puti (ty := .int) X hb hF hs rfl (by decide) inT5 tyX5 tyX5_ok nmX5 wf_X6_69 rfl (by decide +kernel) rfl rfl rfl hdg kk
theorem wf_X5_9 : Cond.fieldLink RX5 9 (TX5 1).1 (TX5 1).2.1 (TX5 1).2.2.1 ∈ tbl := tb (i := 81) (by decide +kernel) (by decide +kernel)
theorem gf_X5_9 (X : CX p s m args RX5 G wX) (hb : c.code = cc) (hF : FH G wX H0 H locs σ) (hs : SH wX k (.inl (5, rsX5))) (hdg : decode cc pc = .ok (.getfield 9, 3)) (kk : W p l e R s m args below meth c H locs cells slots Q (F0 m (pc + 3) ls (.ref (gA G 2) :: rest))) : W p l e R s m args below meth c H locs cells slots Q (F0 m pc ls (.ref (gA G k) :: rest)) := fl_getr X hb hF hs rfl (by decide) inT5 wf_X5_9 rfl hdg kk
theorem wf_X5_24 : Cond.fieldLink RX5 24 (TX5 2).1 (TX5 2).2.1 (TX5 2).2.2.1 ∈ tbl := tb (i := 82) (by decide +kernel) (by decide +kernel)
theorem gf_X5_24 (X : CX p s m args RX5 G wX) (hb : c.code = cc) (hF : FH G wX H0 H locs σ) (hs : SH wX k (.inl (5, rsX5))) (hdg : decode cc pc = .ok (.getfield 24, 3)) (kk : W p l e R s m args below meth c H locs cells slots Q (F0 m (pc + 3) ls (.int (σ k 2) :: rest))) : W p l e R s m args below meth c H locs cells slots Q (F0 m pc ls (.ref (gA G k) :: rest)) := fl_geti X hb hF hs rfl (by decide) inT5 wf_X5_24 rfl hdg kk
theorem pf_X5_24 {v : Int32} (X : CX p s m args RX5 G wX) (hb : c.code = cc) (hF : FH G wX H0 H locs σ) (hs : SH wX k (.inl (5, rsX5))) (hdg : decode cc pc = .ok (.putfield 24, 3)) (kk : ∀ (H1 : Heap) (locs1 : List Loc), FH G wX H0 H1 locs1 (mup σ k 2 v) → W p l e R s m args below meth c H1 locs1 cells slots Q (F0 m (pc + 3) ls rest)) : W p l e R s m args below meth c H locs cells slots Q (F0 m pc ls (.int v :: .ref (gA G k) :: rest)) := fl_puti (ty := .int) X hb hF hs rfl (by decide) inT5 tyX5 tyX5_ok nmX5 wf_X5_24 rfl (by decide +kernel) rfl rfl rfl hdg kk
theorem wf_X5_40 : Cond.fieldLink RX5 40 (TX5 3).1 (TX5 3).2.1 (TX5 3).2.2.1 ∈ tbl := tb (i := 83) (by decide +kernel) (by decide +kernel)
theorem gf_X5_40 (X : CX p s m args RX5 G wX) (hb : c.code = cc) (hF : FH G wX H0 H locs σ) (hs : SH wX k (.inl (5, rsX5))) (hdg : decode cc pc = .ok (.getfield 40, 3)) (kk : W p l e R s m args below meth c H locs cells slots Q (F0 m (pc + 3) ls (.int (σ k 3) :: rest))) : W p l e R s m args below meth c H locs cells slots Q (F0 m pc ls (.ref (gA G k) :: rest)) := fl_geti X hb hF hs rfl (by decide) inT5 wf_X5_40 rfl hdg kk
theorem pf_X5_40 {v : Int32} (X : CX p s m args RX5 G wX) (hb : c.code = cc) (hF : FH G wX H0 H locs σ) (hs : SH wX k (.inl (5, rsX5))) (hdg : decode cc pc = .ok (.putfield 40, 3)) (kk : ∀ (H1 : Heap) (locs1 : List Loc), FH G wX H0 H1 locs1 (mup σ k 3 v) → W p l e R s m args below meth c H1 locs1 cells slots Q (F0 m (pc + 3) ls rest)) : W p l e R s m args below meth c H locs cells slots Q (F0 m pc ls (.int v :: .ref (gA G k) :: rest)) := fl_puti (ty := .int) X hb hF hs rfl (by decide) inT5 tyX5 tyX5_ok nmX5 wf_X5_40 rfl (by decide +kernel) rfl rfl rfl hdg kk
theorem wf_X5_47 : Cond.fieldLink RX5 47 (TX5 4).1 (TX5 4).2.1 (TX5 4).2.2.1 ∈ tbl := tb (i := 84) (by decide +kernel) (by decide +kernel)
theorem gf_X5_47 (X : CX p s m args RX5 G wX) (hb : c.code = cc) (hF : FH G wX H0 H locs σ) (hs : SH wX k (.inl (5, rsX5))) (hdg : decode cc pc = .ok (.getfield 47, 3)) (kk : W p l e R s m args below meth c H locs cells slots Q (F0 m (pc + 3) ls (.int (σ k 4) :: rest))) : W p l e R s m args below meth c H locs cells slots Q (F0 m pc ls (.ref (gA G k) :: rest)) := fl_geti X hb hF hs rfl (by decide) inT5 wf_X5_47 rfl hdg kk
theorem pf_X5_47 {v : Int32} (X : CX p s m args RX5 G wX) (hb : c.code = cc) (hF : FH G wX H0 H locs σ) (hs : SH wX k (.inl (5, rsX5))) (hdg : decode cc pc = .ok (.putfield 47, 3)) (kk : ∀ (H1 : Heap) (locs1 : List Loc), FH G wX H0 H1 locs1 (mup σ k 4 v) → W p l e R s m args below meth c H1 locs1 cells slots Q (F0 m (pc + 3) ls rest)) : W p l e R s m args below meth c H locs cells slots Q (F0 m pc ls (.int v :: .ref (gA G k) :: rest)) := fl_puti (ty := .int) X hb hF hs rfl (by decide) inT5 tyX5 tyX5_ok nmX5 wf_X5_47 rfl (by decide +kernel) rfl rfl rfl hdg kk
theorem wf_X5_69 : Cond.fieldLink RX5 69 (TX5 5).1 (TX5 5).2.1 (TX5 5).2.2.1 ∈ tbl := tb (i := 85) (by decide +kernel) (by decide +kernel)
theorem gf_X5_69 (X : CX p s m args RX5 G wX) (hb : c.code = cc) (hF : FH G wX H0 H locs σ) (hs : SH wX k (.inl (5, rsX5))) (hdg : decode cc pc = .ok (.getfield 69, 3)) (kk : W p l e R s m args below meth c H locs cells slots Q (F0 m (pc + 3) ls (.int (σ k 5) :: rest))) : W p l e R s m args below meth c H locs cells slots Q (F0 m pc ls (.ref (gA G k) :: rest)) := fl_geti X hb hF hs rfl (by decide) inT5 wf_X5_69 rfl hdg kk
theorem pf_X5_69 {v : Int32} (X : CX p s m args RX5 G wX) (hb : c.code = cc) (hF : FH G wX H0 H locs σ) (hs : SH wX k (.inl (5, rsX5))) (hdg : decode cc pc = .ok (.putfield 69, 3)) (kk : ∀ (H1 : Heap) (locs1 : List Loc), FH G wX H0 H1 locs1 (mup σ k 5 v) → W p l e R s m args below meth c H1 locs1 cells slots Q (F0 m (pc + 3) ls rest)) : W p l e R s m args below meth c H locs cells slots Q (F0 m pc ls (.int v :: .ref (gA G k) :: rest)) := fl_puti (ty := .int) X hb hF hs rfl (by decide) inT5 tyX5 tyX5_ok nmX5 wf_X5_69 rfl (by decide +kernel) rfl rfl rfl hdg kk
theorem wf_X5_27 : Cond.fieldLink RX5 27 (TX5 6).1 (TX5 6).2.1 (TX5 6).2.2.1 ∈ tbl := tb (i := 86) (by decide +kernel) (by decide +kernel)
theorem gf_X5_27 (X : CX p s m args RX5 G wX) (hb : c.code = cc) (hF : FH G wX H0 H locs σ) (hs : SH wX k (.inl (5, rsX5))) (hdg : decode cc pc = .ok (.getfield 27, 3)) (kk : W p l e R s m args below meth c H locs cells slots Q (F0 m (pc + 3) ls (.int (σ k 6) :: rest))) : W p l e R s m args below meth c H locs cells slots Q (F0 m pc ls (.ref (gA G k) :: rest)) := fl_geti X hb hF hs rfl (by decide) inT5 wf_X5_27 rfl hdg kk
theorem pf_X5_27 {v : Int32} (X : CX p s m args RX5 G wX) (hb : c.code = cc) (hF : FH G wX H0 H locs σ) (hs : SH wX k (.inl (5, rsX5))) (hdg : decode cc pc = .ok (.putfield 27, 3)) (kk : ∀ (H1 : Heap) (locs1 : List Loc), FH G wX H0 H1 locs1 (mup σ k 6 v) → W p l e R s m args below meth c H1 locs1 cells slots Q (F0 m (pc + 3) ls rest)) : W p l e R s m args below meth c H locs cells slots Q (F0 m pc ls (.int v :: .ref (gA G k) :: rest)) := fl_puti (ty := .int) X hb hF hs rfl (by decide) inT5 tyX5 tyX5_ok nmX5 wf_X5_27 rfl (by decide +kernel) rfl rfl rfl hdg kk
theorem wf_X5_30 : Cond.fieldLink RX5 30 (TX5 7).1 (TX5 7).2.1 (TX5 7).2.2.1 ∈ tbl := tb (i := 87) (by decide +kernel) (by decide +kernel)
theorem gf_X5_30 (X : CX p s m args RX5 G wX) (hb : c.code = cc) (hF : FH G wX H0 H locs σ) (hs : SH wX k (.inl (5, rsX5))) (hdg : decode cc pc = .ok (.getfield 30, 3)) (kk : W p l e R s m args below meth c H locs cells slots Q (F0 m (pc + 3) ls (.int (σ k 7) :: rest))) : W p l e R s m args below meth c H locs cells slots Q (F0 m pc ls (.ref (gA G k) :: rest)) := fl_geti X hb hF hs rfl (by decide) inT5 wf_X5_30 rfl hdg kk
theorem pf_X5_30 {v : Int32} (X : CX p s m args RX5 G wX) (hb : c.code = cc) (hF : FH G wX H0 H locs σ) (hs : SH wX k (.inl (5, rsX5))) (hdg : decode cc pc = .ok (.putfield 30, 3)) (kk : ∀ (H1 : Heap) (locs1 : List Loc), FH G wX H0 H1 locs1 (mup σ k 7 v) → W p l e R s m args below meth c H1 locs1 cells slots Q (F0 m (pc + 3) ls rest)) : W p l e R s m args below meth c H locs cells slots Q (F0 m pc ls (.int v :: .ref (gA G k) :: rest)) := fl_puti (ty := .int) X hb hF hs rfl (by decide) inT5 tyX5 tyX5_ok nmX5 wf_X5_30 rfl (by decide +kernel) rfl rfl rfl hdg kk
theorem wf_X5_80 : Cond.fieldLink RX5 80 (TX5 8).1 (TX5 8).2.1 (TX5 8).2.2.1 ∈ tbl := tb (i := 88) (by decide +kernel) (by decide +kernel)
theorem gf_X5_80 (X : CX p s m args RX5 G wX) (hb : c.code = cc) (hF : FH G wX H0 H locs σ) (hs : SH wX k (.inl (5, rsX5))) (hdg : decode cc pc = .ok (.getfield 80, 3)) (kk : W p l e R s m args below meth c H locs cells slots Q (F0 m (pc + 3) ls (.int (σ k 8) :: rest))) : W p l e R s m args below meth c H locs cells slots Q (F0 m pc ls (.ref (gA G k) :: rest)) := fl_geti X hb hF hs rfl (by decide) inT5 wf_X5_80 rfl hdg kk
theorem pf_X5_80 {v : Int32} (X : CX p s m args RX5 G wX) (hb : c.code = cc) (hF : FH G wX H0 H locs σ) (hs : SH wX k (.inl (5, rsX5))) (hdg : decode cc pc = .ok (.putfield 80, 3)) (kk : ∀ (H1 : Heap) (locs1 : List Loc), FH G wX H0 H1 locs1 (mup σ k 8 v) → W p l e R s m args below meth c H1 locs1 cells slots Q (F0 m (pc + 3) ls rest)) : W p l e R s m args below meth c H locs cells slots Q (F0 m pc ls (.int v :: .ref (gA G k) :: rest)) := fl_puti (ty := .int) X hb hF hs rfl (by decide) inT5 tyX5 tyX5_ok nmX5 wf_X5_80 rfl (by decide +kernel) rfl rfl rfl hdg kk
theorem wf_X5_33 : Cond.fieldLink RX5 33 (TX5 9).1 (TX5 9).2.1 (TX5 9).2.2.1 ∈ tbl := tb (i := 89) (by decide +kernel) (by decide +kernel)
theorem gf_X5_33 (X : CX p s m args RX5 G wX) (hb : c.code = cc) (hF : FH G wX H0 H locs σ) (hs : SH wX k (.inl (5, rsX5))) (hdg : decode cc pc = .ok (.getfield 33, 3)) (kk : W p l e R s m args below meth c H locs cells slots Q (F0 m (pc + 3) ls (.int (σ k 9) :: rest))) : W p l e R s m args below meth c H locs cells slots Q (F0 m pc ls (.ref (gA G k) :: rest)) := fl_geti X hb hF hs rfl (by decide) inT5 wf_X5_33 rfl hdg kk
theorem pf_X5_33 {v : Int32} (hv : narrow .boolean (.int v) = .int v) (hw : fits .boolean (.int v) = true) (X : CX p s m args RX5 G wX) (hb : c.code = cc) (hF : FH G wX H0 H locs σ) (hs : SH wX k (.inl (5, rsX5))) (hdg : decode cc pc = .ok (.putfield 33, 3)) (kk : ∀ (H1 : Heap) (locs1 : List Loc), FH G wX H0 H1 locs1 (mup σ k 9 v) → W p l e R s m args below meth c H1 locs1 cells slots Q (F0 m (pc + 3) ls rest)) : W p l e R s m args below meth c H locs cells slots Q (F0 m pc ls (.int v :: .ref (gA G k) :: rest)) := fl_puti (ty := .boolean) X hb hF hs rfl (by decide) inT5 tyX5 tyX5_ok nmX5 wf_X5_33 rfl (by decide +kernel) hv hw rfl hdg kk
theorem wf_X2_9 : Cond.fieldLink RX2 9 (TX2 0).1 (TX2 0).2.1 (TX2 0).2.2.1 ∈ tbl := tb (i := 125) (by decide +kernel) (by decide +kernel)
theorem gf_X2_9 (X : CX p s m args RX2 G wX) (hb : c.code = cc) (hF : FH G wX H0 H locs σ) (hs : SH wX k (.inl (2, rsX2 k))) (hdg : decode cc pc = .ok (.getfield 9, 3)) (kk : W p l e R s m args below meth c H locs cells slots Q (F0 m (pc + 3) ls (.ref (gA G (k + 1)) :: rest))) : W p l e R s m args below meth c H locs cells slots Q (F0 m pc ls (.ref (gA G k) :: rest)) := fl_getr X hb hF hs rfl (by decide) inT2 wf_X2_9 rfl hdg kk
theorem wf_X4_29 : Cond.fieldLink RX4 29 (TX2 0).1 (TX2 0).2.1 (TX2 0).2.2.1 ∈ tbl := tb (i := 126) (by decide +kernel) (by decide +kernel)
theorem gf_X4_29 (X : CX p s m args RX4 G wX) (hb : c.code = cc) (hF : FH G wX H0 H locs σ) (hs : SH wX k (.inl (2, rsX2 k))) (hdg : decode cc pc = .ok (.getfield 29, 3)) (kk : W p l e R s m args below meth c H locs cells slots Q (F0 m (pc + 3) ls (.ref (gA G (k + 1)) :: rest))) : W p l e R s m args below meth c H locs cells slots Q (F0 m pc ls (.ref (gA G k) :: rest)) := fl_getr X hb hF hs rfl (by decide) inT2 wf_X4_29 rfl hdg kk
theorem wf_X6_89 : Cond.fieldLink RX6 89 (TX2 0).1 (TX2 0).2.1 (TX2 0).2.2.1 ∈ tbl := tb (i := 127) (by decide +kernel) (by decide +kernel)
theorem gf_X6_89 (X : CX p s m args RX6 G wX) (hb : c.code = cc) (hF : FH G wX H0 H locs σ) (hs : SH wX k (.inl (2, rsX2 k))) (hdg : decode cc pc = .ok (.getfield 89, 3)) (kk : W p l e R s m args below meth c H locs cells slots Q (F0 m (pc + 3) ls (.ref (gA G (k + 1)) :: rest))) : W p l e R s m args below meth c H locs cells slots Q (F0 m pc ls (.ref (gA G k) :: rest)) := fl_getr X hb hF hs rfl (by decide) inT2 wf_X6_89 rfl hdg kk
theorem wf_X3_47 : Cond.fieldLink RX3 47 (TX2 0).1 (TX2 0).2.1 (TX2 0).2.2.1 ∈ tbl := tb (i := 128) (by decide +kernel) (by decide +kernel)
theorem gf_X3_47 (X : CX p s m args RX3 G wX) (hb : c.code = cc) (hF : FH G wX H0 H locs σ) (hs : SH wX k (.inl (2, rsX2 k))) (hdg : decode cc pc = .ok (.getfield 47, 3)) (kk : W p l e R s m args below meth c H locs cells slots Q (F0 m (pc + 3) ls (.ref (gA G (k + 1)) :: rest))) : W p l e R s m args below meth c H locs cells slots Q (F0 m pc ls (.ref (gA G k) :: rest)) := fl_getr X hb hF hs rfl (by decide) inT2 wf_X3_47 rfl hdg kk
theorem wf_X2_15 : Cond.fieldLink RX2 15 (TX2 1).1 (TX2 1).2.1 (TX2 1).2.2.1 ∈ tbl := tb (i := 129) (by decide +kernel) (by decide +kernel)
theorem gf_X2_15 (X : CX p s m args RX2 G wX) (hb : c.code = cc) (hF : FH G wX H0 H locs σ) (hs : SH wX k (.inl (2, rsX2 k))) (hdg : decode cc pc = .ok (.getfield 15, 3)) (kk : W p l e R s m args below meth c H locs cells slots Q (F0 m (pc + 3) ls (.ref (gA G (k + 2)) :: rest))) : W p l e R s m args below meth c H locs cells slots Q (F0 m pc ls (.ref (gA G k) :: rest)) := fl_getr X hb hF hs rfl (by decide) inT2 wf_X2_15 rfl hdg kk
theorem wf_X4_34 : Cond.fieldLink RX4 34 (TX2 1).1 (TX2 1).2.1 (TX2 1).2.2.1 ∈ tbl := tb (i := 130) (by decide +kernel) (by decide +kernel)
theorem gf_X4_34 (X : CX p s m args RX4 G wX) (hb : c.code = cc) (hF : FH G wX H0 H locs σ) (hs : SH wX k (.inl (2, rsX2 k))) (hdg : decode cc pc = .ok (.getfield 34, 3)) (kk : W p l e R s m args below meth c H locs cells slots Q (F0 m (pc + 3) ls (.ref (gA G (k + 2)) :: rest))) : W p l e R s m args below meth c H locs cells slots Q (F0 m pc ls (.ref (gA G k) :: rest)) := fl_getr X hb hF hs rfl (by decide) inT2 wf_X4_34 rfl hdg kk
theorem wf_X1_54 : Cond.fieldLink RX1 54 (TX2 1).1 (TX2 1).2.1 (TX2 1).2.2.1 ∈ tbl := tb (i := 131) (by decide +kernel) (by decide +kernel)
theorem gf_X1_54 (X : CX p s m args RX1 G wX) (hb : c.code = cc) (hF : FH G wX H0 H locs σ) (hs : SH wX k (.inl (2, rsX2 k))) (hdg : decode cc pc = .ok (.getfield 54, 3)) (kk : W p l e R s m args below meth c H locs cells slots Q (F0 m (pc + 3) ls (.ref (gA G (k + 2)) :: rest))) : W p l e R s m args below meth c H locs cells slots Q (F0 m pc ls (.ref (gA G k) :: rest)) := fl_getr X hb hF hs rfl (by decide) inT2 wf_X1_54 rfl hdg kk
theorem wf_X3_44 : Cond.fieldLink RX3 44 (TX2 1).1 (TX2 1).2.1 (TX2 1).2.2.1 ∈ tbl := tb (i := 132) (by decide +kernel) (by decide +kernel)
theorem gf_X3_44 (X : CX p s m args RX3 G wX) (hb : c.code = cc) (hF : FH G wX H0 H locs σ) (hs : SH wX k (.inl (2, rsX2 k))) (hdg : decode cc pc = .ok (.getfield 44, 3)) (kk : W p l e R s m args below meth c H locs cells slots Q (F0 m (pc + 3) ls (.ref (gA G (k + 2)) :: rest))) : W p l e R s m args below meth c H locs cells slots Q (F0 m pc ls (.ref (gA G k) :: rest)) := fl_getr X hb hF hs rfl (by decide) inT2 wf_X3_44 rfl hdg kk
theorem wf_X6_94 : Cond.fieldLink RX6 94 (TX2 1).1 (TX2 1).2.1 (TX2 1).2.2.1 ∈ tbl := tb (i := 133) (by decide +kernel) (by decide +kernel)
theorem gf_X6_94 (X : CX p s m args RX6 G wX) (hb : c.code = cc) (hF : FH G wX H0 H locs σ) (hs : SH wX k (.inl (2, rsX2 k))) (hdg : decode cc pc = .ok (.getfield 94, 3)) (kk : W p l e R s m args below meth c H locs cells slots Q (F0 m (pc + 3) ls (.ref (gA G (k + 2)) :: rest))) : W p l e R s m args below meth c H locs cells slots Q (F0 m pc ls (.ref (gA G k) :: rest)) := fl_getr X hb hF hs rfl (by decide) inT2 wf_X6_94 rfl hdg kk
theorem wf_X2_18 : Cond.fieldLink RX2 18 (TX2 2).1 (TX2 2).2.1 (TX2 2).2.2.1 ∈ tbl := tb (i := 134) (by decide +kernel) (by decide +kernel)
theorem gf_X2_18 (X : CX p s m args RX2 G wX) (hb : c.code = cc) (hF : FH G wX H0 H locs σ) (hs : SH wX k (.inl (2, rsX2 k))) (hdg : decode cc pc = .ok (.getfield 18, 3)) (kk : W p l e R s m args below meth c H locs cells slots Q (F0 m (pc + 3) ls (.int (σ k 2) :: rest))) : W p l e R s m args below meth c H locs cells slots Q (F0 m pc ls (.ref (gA G k) :: rest)) := fl_geti X hb hF hs rfl (by decide) inT2 wf_X2_18 rfl hdg kk
theorem pf_X2_18 {v : Int32} (X : CX p s m args RX2 G wX) (hb : c.code = cc) (hF : FH G wX H0 H locs σ) (hs : SH wX k (.inl (2, rsX2 k))) (hdg : decode cc pc = .ok (.putfield 18, 3)) (kk : ∀ (H1 : Heap) (locs1 : List Loc), FH G wX H0 H1 locs1 (mup σ k 2 v) → W p l e R s m args below meth c H1 locs1 cells slots Q (F0 m (pc + 3) ls rest)) : W p l e R s m args below meth c H locs cells slots Q (F0 m pc ls (.int v :: .ref (gA G k) :: rest)) := fl_puti (ty := .int) X hb hF hs rfl (by decide) inT2 tyX2 tyX2_ok nmX2 wf_X2_18 rfl (by decide +kernel) rfl rfl rfl hdg kk
theorem wf_X4_22 : Cond.fieldLink RX4 22 (TX2 2).1 (TX2 2).2.1 (TX2 2).2.2.1 ∈ tbl := tb (i := 135) (by decide +kernel) (by decide +kernel)
theorem gf_X4_22 (X : CX p s m args RX4 G wX) (hb : c.code = cc) (hF : FH G wX H0 H locs σ) (hs : SH wX k (.inl (2, rsX2 k))) (hdg : decode cc pc = .ok (.getfield 22, 3)) (kk : W p l e R s m args below meth c H locs cells slots Q (F0 m (pc + 3) ls (.int (σ k 2) :: rest))) : W p l e R s m args below meth c H locs cells slots Q (F0 m pc ls (.ref (gA G k) :: rest)) := fl_geti X hb hF hs rfl (by decide) inT2 wf_X4_22 rfl hdg kk
theorem pf_X4_22 {v : Int32} (X : CX p s m args RX4 G wX) (hb : c.code = cc) (hF : FH G wX H0 H locs σ) (hs : SH wX k (.inl (2, rsX2 k))) (hdg : decode cc pc = .ok (.putfield 22, 3)) (kk : ∀ (H1 : Heap) (locs1 : List Loc), FH G wX H0 H1 locs1 (mup σ k 2 v) → W p l e R s m args below meth c H1 locs1 cells slots Q (F0 m (pc + 3) ls rest)) : W p l e R s m args below meth c H locs cells slots Q (F0 m pc ls (.int v :: .ref (gA G k) :: rest)) := fl_puti (ty := .int) X hb hF hs rfl (by decide) inT2 tyX2 tyX2_ok nmX2 wf_X4_22 rfl (by decide +kernel) rfl rfl rfl hdg kk
theorem wf_X3_43 : Cond.fieldLink RX3 43 (TX2 2).1 (TX2 2).2.1 (TX2 2).2.2.1 ∈ tbl := tb (i := 136) (by decide +kernel) (by decide +kernel)
theorem gf_X3_43 (X : CX p s m args RX3 G wX) (hb : c.code = cc) (hF : FH G wX H0 H locs σ) (hs : SH wX k (.inl (2, rsX2 k))) (hdg : decode cc pc = .ok (.getfield 43, 3)) (kk : W p l e R s m args below meth c H locs cells slots Q (F0 m (pc + 3) ls (.int (σ k 2) :: rest))) : W p l e R s m args below meth c H locs cells slots Q (F0 m pc ls (.ref (gA G k) :: rest)) := fl_geti X hb hF hs rfl (by decide) inT2 wf_X3_43 rfl hdg kk
theorem pf_X3_43 {v : Int32} (X : CX p s m args RX3 G wX) (hb : c.code = cc) (hF : FH G wX H0 H locs σ) (hs : SH wX k (.inl (2, rsX2 k))) (hdg : decode cc pc = .ok (.putfield 43, 3)) (kk : ∀ (H1 : Heap) (locs1 : List Loc), FH G wX H0 H1 locs1 (mup σ k 2 v) → W p l e R s m args below meth c H1 locs1 cells slots Q (F0 m (pc + 3) ls rest)) : W p l e R s m args below meth c H locs cells slots Q (F0 m pc ls (.int v :: .ref (gA G k) :: rest)) := fl_puti (ty := .int) X hb hF hs rfl (by decide) inT2 tyX2 tyX2_ok nmX2 wf_X3_43 rfl (by decide +kernel) rfl rfl rfl hdg kk
theorem wf_X0_36 : Cond.fieldLink RX0 36 (TX2 2).1 (TX2 2).2.1 (TX2 2).2.2.1 ∈ tbl := tb (i := 137) (by decide +kernel) (by decide +kernel)
theorem gf_X0_36 (X : CX p s m args RX0 G wX) (hb : c.code = cc) (hF : FH G wX H0 H locs σ) (hs : SH wX k (.inl (2, rsX2 k))) (hdg : decode cc pc = .ok (.getfield 36, 3)) (kk : W p l e R s m args below meth c H locs cells slots Q (F0 m (pc + 3) ls (.int (σ k 2) :: rest))) : W p l e R s m args below meth c H locs cells slots Q (F0 m pc ls (.ref (gA G k) :: rest)) := fl_geti X hb hF hs rfl (by decide) inT2 wf_X0_36 rfl hdg kk
theorem pf_X0_36 {v : Int32} (X : CX p s m args RX0 G wX) (hb : c.code = cc) (hF : FH G wX H0 H locs σ) (hs : SH wX k (.inl (2, rsX2 k))) (hdg : decode cc pc = .ok (.putfield 36, 3)) (kk : ∀ (H1 : Heap) (locs1 : List Loc), FH G wX H0 H1 locs1 (mup σ k 2 v) → W p l e R s m args below meth c H1 locs1 cells slots Q (F0 m (pc + 3) ls rest)) : W p l e R s m args below meth c H locs cells slots Q (F0 m pc ls (.int v :: .ref (gA G k) :: rest)) := fl_puti (ty := .int) X hb hF hs rfl (by decide) inT2 tyX2 tyX2_ok nmX2 wf_X0_36 rfl (by decide +kernel) rfl rfl rfl hdg kk
theorem wf_X5_83 : Cond.fieldLink RX5 83 (TX2 2).1 (TX2 2).2.1 (TX2 2).2.2.1 ∈ tbl := tb (i := 138) (by decide +kernel) (by decide +kernel)
theorem gf_X5_83 (X : CX p s m args RX5 G wX) (hb : c.code = cc) (hF : FH G wX H0 H locs σ) (hs : SH wX k (.inl (2, rsX2 k))) (hdg : decode cc pc = .ok (.getfield 83, 3)) (kk : W p l e R s m args below meth c H locs cells slots Q (F0 m (pc + 3) ls (.int (σ k 2) :: rest))) : W p l e R s m args below meth c H locs cells slots Q (F0 m pc ls (.ref (gA G k) :: rest)) := fl_geti X hb hF hs rfl (by decide) inT2 wf_X5_83 rfl hdg kk
theorem pf_X5_83 {v : Int32} (X : CX p s m args RX5 G wX) (hb : c.code = cc) (hF : FH G wX H0 H locs σ) (hs : SH wX k (.inl (2, rsX2 k))) (hdg : decode cc pc = .ok (.putfield 83, 3)) (kk : ∀ (H1 : Heap) (locs1 : List Loc), FH G wX H0 H1 locs1 (mup σ k 2 v) → W p l e R s m args below meth c H1 locs1 cells slots Q (F0 m (pc + 3) ls rest)) : W p l e R s m args below meth c H locs cells slots Q (F0 m pc ls (.int v :: .ref (gA G k) :: rest)) := fl_puti (ty := .int) X hb hF hs rfl (by decide) inT2 tyX2 tyX2_ok nmX2 wf_X5_83 rfl (by decide +kernel) rfl rfl rfl hdg kk
theorem wf_X6_191 : Cond.fieldLink RX6 191 (TX2 2).1 (TX2 2).2.1 (TX2 2).2.2.1 ∈ tbl := tb (i := 139) (by decide +kernel) (by decide +kernel)
theorem gf_X6_191 (X : CX p s m args RX6 G wX) (hb : c.code = cc) (hF : FH G wX H0 H locs σ) (hs : SH wX k (.inl (2, rsX2 k))) (hdg : decode cc pc = .ok (.getfield 191, 3)) (kk : W p l e R s m args below meth c H locs cells slots Q (F0 m (pc + 3) ls (.int (σ k 2) :: rest))) : W p l e R s m args below meth c H locs cells slots Q (F0 m pc ls (.ref (gA G k) :: rest)) := fl_geti X hb hF hs rfl (by decide) inT2 wf_X6_191 rfl hdg kk
theorem pf_X6_191 {v : Int32} (X : CX p s m args RX6 G wX) (hb : c.code = cc) (hF : FH G wX H0 H locs σ) (hs : SH wX k (.inl (2, rsX2 k))) (hdg : decode cc pc = .ok (.putfield 191, 3)) (kk : ∀ (H1 : Heap) (locs1 : List Loc), FH G wX H0 H1 locs1 (mup σ k 2 v) → W p l e R s m args below meth c H1 locs1 cells slots Q (F0 m (pc + 3) ls rest)) : W p l e R s m args below meth c H locs cells slots Q (F0 m pc ls (.int v :: .ref (gA G k) :: rest)) := fl_puti (ty := .int) X hb hF hs rfl (by decide) inT2 tyX2 tyX2_ok nmX2 wf_X6_191 rfl (by decide +kernel) rfl rfl rfl hdg kk
theorem wf_X2_22 : Cond.fieldLink RX2 22 (TX2 3).1 (TX2 3).2.1 (TX2 3).2.2.1 ∈ tbl := tb (i := 140) (by decide +kernel) (by decide +kernel)
theorem gf_X2_22 (X : CX p s m args RX2 G wX) (hb : c.code = cc) (hF : FH G wX H0 H locs σ) (hs : SH wX k (.inl (2, rsX2 k))) (hdg : decode cc pc = .ok (.getfield 22, 3)) (kk : W p l e R s m args below meth c H locs cells slots Q (F0 m (pc + 3) ls (.int (σ k 3) :: rest))) : W p l e R s m args below meth c H locs cells slots Q (F0 m pc ls (.ref (gA G k) :: rest)) := fl_geti X hb hF hs rfl (by decide) inT2 wf_X2_22 rfl hdg kk
theorem pf_X2_22 {v : Int32} (X : CX p s m args RX2 G wX) (hb : c.code = cc) (hF : FH G wX H0 H locs σ) (hs : SH wX k (.inl (2, rsX2 k))) (hdg : decode cc pc = .ok (.putfield 22, 3)) (kk : ∀ (H1 : Heap) (locs1 : List Loc), FH G wX H0 H1 locs1 (mup σ k 3 v) → W p l e R s m args below meth c H1 locs1 cells slots Q (F0 m (pc + 3) ls rest)) : W p l e R s m args below meth c H locs cells slots Q (F0 m pc ls (.int v :: .ref (gA G k) :: rest)) := fl_puti (ty := .int) X hb hF hs rfl (by decide) inT2 tyX2 tyX2_ok nmX2 wf_X2_22 rfl (by decide +kernel) rfl rfl rfl hdg kk
theorem wf_X3_31 : Cond.fieldLink RX3 31 (TX2 3).1 (TX2 3).2.1 (TX2 3).2.2.1 ∈ tbl := tb (i := 141) (by decide +kernel) (by decide +kernel)
theorem gf_X3_31 (X : CX p s m args RX3 G wX) (hb : c.code = cc) (hF : FH G wX H0 H locs σ) (hs : SH wX k (.inl (2, rsX2 k))) (hdg : decode cc pc = .ok (.getfield 31, 3)) (kk : W p l e R s m args below meth c H locs cells slots Q (F0 m (pc + 3) ls (.int (σ k 3) :: rest))) : W p l e R s m args below meth c H locs cells slots Q (F0 m pc ls (.ref (gA G k) :: rest)) := fl_geti X hb hF hs rfl (by decide) inT2 wf_X3_31 rfl hdg kk
theorem pf_X3_31 {v : Int32} (X : CX p s m args RX3 G wX) (hb : c.code = cc) (hF : FH G wX H0 H locs σ) (hs : SH wX k (.inl (2, rsX2 k))) (hdg : decode cc pc = .ok (.putfield 31, 3)) (kk : ∀ (H1 : Heap) (locs1 : List Loc), FH G wX H0 H1 locs1 (mup σ k 3 v) → W p l e R s m args below meth c H1 locs1 cells slots Q (F0 m (pc + 3) ls rest)) : W p l e R s m args below meth c H locs cells slots Q (F0 m pc ls (.int v :: .ref (gA G k) :: rest)) := fl_puti (ty := .int) X hb hF hs rfl (by decide) inT2 tyX2 tyX2_ok nmX2 wf_X3_31 rfl (by decide +kernel) rfl rfl rfl hdg kk
theorem wf_X0_11 : Cond.fieldLink RX0 11 (TX0 0).1 (TX0 0).2.1 (TX0 0).2.2.1 ∈ tbl := tb (i := 151) (by decide +kernel) (by decide +kernel)
theorem gf_X0_11 (X : CX p s m args RX0 G wX) (hb : c.code = cc) (hF : FH G wX H0 H locs σ) (hs : SH wX k (.inl (0, rsX0 k))) (hdg : decode cc pc = .ok (.getfield 11, 3)) (kk : W p l e R s m args below meth c H locs cells slots Q (F0 m (pc + 3) ls (.ref (gA G (k + 1)) :: rest))) : W p l e R s m args below meth c H locs cells slots Q (F0 m pc ls (.ref (gA G k) :: rest)) := fl_getr X hb hF hs rfl (by decide) inT0 wf_X0_11 rfl hdg kk
theorem wf_X3_27 : Cond.fieldLink RX3 27 (TX0 0).1 (TX0 0).2.1 (TX0 0).2.2.1 ∈ tbl := tb (i := 152) (by decide +kernel) (by decide +kernel)
theorem gf_X3_27 (X : CX p s m args RX3 G wX) (hb : c.code = cc) (hF : FH G wX H0 H locs σ) (hs : SH wX k (.inl (0, rsX0 k))) (hdg : decode cc pc = .ok (.getfield 27, 3)) (kk : W p l e R s m args below meth c H locs cells slots Q (F0 m (pc + 3) ls (.ref (gA G (k + 1)) :: rest))) : W p l e R s m args below meth c H locs cells slots Q (F0 m pc ls (.ref (gA G k) :: rest)) := fl_getr X hb hF hs rfl (by decide) inT0 wf_X3_27 rfl hdg kk
theorem wf_X1_40 : Cond.fieldLink RX1 40 (TX0 0).1 (TX0 0).2.1 (TX0 0).2.2.1 ∈ tbl := tb (i := 153) (by decide +kernel) (by decide +kernel)
theorem gf_X1_40 (X : CX p s m args RX1 G wX) (hb : c.code = cc) (hF : FH G wX H0 H locs σ) (hs : SH wX k (.inl (0, rsX0 k))) (hdg : decode cc pc = .ok (.getfield 40, 3)) (kk : W p l e R s m args below meth c H locs cells slots Q (F0 m (pc + 3) ls (.ref (gA G (k + 1)) :: rest))) : W p l e R s m args below meth c H locs cells slots Q (F0 m pc ls (.ref (gA G k) :: rest)) := fl_getr X hb hF hs rfl (by decide) inT0 wf_X1_40 rfl hdg kk
theorem wf_X6_85 : Cond.fieldLink RX6 85 (TX0 0).1 (TX0 0).2.1 (TX0 0).2.2.1 ∈ tbl := tb (i := 154) (by decide +kernel) (by decide +kernel)
theorem gf_X6_85 (X : CX p s m args RX6 G wX) (hb : c.code = cc) (hF : FH G wX H0 H locs σ) (hs : SH wX k (.inl (0, rsX0 k))) (hdg : decode cc pc = .ok (.getfield 85, 3)) (kk : W p l e R s m args below meth c H locs cells slots Q (F0 m (pc + 3) ls (.ref (gA G (k + 1)) :: rest))) : W p l e R s m args below meth c H locs cells slots Q (F0 m pc ls (.ref (gA G k) :: rest)) := fl_getr X hb hF hs rfl (by decide) inT0 wf_X6_85 rfl hdg kk
theorem wf_X0_18 : Cond.fieldLink RX0 18 (TX0 1).1 (TX0 1).2.1 (TX0 1).2.2.1 ∈ tbl := tb (i := 155) (by decide +kernel) (by decide +kernel)
theorem gf_X0_18 (X : CX p s m args RX0 G wX) (hb : c.code = cc) (hF : FH G wX H0 H locs σ) (hs : SH wX k (.inl (0, rsX0 k))) (hdg : decode cc pc = .ok (.getfield 18, 3)) (kk : W p l e R s m args below meth c H locs cells slots Q (F0 m (pc + 3) ls (.int (σ k 1) :: rest))) : W p l e R s m args below meth c H locs cells slots Q (F0 m pc ls (.ref (gA G k) :: rest)) := fl_geti X hb hF hs rfl (by decide) inT0 wf_X0_18 rfl hdg kk
theorem pf_X0_18 {v : Int32} (X : CX p s m args RX0 G wX) (hb : c.code = cc) (hF : FH G wX H0 H locs σ) (hs : SH wX k (.inl (0, rsX0 k))) (hdg : decode cc pc = .ok (.putfield 18, 3)) (kk : ∀ (H1 : Heap) (locs1 : List Loc), FH G wX H0 H1 locs1 (mup σ k 1 v) → W p l e R s m args below meth c H1 locs1 cells slots Q (F0 m (pc + 3) ls rest)) : W p l e R s m args below meth c H locs cells slots Q (F0 m pc ls (.int v :: .ref (gA G k) :: rest)) := fl_puti (ty := .int) X hb hF hs rfl (by decide) inT0 tyX0 tyX0_ok nmX0 wf_X0_18 rfl (by decide +kernel) rfl rfl rfl hdg kk
theorem wf_X3_21 : Cond.fieldLink RX3 21 (TX0 1).1 (TX0 1).2.1 (TX0 1).2.2.1 ∈ tbl := tb (i := 156) (by decide +kernel) (by decide +kernel)
theorem gf_X3_21 (X : CX p s m args RX3 G wX) (hb : c.code = cc) (hF : FH G wX H0 H locs σ) (hs : SH wX k (.inl (0, rsX0 k))) (hdg : decode cc pc = .ok (.getfield 21, 3)) (kk : W p l e R s m args below meth c H locs cells slots Q (F0 m (pc + 3) ls (.int (σ k 1) :: rest))) : W p l e R s m args below meth c H locs cells slots Q (F0 m pc ls (.ref (gA G k) :: rest)) := fl_geti X hb hF hs rfl (by decide) inT0 wf_X3_21 rfl hdg kk
theorem pf_X3_21 {v : Int32} (X : CX p s m args RX3 G wX) (hb : c.code = cc) (hF : FH G wX H0 H locs σ) (hs : SH wX k (.inl (0, rsX0 k))) (hdg : decode cc pc = .ok (.putfield 21, 3)) (kk : ∀ (H1 : Heap) (locs1 : List Loc), FH G wX H0 H1 locs1 (mup σ k 1 v) → W p l e R s m args below meth c H1 locs1 cells slots Q (F0 m (pc + 3) ls rest)) : W p l e R s m args below meth c H locs cells slots Q (F0 m pc ls (.int v :: .ref (gA G k) :: rest)) := fl_puti (ty := .int) X hb hF hs rfl (by decide) inT0 tyX0 tyX0_ok nmX0 wf_X3_21 rfl (by decide +kernel) rfl rfl rfl hdg kk
theorem wf_X5_75 : Cond.fieldLink RX5 75 (TX0 1).1 (TX0 1).2.1 (TX0 1).2.2.1 ∈ tbl := tb (i := 157) (by decide +kernel) (by decide +kernel)
theorem gf_X5_75 (X : CX p s m args RX5 G wX) (hb : c.code = cc) (hF : FH G wX H0 H locs σ) (hs : SH wX k (.inl (0, rsX0 k))) (hdg : decode cc pc = .ok (.getfield 75, 3)) (kk : W p l e R s m args below meth c H locs cells slots Q (F0 m (pc + 3) ls (.int (σ k 1) :: rest))) : W p l e R s m args below meth c H locs cells slots Q (F0 m pc ls (.ref (gA G k) :: rest)) := fl_geti X hb hF hs rfl (by decide) inT0 wf_X5_75 rfl hdg kk
theorem pf_X5_75 {v : Int32} (X : CX p s m args RX5 G wX) (hb : c.code = cc) (hF : FH G wX H0 H locs σ) (hs : SH wX k (.inl (0, rsX0 k))) (hdg : decode cc pc = .ok (.putfield 75, 3)) (kk : ∀ (H1 : Heap) (locs1 : List Loc), FH G wX H0 H1 locs1 (mup σ k 1 v) → W p l e R s m args below meth c H1 locs1 cells slots Q (F0 m (pc + 3) ls rest)) : W p l e R s m args below meth c H locs cells slots Q (F0 m pc ls (.int v :: .ref (gA G k) :: rest)) := fl_puti (ty := .int) X hb hF hs rfl (by decide) inT0 tyX0 tyX0_ok nmX0 wf_X5_75 rfl (by decide +kernel) rfl rfl rfl hdg kk
theorem wf_X6_153 : Cond.fieldLink RX6 153 (TX0 1).1 (TX0 1).2.1 (TX0 1).2.2.1 ∈ tbl := tb (i := 158) (by decide +kernel) (by decide +kernel)
theorem gf_X6_153 (X : CX p s m args RX6 G wX) (hb : c.code = cc) (hF : FH G wX H0 H locs σ) (hs : SH wX k (.inl (0, rsX0 k))) (hdg : decode cc pc = .ok (.getfield 153, 3)) (kk : W p l e R s m args below meth c H locs cells slots Q (F0 m (pc + 3) ls (.int (σ k 1) :: rest))) : W p l e R s m args below meth c H locs cells slots Q (F0 m pc ls (.ref (gA G k) :: rest)) := fl_geti X hb hF hs rfl (by decide) inT0 wf_X6_153 rfl hdg kk
theorem pf_X6_153 {v : Int32} (X : CX p s m args RX6 G wX) (hb : c.code = cc) (hF : FH G wX H0 H locs σ) (hs : SH wX k (.inl (0, rsX0 k))) (hdg : decode cc pc = .ok (.putfield 153, 3)) (kk : ∀ (H1 : Heap) (locs1 : List Loc), FH G wX H0 H1 locs1 (mup σ k 1 v) → W p l e R s m args below meth c H1 locs1 cells slots Q (F0 m (pc + 3) ls rest)) : W p l e R s m args below meth c H locs cells slots Q (F0 m pc ls (.int v :: .ref (gA G k) :: rest)) := fl_puti (ty := .int) X hb hF hs rfl (by decide) inT0 tyX0 tyX0_ok nmX0 wf_X6_153 rfl (by decide +kernel) rfl rfl rfl hdg kk
theorem wf_X0_22 : Cond.fieldLink RX0 22 (TX0 2).1 (TX0 2).2.1 (TX0 2).2.2.1 ∈ tbl := tb (i := 159) (by decide +kernel) (by decide +kernel)
theorem gf_X0_22 (X : CX p s m args RX0 G wX) (hb : c.code = cc) (hF : FH G wX H0 H locs σ) (hs : SH wX k (.inl (0, rsX0 k))) (hdg : decode cc pc = .ok (.getfield 22, 3)) (kk : W p l e R s m args below meth c H locs cells slots Q (F0 m (pc + 3) ls (.int (σ k 2) :: rest))) : W p l e R s m args below meth c H locs cells slots Q (F0 m pc ls (.ref (gA G k) :: rest)) := fl_geti X hb hF hs rfl (by decide) inT0 wf_X0_22 rfl hdg kk
theorem pf_X0_22 {v : Int32} (X : CX p s m args RX0 G wX) (hb : c.code = cc) (hF : FH G wX H0 H locs σ) (hs : SH wX k (.inl (0, rsX0 k))) (hdg : decode cc pc = .ok (.putfield 22, 3)) (kk : ∀ (H1 : Heap) (locs1 : List Loc), FH G wX H0 H1 locs1 (mup σ k 2 v) → W p l e R s m args below meth c H1 locs1 cells slots Q (F0 m (pc + 3) ls rest)) : W p l e R s m args below meth c H locs cells slots Q (F0 m pc ls (.int v :: .ref (gA G k) :: rest)) := fl_puti (ty := .int) X hb hF hs rfl (by decide) inT0 tyX0 tyX0_ok nmX0 wf_X0_22 rfl (by decide +kernel) rfl rfl rfl hdg kk
theorem wf_X1_31 : Cond.fieldLink RX1 31 (TX0 2).1 (TX0 2).2.1 (TX0 2).2.2.1 ∈ tbl := tb (i := 160) (by decide +kernel) (by decide +kernel)
theorem gf_X1_31 (X : CX p s m args RX1 G wX) (hb : c.code = cc) (hF : FH G wX H0 H locs σ) (hs : SH wX k (.inl (0, rsX0 k))) (hdg : decode cc pc = .ok (.getfield 31, 3)) (kk : W p l e R s m args below meth c H locs cells slots Q (F0 m (pc + 3) ls (.int (σ k 2) :: rest))) : W p l e R s m args below meth c H locs cells slots Q (F0 m pc ls (.ref (gA G k) :: rest)) := fl_geti X hb hF hs rfl (by decide) inT0 wf_X1_31 rfl hdg kk
theorem pf_X1_31 {v : Int32} (X : CX p s m args RX1 G wX) (hb : c.code = cc) (hF : FH G wX H0 H locs σ) (hs : SH wX k (.inl (0, rsX0 k))) (hdg : decode cc pc = .ok (.putfield 31, 3)) (kk : ∀ (H1 : Heap) (locs1 : List Loc), FH G wX H0 H1 locs1 (mup σ k 2 v) → W p l e R s m args below meth c H1 locs1 cells slots Q (F0 m (pc + 3) ls rest)) : W p l e R s m args below meth c H locs cells slots Q (F0 m pc ls (.int v :: .ref (gA G k) :: rest)) := fl_puti (ty := .int) X hb hF hs rfl (by decide) inT0 tyX0 tyX0_ok nmX0 wf_X1_31 rfl (by decide +kernel) rfl rfl rfl hdg kk
theorem wf_X5_72 : Cond.fieldLink RX5 72 (TX0 2).1 (TX0 2).2.1 (TX0 2).2.2.1 ∈ tbl := tb (i := 161) (by decide +kernel) (by decide +kernel)
theorem gf_X5_72 (X : CX p s m args RX5 G wX) (hb : c.code = cc) (hF : FH G wX H0 H locs σ) (hs : SH wX k (.inl (0, rsX0 k))) (hdg : decode cc pc = .ok (.getfield 72, 3)) (kk : W p l e R s m args below meth c H locs cells slots Q (F0 m (pc + 3) ls (.int (σ k 2) :: rest))) : W p l e R s m args below meth c H locs cells slots Q (F0 m pc ls (.ref (gA G k) :: rest)) := fl_geti X hb hF hs rfl (by decide) inT0 wf_X5_72 rfl hdg kk
theorem pf_X5_72 {v : Int32} (X : CX p s m args RX5 G wX) (hb : c.code = cc) (hF : FH G wX H0 H locs σ) (hs : SH wX k (.inl (0, rsX0 k))) (hdg : decode cc pc = .ok (.putfield 72, 3)) (kk : ∀ (H1 : Heap) (locs1 : List Loc), FH G wX H0 H1 locs1 (mup σ k 2 v) → W p l e R s m args below meth c H1 locs1 cells slots Q (F0 m (pc + 3) ls rest)) : W p l e R s m args below meth c H locs cells slots Q (F0 m pc ls (.int v :: .ref (gA G k) :: rest)) := fl_puti (ty := .int) X hb hF hs rfl (by decide) inT0 tyX0 tyX0_ok nmX0 wf_X5_72 rfl (by decide +kernel) rfl rfl rfl hdg kk
theorem wf_X6_111 : Cond.fieldLink RX6 111 (TX0 2).1 (TX0 2).2.1 (TX0 2).2.2.1 ∈ tbl := tb (i := 162) (by decide +kernel) (by decide +kernel)
theorem gf_X6_111 (X : CX p s m args RX6 G wX) (hb : c.code = cc) (hF : FH G wX H0 H locs σ) (hs : SH wX k (.inl (0, rsX0 k))) (hdg : decode cc pc = .ok (.getfield 111, 3)) (kk : W p l e R s m args below meth c H locs cells slots Q (F0 m (pc + 3) ls (.int (σ k 2) :: rest))) : W p l e R s m args below meth c H locs cells slots Q (F0 m pc ls (.ref (gA G k) :: rest)) := fl_geti X hb hF hs rfl (by decide) inT0 wf_X6_111 rfl hdg kk
theorem pf_X6_111 {v : Int32} (X : CX p s m args RX6 G wX) (hb : c.code = cc) (hF : FH G wX H0 H locs σ) (hs : SH wX k (.inl (0, rsX0 k))) (hdg : decode cc pc = .ok (.putfield 111, 3)) (kk : ∀ (H1 : Heap) (locs1 : List Loc), FH G wX H0 H1 locs1 (mup σ k 2 v) → W p l e R s m args below meth c H1 locs1 cells slots Q (F0 m (pc + 3) ls rest)) : W p l e R s m args below meth c H locs cells slots Q (F0 m pc ls (.int v :: .ref (gA G k) :: rest)) := fl_puti (ty := .int) X hb hF hs rfl (by decide) inT0 tyX0 tyX0_ok nmX0 wf_X6_111 rfl (by decide +kernel) rfl rfl rfl hdg kk
theorem wf_X1_9 : Cond.fieldLink RX1 9 (TX1 0).1 (TX1 0).2.1 (TX1 0).2.2.1 ∈ tbl := tb (i := 177) (by decide +kernel) (by decide +kernel)
theorem gf_X1_9 (X : CX p s m args RX1 G wX) (hb : c.code = cc) (hF : FH G wX H0 H locs σ) (hs : SH wX k (.inl (1, rsX1))) (hdg : decode cc pc = .ok (.getfield 9, 3)) (kk : W p l e R s m args below meth c H locs cells slots Q (F0 m (pc + 3) ls (.int (σ k 0) :: rest))) : W p l e R s m args below meth c H locs cells slots Q (F0 m pc ls (.ref (gA G k) :: rest)) := fl_geti X hb hF hs rfl (by decide) inT1 wf_X1_9 rfl hdg kk
theorem pf_X1_9 {v : Int32} (X : CX p s m args RX1 G wX) (hb : c.code = cc) (hF : FH G wX H0 H locs σ) (hs : SH wX k (.inl (1, rsX1))) (hdg : decode cc pc = .ok (.putfield 9, 3)) (kk : ∀ (H1 : Heap) (locs1 : List Loc), FH G wX H0 H1 locs1 (mup σ k 0 v) → W p l e R s m args below meth c H1 locs1 cells slots Q (F0 m (pc + 3) ls rest)) : W p l e R s m args below meth c H locs cells slots Q (F0 m pc ls (.int v :: .ref (gA G k) :: rest)) := fl_puti (ty := .int) X hb hF hs rfl (by decide) inT1 tyX1 tyX1_ok nmX1 wf_X1_9 rfl (by decide +kernel) rfl rfl rfl hdg kk
theorem wf_X6_80 : Cond.fieldLink RX6 80 (TX1 0).1 (TX1 0).2.1 (TX1 0).2.2.1 ∈ tbl := tb (i := 178) (by decide +kernel) (by decide +kernel)
theorem gf_X6_80 (X : CX p s m args RX6 G wX) (hb : c.code = cc) (hF : FH G wX H0 H locs σ) (hs : SH wX k (.inl (1, rsX1))) (hdg : decode cc pc = .ok (.getfield 80, 3)) (kk : W p l e R s m args below meth c H locs cells slots Q (F0 m (pc + 3) ls (.int (σ k 0) :: rest))) : W p l e R s m args below meth c H locs cells slots Q (F0 m pc ls (.ref (gA G k) :: rest)) := fl_geti X hb hF hs rfl (by decide) inT1 wf_X6_80 rfl hdg kk
theorem pf_X6_80 {v : Int32} (X : CX p s m args RX6 G wX) (hb : c.code = cc) (hF : FH G wX H0 H locs σ) (hs : SH wX k (.inl (1, rsX1))) (hdg : decode cc pc = .ok (.putfield 80, 3)) (kk : ∀ (H1 : Heap) (locs1 : List Loc), FH G wX H0 H1 locs1 (mup σ k 0 v) → W p l e R s m args below meth c H1 locs1 cells slots Q (F0 m (pc + 3) ls rest)) : W p l e R s m args below meth c H locs cells slots Q (F0 m pc ls (.int v :: .ref (gA G k) :: rest)) := fl_puti (ty := .int) X hb hF hs rfl (by decide) inT1 tyX1 tyX1_ok nmX1 wf_X6_80 rfl (by decide +kernel) rfl rfl rfl hdg kk
theorem wf_X1_15 : Cond.fieldLink RX1 15 (TX1 1).1 (TX1 1).2.1 (TX1 1).2.2.1 ∈ tbl := tb (i := 179) (by decide +kernel) (by decide +kernel)
theorem gf_X1_15 (X : CX p s m args RX1 G wX) (hb : c.code = cc) (hF : FH G wX H0 H locs σ) (hs : SH wX k (.inl (1, rsX1))) (hdg : decode cc pc = .ok (.getfield 15, 3)) (kk : W p l e R s m args below meth c H locs cells slots Q (F0 m (pc + 3) ls (.ref (gA G 5) :: rest))) : W p l e R s m args below meth c H locs cells slots Q (F0 m pc ls (.ref (gA G k) :: rest)) := fl_getr X hb hF hs rfl (by decide) inT1 wf_X1_15 rfl hdg kk
theorem wf_X1_19 : Cond.fieldLink RX1 19 (TX1 2).1 (TX1 2).2.1 (TX1 2).2.2.1 ∈ tbl := tb (i := 180) (by decide +kernel) (by decide +kernel)
theorem gf_X1_19 (X : CX p s m args RX1 G wX) (hb : c.code = cc) (hF : FH G wX H0 H locs σ) (hs : SH wX k (.inl (1, rsX1))) (hdg : decode cc pc = .ok (.getfield 19, 3)) (kk : W p l e R s m args below meth c H locs cells slots Q (F0 m (pc + 3) ls (.ref (gA G 6) :: rest))) : W p l e R s m args below meth c H locs cells slots Q (F0 m pc ls (.ref (gA G k) :: rest)) := fl_getr X hb hF hs rfl (by decide) inT1 wf_X1_19 rfl hdg kk
theorem wf_X1_22 : Cond.fieldLink RX1 22 (TX1 3).1 (TX1 3).2.1 (TX1 3).2.2.1 ∈ tbl := tb (i := 181) (by decide +kernel) (by decide +kernel)
theorem gf_X1_22 (X : CX p s m args RX1 G wX) (hb : c.code = cc) (hF : FH G wX H0 H locs σ) (hs : SH wX k (.inl (1, rsX1))) (hdg : decode cc pc = .ok (.getfield 22, 3)) (kk : W p l e R s m args below meth c H locs cells slots Q (F0 m (pc + 3) ls (.ref (gA G 7) :: rest))) : W p l e R s m args below meth c H locs cells slots Q (F0 m pc ls (.ref (gA G k) :: rest)) := fl_getr X hb hF hs rfl (by decide) inT1 wf_X1_22 rfl hdg kk
theorem wf_X1_25 : Cond.fieldLink RX1 25 (TX1 4).1 (TX1 4).2.1 (TX1 4).2.2.1 ∈ tbl := tb (i := 182) (by decide +kernel) (by decide +kernel)
theorem gf_X1_25 (X : CX p s m args RX1 G wX) (hb : c.code = cc) (hF : FH G wX H0 H locs σ) (hs : SH wX k (.inl (1, rsX1))) (hdg : decode cc pc = .ok (.getfield 25, 3)) (kk : W p l e R s m args below meth c H locs cells slots Q (F0 m (pc + 3) ls (.ref (gA G 8) :: rest))) : W p l e R s m args below meth c H locs cells slots Q (F0 m pc ls (.ref (gA G k) :: rest)) := fl_getr X hb hF hs rfl (by decide) inT1 wf_X1_25 rfl hdg kk
theorem wf_X4_9 : Cond.fieldLink RX4 9 (TX4 0).1 (TX4 0).2.1 (TX4 0).2.2.1 ∈ tbl := tb (i := 200) (by decide +kernel) (by decide +kernel)
theorem gf_X4_9 (X : CX p s m args RX4 G wX) (hb : c.code = cc) (hF : FH G wX H0 H locs σ) (hs : SH wX k (.inl (4, rsX4))) (hdg : decode cc pc = .ok (.getfield 9, 3)) (kk : W p l e R s m args below meth c H locs cells slots Q (F0 m (pc + 3) ls (.ref (gA G 10) :: rest))) : W p l e R s m args below meth c H locs cells slots Q (F0 m pc ls (.ref (gA G k) :: rest)) := fl_getr X hb hF hs rfl (by decide) inT4 wf_X4_9 rfl hdg kk
theorem wf_X6_137 : Cond.fieldLink RX6 137 (TX4 0).1 (TX4 0).2.1 (TX4 0).2.2.1 ∈ tbl := tb (i := 201) (by decide +kernel) (by decide +kernel)
theorem gf_X6_137 (X : CX p s m args RX6 G wX) (hb : c.code = cc) (hF : FH G wX H0 H locs σ) (hs : SH wX k (.inl (4, rsX4))) (hdg : decode cc pc = .ok (.getfield 137, 3)) (kk : W p l e R s m args below meth c H locs cells slots Q (F0 m (pc + 3) ls (.ref (gA G 10) :: rest))) : W p l e R s m args below meth c H locs cells slots Q (F0 m pc ls (.ref (gA G k) :: rest)) := fl_getr X hb hF hs rfl (by decide) inT4 wf_X6_137 rfl hdg kk
theorem wf_X4_15 : Cond.fieldLink RX4 15 (TX4 1).1 (TX4 1).2.1 (TX4 1).2.2.1 ∈ tbl := tb (i := 202) (by decide +kernel) (by decide +kernel)
theorem gf_X4_15 (X : CX p s m args RX4 G wX) (hb : c.code = cc) (hF : FH G wX H0 H locs σ) (hs : SH wX k (.inl (4, rsX4))) (hdg : decode cc pc = .ok (.getfield 15, 3)) (kk : W p l e R s m args below meth c H locs cells slots Q (F0 m (pc + 3) ls (.ref (gA G 11) :: rest))) : W p l e R s m args below meth c H locs cells slots Q (F0 m pc ls (.ref (gA G k) :: rest)) := fl_getr X hb hF hs rfl (by decide) inT4 wf_X4_15 rfl hdg kk
theorem wf_X4_18 : Cond.fieldLink RX4 18 (TX4 2).1 (TX4 2).2.1 (TX4 2).2.2.1 ∈ tbl := tb (i := 203) (by decide +kernel) (by decide +kernel)
theorem gf_X4_18 (X : CX p s m args RX4 G wX) (hb : c.code = cc) (hF : FH G wX H0 H locs σ) (hs : SH wX k (.inl (4, rsX4))) (hdg : decode cc pc = .ok (.getfield 18, 3)) (kk : W p l e R s m args below meth c H locs cells slots Q (F0 m (pc + 3) ls (.int (σ k 2) :: rest))) : W p l e R s m args below meth c H locs cells slots Q (F0 m pc ls (.ref (gA G k) :: rest)) := fl_geti X hb hF hs rfl (by decide) inT4 wf_X4_18 rfl hdg kk
theorem pf_X4_18 {v : Int32} (X : CX p s m args RX4 G wX) (hb : c.code = cc) (hF : FH G wX H0 H locs σ) (hs : SH wX k (.inl (4, rsX4))) (hdg : decode cc pc = .ok (.putfield 18, 3)) (kk : ∀ (H1 : Heap) (locs1 : List Loc), FH G wX H0 H1 locs1 (mup σ k 2 v) → W p l e R s m args below meth c H1 locs1 cells slots Q (F0 m (pc + 3) ls rest)) : W p l e R s m args below meth c H locs cells slots Q (F0 m pc ls (.int v :: .ref (gA G k) :: rest)) := fl_puti (ty := .int) X hb hF hs rfl (by decide) inT4 tyX4 tyX4_ok nmX4 wf_X4_18 rfl (by decide +kernel) rfl rfl rfl hdg kk
theorem wf_X6_133 : Cond.fieldLink RX6 133 (TX4 2).1 (TX4 2).2.1 (TX4 2).2.2.1 ∈ tbl := tb (i := 204) (by decide +kernel) (by decide +kernel)
theorem gf_X6_133 (X : CX p s m args RX6 G wX) (hb : c.code = cc) (hF : FH G wX H0 H locs σ) (hs : SH wX k (.inl (4, rsX4))) (hdg : decode cc pc = .ok (.getfield 133, 3)) (kk : W p l e R s m args below meth c H locs cells slots Q (F0 m (pc + 3) ls (.int (σ k 2) :: rest))) : W p l e R s m args below meth c H locs cells slots Q (F0 m pc ls (.ref (gA G k) :: rest)) := fl_geti X hb hF hs rfl (by decide) inT4 wf_X6_133 rfl hdg kk
theorem pf_X6_133 {v : Int32} (X : CX p s m args RX6 G wX) (hb : c.code = cc) (hF : FH G wX H0 H locs σ) (hs : SH wX k (.inl (4, rsX4))) (hdg : decode cc pc = .ok (.putfield 133, 3)) (kk : ∀ (H1 : Heap) (locs1 : List Loc), FH G wX H0 H1 locs1 (mup σ k 2 v) → W p l e R s m args below meth c H1 locs1 cells slots Q (F0 m (pc + 3) ls rest)) : W p l e R s m args below meth c H locs cells slots Q (F0 m pc ls (.int v :: .ref (gA G k) :: rest)) := fl_puti (ty := .int) X hb hF hs rfl (by decide) inT4 tyX4 tyX4_ok nmX4 wf_X6_133 rfl (by decide +kernel) rfl rfl rfl hdg kk
theorem wf_X3_9 : Cond.fieldLink RX3 9 (TX3 0).1 (TX3 0).2.1 (TX3 0).2.2.1 ∈ tbl := tb (i := 218) (by decide +kernel) (by decide +kernel)
theorem gf_X3_9 (X : CX p s m args RX3 G wX) (hb : c.code = cc) (hF : FH G wX H0 H locs σ) (hs : SH wX k (.inl (3, rsX3))) (hdg : decode cc pc = .ok (.getfield 9, 3)) (kk : W p l e R s m args below meth c H locs cells slots Q (F0 m (pc + 3) ls (.ref (gA G 13) :: rest))) : W p l e R s m args below meth c H locs cells slots Q (F0 m pc ls (.ref (gA G k) :: rest)) := fl_getr X hb hF hs rfl (by decide) inT3 wf_X3_9 rfl hdg kk
theorem wf_X6_167 : Cond.fieldLink RX6 167 (TX3 0).1 (TX3 0).2.1 (TX3 0).2.2.1 ∈ tbl := tb (i := 219) (by decide +kernel) (by decide +kernel)
theorem gf_X6_167 (X : CX p s m args RX6 G wX) (hb : c.code = cc) (hF : FH G wX H0 H locs σ) (hs : SH wX k (.inl (3, rsX3))) (hdg : decode cc pc = .ok (.getfield 167, 3)) (kk : W p l e R s m args below meth c H locs cells slots Q (F0 m (pc + 3) ls (.ref (gA G 13) :: rest))) : W p l e R s m args below meth c H locs cells slots Q (F0 m pc ls (.ref (gA G k) :: rest)) := fl_getr X hb hF hs rfl (by decide) inT3 wf_X6_167 rfl hdg kk
theorem wf_X3_15 : Cond.fieldLink RX3 15 (TX3 1).1 (TX3 1).2.1 (TX3 1).2.2.1 ∈ tbl := tb (i := 220) (by decide +kernel) (by decide +kernel)
theorem gf_X3_15 (X : CX p s m args RX3 G wX) (hb : c.code = cc) (hF : FH G wX H0 H locs σ) (hs : SH wX k (.inl (3, rsX3))) (hdg : decode cc pc = .ok (.getfield 15, 3)) (kk : W p l e R s m args below meth c H locs cells slots Q (F0 m (pc + 3) ls (.ref (gA G 14) :: rest))) : W p l e R s m args below meth c H locs cells slots Q (F0 m pc ls (.ref (gA G k) :: rest)) := fl_getr X hb hF hs rfl (by decide) inT3 wf_X3_15 rfl hdg kk
theorem wf_X6_170 : Cond.fieldLink RX6 170 (TX3 1).1 (TX3 1).2.1 (TX3 1).2.2.1 ∈ tbl := tb (i := 221) (by decide +kernel) (by decide +kernel)
theorem gf_X6_170 (X : CX p s m args RX6 G wX) (hb : c.code = cc) (hF : FH G wX H0 H locs σ) (hs : SH wX k (.inl (3, rsX3))) (hdg : decode cc pc = .ok (.getfield 170, 3)) (kk : W p l e R s m args below meth c H locs cells slots Q (F0 m (pc + 3) ls (.ref (gA G 14) :: rest))) : W p l e R s m args below meth c H locs cells slots Q (F0 m pc ls (.ref (gA G k) :: rest)) := fl_getr X hb hF hs rfl (by decide) inT3 wf_X6_170 rfl hdg kk
theorem wf_X6_10 : Cond.fieldLink RX6 10 (TX6 0).1 (TX6 0).2.1 (TX6 0).2.2.1 ∈ tbl := tb (i := 227) (by decide +kernel) (by decide +kernel)
theorem gf_X6_10 (X : CX p s m args RX6 G wX) (hb : c.code = cc) (hF : FH G wX H0 H locs σ) (hs : SH wX k (.inl (6, rsX6))) (hdg : decode cc pc = .ok (.getfield 10, 3)) (kk : W p l e R s m args below meth c H locs cells slots Q (F0 m (pc + 3) ls (.ref (gA G 1) :: rest))) : W p l e R s m args below meth c H locs cells slots Q (F0 m pc ls (.ref (gA G k) :: rest)) := fl_getr X hb hF hs rfl (by decide) inT6 wf_X6_10 rfl hdg kk
theorem wf_X6_19 : Cond.fieldLink RX6 19 (TX6 1).1 (TX6 1).2.1 (TX6 1).2.2.1 ∈ tbl := tb (i := 228) (by decide +kernel) (by decide +kernel)
theorem gf_X6_19 (X : CX p s m args RX6 G wX) (hb : c.code = cc) (hF : FH G wX H0 H locs σ) (hs : SH wX k (.inl (6, rsX6))) (hdg : decode cc pc = .ok (.getfield 19, 3)) (kk : W p l e R s m args below meth c H locs cells slots Q (F0 m (pc + 3) ls (.ref (gA G 17) :: rest))) : W p l e R s m args below meth c H locs cells slots Q (F0 m pc ls (.ref (gA G k) :: rest)) := fl_getr X hb hF hs rfl (by decide) inT6 wf_X6_19 rfl hdg kk
theorem wf_X6_23 : Cond.fieldLink RX6 23 (TX6 2).1 (TX6 2).2.1 (TX6 2).2.2.1 ∈ tbl := tb (i := 229) (by decide +kernel) (by decide +kernel)
theorem gf_X6_23 (X : CX p s m args RX6 G wX) (hb : c.code = cc) (hF : FH G wX H0 H locs σ) (hs : SH wX k (.inl (6, rsX6))) (hdg : decode cc pc = .ok (.getfield 23, 3)) (kk : W p l e R s m args below meth c H locs cells slots Q (F0 m (pc + 3) ls (.ref (gA G 31) :: rest))) : W p l e R s m args below meth c H locs cells slots Q (F0 m pc ls (.ref (gA G k) :: rest)) := fl_getr X hb hF hs rfl (by decide) inT6 wf_X6_23 rfl hdg kk
theorem wf_X6_26 : Cond.fieldLink RX6 26 (TX6 3).1 (TX6 3).2.1 (TX6 3).2.2.1 ∈ tbl := tb (i := 230) (by decide +kernel) (by decide +kernel)
theorem gf_X6_26 (X : CX p s m args RX6 G wX) (hb : c.code = cc) (hF : FH G wX H0 H locs σ) (hs : SH wX k (.inl (6, rsX6))) (hdg : decode cc pc = .ok (.getfield 26, 3)) (kk : W p l e R s m args below meth c H locs cells slots Q (F0 m (pc + 3) ls (.ref (gA G 3) :: rest))) : W p l e R s m args below meth c H locs cells slots Q (F0 m pc ls (.ref (gA G k) :: rest)) := fl_getr X hb hF hs rfl (by decide) inT6 wf_X6_26 rfl hdg kk
theorem wf_X6_30 : Cond.fieldLink RX6 30 (TX6 4).1 (TX6 4).2.1 (TX6 4).2.2.1 ∈ tbl := tb (i := 231) (by decide +kernel) (by decide +kernel)
theorem gf_X6_30 (X : CX p s m args RX6 G wX) (hb : c.code = cc) (hF : FH G wX H0 H locs σ) (hs : SH wX k (.inl (6, rsX6))) (hdg : decode cc pc = .ok (.getfield 30, 3)) (kk : W p l e R s m args below meth c H locs cells slots Q (F0 m (pc + 3) ls (.int (σ k 4) :: rest))) : W p l e R s m args below meth c H locs cells slots Q (F0 m pc ls (.ref (gA G k) :: rest)) := fl_geti X hb hF hs rfl (by decide) inT6 wf_X6_30 rfl hdg kk
theorem pf_X6_30 {v : Int32} (X : CX p s m args RX6 G wX) (hb : c.code = cc) (hF : FH G wX H0 H locs σ) (hs : SH wX k (.inl (6, rsX6))) (hdg : decode cc pc = .ok (.putfield 30, 3)) (kk : ∀ (H1 : Heap) (locs1 : List Loc), FH G wX H0 H1 locs1 (mup σ k 4 v) → W p l e R s m args below meth c H1 locs1 cells slots Q (F0 m (pc + 3) ls rest)) : W p l e R s m args below meth c H locs cells slots Q (F0 m pc ls (.int v :: .ref (gA G k) :: rest)) := fl_puti (ty := .int) X hb hF hs rfl (by decide) inT6 tyX6 tyX6_ok nmX6 wf_X6_30 rfl (by decide +kernel) rfl rfl rfl hdg kk
theorem wf_X6_37 : Cond.fieldLink RX6 37 (TX6 5).1 (TX6 5).2.1 (TX6 5).2.2.1 ∈ tbl := tb (i := 232) (by decide +kernel) (by decide +kernel)
theorem gf_X6_37 (X : CX p s m args RX6 G wX) (hb : c.code = cc) (hF : FH G wX H0 H locs σ) (hs : SH wX k (.inl (6, rsX6))) (hdg : decode cc pc = .ok (.getfield 37, 3)) (kk : W p l e R s m args below meth c H locs cells slots Q (F0 m (pc + 3) ls (.ref (gA G 4) :: rest))) : W p l e R s m args below meth c H locs cells slots Q (F0 m pc ls (.ref (gA G k) :: rest)) := fl_getr X hb hF hs rfl (by decide) inT6 wf_X6_37 rfl hdg kk
theorem wf_X6_44 : Cond.fieldLink RX6 44 (TX6 6).1 (TX6 6).2.1 (TX6 6).2.2.1 ∈ tbl := tb (i := 233) (by decide +kernel) (by decide +kernel)
theorem gf_X6_44 (X : CX p s m args RX6 G wX) (hb : c.code = cc) (hF : FH G wX H0 H locs σ) (hs : SH wX k (.inl (6, rsX6))) (hdg : decode cc pc = .ok (.getfield 44, 3)) (kk : W p l e R s m args below meth c H locs cells slots Q (F0 m (pc + 3) ls (.ref (gA G 9) :: rest))) : W p l e R s m args below meth c H locs cells slots Q (F0 m pc ls (.ref (gA G k) :: rest)) := fl_getr X hb hF hs rfl (by decide) inT6 wf_X6_44 rfl hdg kk
theorem wf_X6_51 : Cond.fieldLink RX6 51 (TX6 7).1 (TX6 7).2.1 (TX6 7).2.2.1 ∈ tbl := tb (i := 234) (by decide +kernel) (by decide +kernel)
theorem gf_X6_51 (X : CX p s m args RX6 G wX) (hb : c.code = cc) (hF : FH G wX H0 H locs σ) (hs : SH wX k (.inl (6, rsX6))) (hdg : decode cc pc = .ok (.getfield 51, 3)) (kk : W p l e R s m args below meth c H locs cells slots Q (F0 m (pc + 3) ls (.ref (gA G 12) :: rest))) : W p l e R s m args below meth c H locs cells slots Q (F0 m pc ls (.ref (gA G k) :: rest)) := fl_getr X hb hF hs rfl (by decide) inT6 wf_X6_51 rfl hdg kk
theorem wf_X6_55 : Cond.fieldLink RX6 55 (TX6 8).1 (TX6 8).2.1 (TX6 8).2.2.1 ∈ tbl := tb (i := 235) (by decide +kernel) (by decide +kernel)
theorem gf_X6_55 (X : CX p s m args RX6 G wX) (hb : c.code = cc) (hF : FH G wX H0 H locs σ) (hs : SH wX k (.inl (6, rsX6))) (hdg : decode cc pc = .ok (.getfield 55, 3)) (kk : W p l e R s m args below meth c H locs cells slots Q (F0 m (pc + 3) ls (.ref (gA G 15) :: rest))) : W p l e R s m args below meth c H locs cells slots Q (F0 m pc ls (.ref (gA G k) :: rest)) := fl_getr X hb hF hs rfl (by decide) inT6 wf_X6_55 rfl hdg kk
theorem wf_X6_59 : Cond.fieldLink RX6 59 (TX6 9).1 (TX6 9).2.1 (TX6 9).2.2.1 ∈ tbl := tb (i := 236) (by decide +kernel) (by decide +kernel)
theorem gf_X6_59 (X : CX p s m args RX6 G wX) (hb : c.code = cc) (hF : FH G wX H0 H locs σ) (hs : SH wX k (.inl (6, rsX6))) (hdg : decode cc pc = .ok (.getfield 59, 3)) (kk : W p l e R s m args below meth c H locs cells slots Q (F0 m (pc + 3) ls (.ref (gA G 16) :: rest))) : W p l e R s m args below meth c H locs cells slots Q (F0 m pc ls (.ref (gA G k) :: rest)) := fl_getr X hb hF hs rfl (by decide) inT6 wf_X6_59 rfl hdg kk
theorem wf_X6_62 : Cond.fieldLink RX6 62 (TX6 10).1 (TX6 10).2.1 (TX6 10).2.2.1 ∈ tbl := tb (i := 237) (by decide +kernel) (by decide +kernel)
theorem gf_X6_62 (X : CX p s m args RX6 G wX) (hb : c.code = cc) (hF : FH G wX H0 H locs σ) (hs : SH wX k (.inl (6, rsX6))) (hdg : decode cc pc = .ok (.getfield 62, 3)) (kk : W p l e R s m args below meth c H locs cells slots Q (F0 m (pc + 3) ls (.int (σ k 10) :: rest))) : W p l e R s m args below meth c H locs cells slots Q (F0 m pc ls (.ref (gA G k) :: rest)) := fl_geti X hb hF hs rfl (by decide) inT6 wf_X6_62 rfl hdg kk
theorem pf_X6_62 {v : Int32} (X : CX p s m args RX6 G wX) (hb : c.code = cc) (hF : FH G wX H0 H locs σ) (hs : SH wX k (.inl (6, rsX6))) (hdg : decode cc pc = .ok (.putfield 62, 3)) (kk : ∀ (H1 : Heap) (locs1 : List Loc), FH G wX H0 H1 locs1 (mup σ k 10 v) → W p l e R s m args below meth c H1 locs1 cells slots Q (F0 m (pc + 3) ls rest)) : W p l e R s m args below meth c H locs cells slots Q (F0 m pc ls (.int v :: .ref (gA G k) :: rest)) := fl_puti (ty := .int) X hb hF hs rfl (by decide) inT6 tyX6 tyX6_ok nmX6 wf_X6_62 rfl (by decide +kernel) rfl rfl rfl hdg kk
theorem wf_X7_7 : Cond.fieldLink RX7 7 (TX7 0).1 (TX7 0).2.1 (TX7 0).2.2.1 ∈ tbl := tb (i := 634) (by decide +kernel) (by decide +kernel)
theorem gf_X7_7 (X : CX p s m args RX7 G wR) (hb : c.code = cc) (hF : FH G wR H0 H locs σ) (hs : SH wR k (.inl (7, rsX7))) (hdg : decode cc pc = .ok (.getfield 7, 3)) (kk : W p l e R s m args below meth c H locs cells slots Q (F0 m (pc + 3) ls (.ref (gA G 1) :: rest))) : W p l e R s m args below meth c H locs cells slots Q (F0 m pc ls (.ref (gA G k) :: rest)) := fl_getr X hb hF hs rfl (by decide) inT7 wf_X7_7 rfl hdg kk
theorem wf_X7_13 : Cond.fieldLink RX7 13 (TX7 1).1 (TX7 1).2.1 (TX7 1).2.2.1 ∈ tbl := tb (i := 635) (by decide +kernel) (by decide +kernel)
theorem gf_X7_13 (X : CX p s m args RX7 G wR) (hb : c.code = cc) (hF : FH G wR H0 H locs σ) (hs : SH wR k (.inl (7, rsX7))) (hdg : decode cc pc = .ok (.getfield 13, 3)) (kk : W p l e R s m args below meth c H locs cells slots Q (F0 m (pc + 3) ls (.ref (gA G 2) :: rest))) : W p l e R s m args below meth c H locs cells slots Q (F0 m pc ls (.ref (gA G k) :: rest)) := fl_getr X hb hF hs rfl (by decide) inT7 wf_X7_13 rfl hdg kk
theorem wf_X7_51 : Cond.fieldLink RX7 51 (TX7 2).1 (TX7 2).2.1 (TX7 2).2.2.1 ∈ tbl := tb (i := 636) (by decide +kernel) (by decide +kernel)
theorem gf_X7_51 (X : CX p s m args RX7 G wR) (hb : c.code = cc) (hF : FH G wR H0 H locs σ) (hs : SH wR k (.inl (7, rsX7))) (hdg : decode cc pc = .ok (.getfield 51, 3)) (kk : W p l e R s m args below meth c H locs cells slots Q (F0 m (pc + 3) ls (.int (σ k 2) :: rest))) : W p l e R s m args below meth c H locs cells slots Q (F0 m pc ls (.ref (gA G k) :: rest)) := fl_geti X hb hF hs rfl (by decide) inT7 wf_X7_51 rfl hdg kk
theorem pf_X7_51 {v : Int32} (X : CX p s m args RX7 G wR) (hb : c.code = cc) (hF : FH G wR H0 H locs σ) (hs : SH wR k (.inl (7, rsX7))) (hdg : decode cc pc = .ok (.putfield 51, 3)) (kk : ∀ (H1 : Heap) (locs1 : List Loc), FH G wR H0 H1 locs1 (mup σ k 2 v) → W p l e R s m args below meth c H1 locs1 cells slots Q (F0 m (pc + 3) ls rest)) : W p l e R s m args below meth c H locs cells slots Q (F0 m pc ls (.int v :: .ref (gA G k) :: rest)) := fl_puti (ty := .int) X hb hF hs rfl (by decide) inT7 tyX7 tyX7_ok nmX7 wf_X7_51 rfl (by decide +kernel) rfl rfl rfl hdg kk
theorem wf_X7_17 : Cond.fieldLink RX7 17 (TX7 3).1 (TX7 3).2.1 (TX7 3).2.2.1 ∈ tbl := tb (i := 637) (by decide +kernel) (by decide +kernel)
theorem gf_X7_17 (X : CX p s m args RX7 G wR) (hb : c.code = cc) (hF : FH G wR H0 H locs σ) (hs : SH wR k (.inl (7, rsX7))) (hdg : decode cc pc = .ok (.getfield 17, 3)) (kk : W p l e R s m args below meth c H locs cells slots Q (F0 m (pc + 3) ls (.ref (gA G 3) :: rest))) : W p l e R s m args below meth c H locs cells slots Q (F0 m pc ls (.ref (gA G k) :: rest)) := fl_getr X hb hF hs rfl (by decide) inT7 wf_X7_17 rfl hdg kk
theorem wf_X7_123 : Cond.fieldLink RX7 123 (TX7 4).1 (TX7 4).2.1 (TX7 4).2.2.1 ∈ tbl := tb (i := 638) (by decide +kernel) (by decide +kernel)
theorem gf_X7_123 (X : CX p s m args RX7 G wR) (hb : c.code = cc) (hF : FH G wR H0 H locs σ) (hs : SH wR k (.inl (7, rsX7))) (hdg : decode cc pc = .ok (.getfield 123, 3)) (kk : W p l e R s m args below meth c H locs cells slots Q (F0 m (pc + 3) ls (.int (σ k 4) :: rest))) : W p l e R s m args below meth c H locs cells slots Q (F0 m pc ls (.ref (gA G k) :: rest)) := fl_geti X hb hF hs rfl (by decide) inT7 wf_X7_123 rfl hdg kk
theorem pf_X7_123 {v : Int32} (X : CX p s m args RX7 G wR) (hb : c.code = cc) (hF : FH G wR H0 H locs σ) (hs : SH wR k (.inl (7, rsX7))) (hdg : decode cc pc = .ok (.putfield 123, 3)) (kk : ∀ (H1 : Heap) (locs1 : List Loc), FH G wR H0 H1 locs1 (mup σ k 4 v) → W p l e R s m args below meth c H1 locs1 cells slots Q (F0 m (pc + 3) ls rest)) : W p l e R s m args below meth c H locs cells slots Q (F0 m pc ls (.int v :: .ref (gA G k) :: rest)) := fl_puti (ty := .int) X hb hF hs rfl (by decide) inT7 tyX7 tyX7_ok nmX7 wf_X7_123 rfl (by decide +kernel) rfl rfl rfl hdg kk
theorem wf_X7_20 : Cond.fieldLink RX7 20 (TX7 5).1 (TX7 5).2.1 (TX7 5).2.2.1 ∈ tbl := tb (i := 639) (by decide +kernel) (by decide +kernel)
theorem gf_X7_20 (X : CX p s m args RX7 G wR) (hb : c.code = cc) (hF : FH G wR H0 H locs σ) (hs : SH wR k (.inl (7, rsX7))) (hdg : decode cc pc = .ok (.getfield 20, 3)) (kk : W p l e R s m args below meth c H locs cells slots Q (F0 m (pc + 3) ls (.ref (gA G 4) :: rest))) : W p l e R s m args below meth c H locs cells slots Q (F0 m pc ls (.ref (gA G k) :: rest)) := fl_getr X hb hF hs rfl (by decide) inT7 wf_X7_20 rfl hdg kk
theorem wf_X7_69 : Cond.fieldLink RX7 69 (TX7 6).1 (TX7 6).2.1 (TX7 6).2.2.1 ∈ tbl := tb (i := 640) (by decide +kernel) (by decide +kernel)
theorem gf_X7_69 (X : CX p s m args RX7 G wR) (hb : c.code = cc) (hF : FH G wR H0 H locs σ) (hs : SH wR k (.inl (7, rsX7))) (hdg : decode cc pc = .ok (.getfield 69, 3)) (kk : W p l e R s m args below meth c H locs cells slots Q (F0 m (pc + 3) ls (.int (σ k 6) :: rest))) : W p l e R s m args below meth c H locs cells slots Q (F0 m pc ls (.ref (gA G k) :: rest)) := fl_geti X hb hF hs rfl (by decide) inT7 wf_X7_69 rfl hdg kk
theorem pf_X7_69 {v : Int32} (X : CX p s m args RX7 G wR) (hb : c.code = cc) (hF : FH G wR H0 H locs σ) (hs : SH wR k (.inl (7, rsX7))) (hdg : decode cc pc = .ok (.putfield 69, 3)) (kk : ∀ (H1 : Heap) (locs1 : List Loc), FH G wR H0 H1 locs1 (mup σ k 6 v) → W p l e R s m args below meth c H1 locs1 cells slots Q (F0 m (pc + 3) ls rest)) : W p l e R s m args below meth c H locs cells slots Q (F0 m pc ls (.int v :: .ref (gA G k) :: rest)) := fl_puti (ty := .int) X hb hF hs rfl (by decide) inT7 tyX7 tyX7_ok nmX7 wf_X7_69 rfl (by decide +kernel) rfl rfl rfl hdg kk
theorem wf_X7_120 : Cond.fieldLink RX7 120 (TX7 7).1 (TX7 7).2.1 (TX7 7).2.2.1 ∈ tbl := tb (i := 641) (by decide +kernel) (by decide +kernel)
theorem gf_X7_120 (X : CX p s m args RX7 G wR) (hb : c.code = cc) (hF : FH G wR H0 H locs σ) (hs : SH wR k (.inl (7, rsX7))) (hdg : decode cc pc = .ok (.getfield 120, 3)) (kk : W p l e R s m args below meth c H locs cells slots Q (F0 m (pc + 3) ls (.int (σ k 7) :: rest))) : W p l e R s m args below meth c H locs cells slots Q (F0 m pc ls (.ref (gA G k) :: rest)) := fl_geti X hb hF hs rfl (by decide) inT7 wf_X7_120 rfl hdg kk
theorem pf_X7_120 {v : Int32} (X : CX p s m args RX7 G wR) (hb : c.code = cc) (hF : FH G wR H0 H locs σ) (hs : SH wR k (.inl (7, rsX7))) (hdg : decode cc pc = .ok (.putfield 120, 3)) (kk : ∀ (H1 : Heap) (locs1 : List Loc), FH G wR H0 H1 locs1 (mup σ k 7 v) → W p l e R s m args below meth c H1 locs1 cells slots Q (F0 m (pc + 3) ls rest)) : W p l e R s m args below meth c H locs cells slots Q (F0 m pc ls (.int v :: .ref (gA G k) :: rest)) := fl_puti (ty := .int) X hb hF hs rfl (by decide) inT7 tyX7 tyX7_ok nmX7 wf_X7_120 rfl (by decide +kernel) rfl rfl rfl hdg kk
theorem wf_X7_23 : Cond.fieldLink RX7 23 (TX7 8).1 (TX7 8).2.1 (TX7 8).2.2.1 ∈ tbl := tb (i := 642) (by decide +kernel) (by decide +kernel)
theorem gf_X7_23 (X : CX p s m args RX7 G wR) (hb : c.code = cc) (hF : FH G wR H0 H locs σ) (hs : SH wR k (.inl (7, rsX7))) (hdg : decode cc pc = .ok (.getfield 23, 3)) (kk : W p l e R s m args below meth c H locs cells slots Q (F0 m (pc + 3) ls (.ref (gA G 5) :: rest))) : W p l e R s m args below meth c H locs cells slots Q (F0 m pc ls (.ref (gA G k) :: rest)) := fl_getr X hb hF hs rfl (by decide) inT7 wf_X7_23 rfl hdg kk
theorem wf_X7_26 : Cond.fieldLink RX7 26 (TX7 9).1 (TX7 9).2.1 (TX7 9).2.2.1 ∈ tbl := tb (i := 643) (by decide +kernel) (by decide +kernel)
theorem gf_X7_26 (X : CX p s m args RX7 G wR) (hb : c.code = cc) (hF : FH G wR H0 H locs σ) (hs : SH wR k (.inl (7, rsX7))) (hdg : decode cc pc = .ok (.getfield 26, 3)) (kk : W p l e R s m args below meth c H locs cells slots Q (F0 m (pc + 3) ls (.ref (gA G 6) :: rest))) : W p l e R s m args below meth c H locs cells slots Q (F0 m pc ls (.ref (gA G k) :: rest)) := fl_getr X hb hF hs rfl (by decide) inT7 wf_X7_26 rfl hdg kk
theorem wf_X7_66 : Cond.fieldLink RX7 66 (TX7 10).1 (TX7 10).2.1 (TX7 10).2.2.1 ∈ tbl := tb (i := 644) (by decide +kernel) (by decide +kernel)
theorem gf_X7_66 (X : CX p s m args RX7 G wR) (hb : c.code = cc) (hF : FH G wR H0 H locs σ) (hs : SH wR k (.inl (7, rsX7))) (hdg : decode cc pc = .ok (.getfield 66, 3)) (kk : W p l e R s m args below meth c H locs cells slots Q (F0 m (pc + 3) ls (.int (σ k 10) :: rest))) : W p l e R s m args below meth c H locs cells slots Q (F0 m pc ls (.ref (gA G k) :: rest)) := fl_geti X hb hF hs rfl (by decide) inT7 wf_X7_66 rfl hdg kk
theorem pf_X7_66 {v : Int32} (X : CX p s m args RX7 G wR) (hb : c.code = cc) (hF : FH G wR H0 H locs σ) (hs : SH wR k (.inl (7, rsX7))) (hdg : decode cc pc = .ok (.putfield 66, 3)) (kk : ∀ (H1 : Heap) (locs1 : List Loc), FH G wR H0 H1 locs1 (mup σ k 10 v) → W p l e R s m args below meth c H1 locs1 cells slots Q (F0 m (pc + 3) ls rest)) : W p l e R s m args below meth c H locs cells slots Q (F0 m pc ls (.int v :: .ref (gA G k) :: rest)) := fl_puti (ty := .int) X hb hF hs rfl (by decide) inT7 tyX7 tyX7_ok nmX7 wf_X7_66 rfl (by decide +kernel) rfl rfl rfl hdg kk
theorem wf_X7_72 : Cond.fieldLink RX7 72 (TX7 11).1 (TX7 11).2.1 (TX7 11).2.2.1 ∈ tbl := tb (i := 645) (by decide +kernel) (by decide +kernel)
theorem gf_X7_72 (X : CX p s m args RX7 G wR) (hb : c.code = cc) (hF : FH G wR H0 H locs σ) (hs : SH wR k (.inl (7, rsX7))) (hdg : decode cc pc = .ok (.getfield 72, 3)) (kk : W p l e R s m args below meth c H locs cells slots Q (F0 m (pc + 3) ls (.int (σ k 11) :: rest))) : W p l e R s m args below meth c H locs cells slots Q (F0 m pc ls (.ref (gA G k) :: rest)) := fl_geti X hb hF hs rfl (by decide) inT7 wf_X7_72 rfl hdg kk
theorem pf_X7_72 {v : Int32} (X : CX p s m args RX7 G wR) (hb : c.code = cc) (hF : FH G wR H0 H locs σ) (hs : SH wR k (.inl (7, rsX7))) (hdg : decode cc pc = .ok (.putfield 72, 3)) (kk : ∀ (H1 : Heap) (locs1 : List Loc), FH G wR H0 H1 locs1 (mup σ k 11 v) → W p l e R s m args below meth c H1 locs1 cells slots Q (F0 m (pc + 3) ls rest)) : W p l e R s m args below meth c H locs cells slots Q (F0 m pc ls (.int v :: .ref (gA G k) :: rest)) := fl_puti (ty := .int) X hb hF hs rfl (by decide) inT7 tyX7 tyX7_ok nmX7 wf_X7_72 rfl (by decide +kernel) rfl rfl rfl hdg kk
theorem wf_X7_75 : Cond.fieldLink RX7 75 (TX7 12).1 (TX7 12).2.1 (TX7 12).2.2.1 ∈ tbl := tb (i := 646) (by decide +kernel) (by decide +kernel)
theorem gf_X7_75 (X : CX p s m args RX7 G wR) (hb : c.code = cc) (hF : FH G wR H0 H locs σ) (hs : SH wR k (.inl (7, rsX7))) (hdg : decode cc pc = .ok (.getfield 75, 3)) (kk : W p l e R s m args below meth c H locs cells slots Q (F0 m (pc + 3) ls (.int (σ k 12) :: rest))) : W p l e R s m args below meth c H locs cells slots Q (F0 m pc ls (.ref (gA G k) :: rest)) := fl_geti X hb hF hs rfl (by decide) inT7 wf_X7_75 rfl hdg kk
theorem pf_X7_75 {v : Int32} (X : CX p s m args RX7 G wR) (hb : c.code = cc) (hF : FH G wR H0 H locs σ) (hs : SH wR k (.inl (7, rsX7))) (hdg : decode cc pc = .ok (.putfield 75, 3)) (kk : ∀ (H1 : Heap) (locs1 : List Loc), FH G wR H0 H1 locs1 (mup σ k 12 v) → W p l e R s m args below meth c H1 locs1 cells slots Q (F0 m (pc + 3) ls rest)) : W p l e R s m args below meth c H locs cells slots Q (F0 m pc ls (.int v :: .ref (gA G k) :: rest)) := fl_puti (ty := .int) X hb hF hs rfl (by decide) inT7 tyX7 tyX7_ok nmX7 wf_X7_75 rfl (by decide +kernel) rfl rfl rfl hdg kk
theorem wf_X7_106 : Cond.fieldLink RX7 106 (TX7 13).1 (TX7 13).2.1 (TX7 13).2.2.1 ∈ tbl := tb (i := 647) (by decide +kernel) (by decide +kernel)
theorem gf_X7_106 (X : CX p s m args RX7 G wR) (hb : c.code = cc) (hF : FH G wR H0 H locs σ) (hs : SH wR k (.inl (7, rsX7))) (hdg : decode cc pc = .ok (.getfield 106, 3)) (kk : W p l e R s m args below meth c H locs cells slots Q (F0 m (pc + 3) ls (.int (σ k 13) :: rest))) : W p l e R s m args below meth c H locs cells slots Q (F0 m pc ls (.ref (gA G k) :: rest)) := fl_geti X hb hF hs rfl (by decide) inT7 wf_X7_106 rfl hdg kk
theorem pf_X7_106 {v : Int32} (X : CX p s m args RX7 G wR) (hb : c.code = cc) (hF : FH G wR H0 H locs σ) (hs : SH wR k (.inl (7, rsX7))) (hdg : decode cc pc = .ok (.putfield 106, 3)) (kk : ∀ (H1 : Heap) (locs1 : List Loc), FH G wR H0 H1 locs1 (mup σ k 13 v) → W p l e R s m args below meth c H1 locs1 cells slots Q (F0 m (pc + 3) ls rest)) : W p l e R s m args below meth c H locs cells slots Q (F0 m pc ls (.int v :: .ref (gA G k) :: rest)) := fl_puti (ty := .int) X hb hF hs rfl (by decide) inT7 tyX7 tyX7_ok nmX7 wf_X7_106 rfl (by decide +kernel) rfl rfl rfl hdg kk
theorem wf_X7_89 : Cond.fieldLink RX7 89 (TX7 14).1 (TX7 14).2.1 (TX7 14).2.2.1 ∈ tbl := tb (i := 648) (by decide +kernel) (by decide +kernel)
theorem gf_X7_89 (X : CX p s m args RX7 G wR) (hb : c.code = cc) (hF : FH G wR H0 H locs σ) (hs : SH wR k (.inl (7, rsX7))) (hdg : decode cc pc = .ok (.getfield 89, 3)) (kk : W p l e R s m args below meth c H locs cells slots Q (F0 m (pc + 3) ls (.int (σ k 14) :: rest))) : W p l e R s m args below meth c H locs cells slots Q (F0 m pc ls (.ref (gA G k) :: rest)) := fl_geti X hb hF hs rfl (by decide) inT7 wf_X7_89 rfl hdg kk
theorem pf_X7_89 {v : Int32} (X : CX p s m args RX7 G wR) (hb : c.code = cc) (hF : FH G wR H0 H locs σ) (hs : SH wR k (.inl (7, rsX7))) (hdg : decode cc pc = .ok (.putfield 89, 3)) (kk : ∀ (H1 : Heap) (locs1 : List Loc), FH G wR H0 H1 locs1 (mup σ k 14 v) → W p l e R s m args below meth c H1 locs1 cells slots Q (F0 m (pc + 3) ls rest)) : W p l e R s m args below meth c H locs cells slots Q (F0 m pc ls (.int v :: .ref (gA G k) :: rest)) := fl_puti (ty := .int) X hb hF hs rfl (by decide) inT7 tyX7 tyX7_ok nmX7 wf_X7_89 rfl (by decide +kernel) rfl rfl rfl hdg kk
theorem wf_X7_100 : Cond.fieldLink RX7 100 (TX7 15).1 (TX7 15).2.1 (TX7 15).2.2.1 ∈ tbl := tb (i := 649) (by decide +kernel) (by decide +kernel)
theorem gf_X7_100 (X : CX p s m args RX7 G wR) (hb : c.code = cc) (hF : FH G wR H0 H locs σ) (hs : SH wR k (.inl (7, rsX7))) (hdg : decode cc pc = .ok (.getfield 100, 3)) (kk : W p l e R s m args below meth c H locs cells slots Q (F0 m (pc + 3) ls (.int (σ k 15) :: rest))) : W p l e R s m args below meth c H locs cells slots Q (F0 m pc ls (.ref (gA G k) :: rest)) := fl_geti X hb hF hs rfl (by decide) inT7 wf_X7_100 rfl hdg kk
theorem pf_X7_100 {v : Int32} (X : CX p s m args RX7 G wR) (hb : c.code = cc) (hF : FH G wR H0 H locs σ) (hs : SH wR k (.inl (7, rsX7))) (hdg : decode cc pc = .ok (.putfield 100, 3)) (kk : ∀ (H1 : Heap) (locs1 : List Loc), FH G wR H0 H1 locs1 (mup σ k 15 v) → W p l e R s m args below meth c H1 locs1 cells slots Q (F0 m (pc + 3) ls rest)) : W p l e R s m args below meth c H locs cells slots Q (F0 m pc ls (.int v :: .ref (gA G k) :: rest)) := fl_puti (ty := .int) X hb hF hs rfl (by decide) inT7 tyX7 tyX7_ok nmX7 wf_X7_100 rfl (by decide +kernel) rfl rfl rfl hdg kk
theorem wf_X7_29 : Cond.fieldLink RX7 29 (TX7 16).1 (TX7 16).2.1 (TX7 16).2.2.1 ∈ tbl := tb (i := 650) (by decide +kernel) (by decide +kernel)
theorem gf_X7_29 (X : CX p s m args RX7 G wR) (hb : c.code = cc) (hF : FH G wR H0 H locs σ) (hs : SH wR k (.inl (7, rsX7))) (hdg : decode cc pc = .ok (.getfield 29, 3)) (kk : W p l e R s m args below meth c H locs cells slots Q (F0 m (pc + 3) ls (.ref (gA G 7) :: rest))) : W p l e R s m args below meth c H locs cells slots Q (F0 m pc ls (.ref (gA G k) :: rest)) := fl_getr X hb hF hs rfl (by decide) inT7 wf_X7_29 rfl hdg kk
theorem wf_X7_32 : Cond.fieldLink RX7 32 (TX7 17).1 (TX7 17).2.1 (TX7 17).2.2.1 ∈ tbl := tb (i := 651) (by decide +kernel) (by decide +kernel)
theorem gf_X7_32 (X : CX p s m args RX7 G wR) (hb : c.code = cc) (hF : FH G wR H0 H locs σ) (hs : SH wR k (.inl (7, rsX7))) (hdg : decode cc pc = .ok (.getfield 32, 3)) (kk : W p l e R s m args below meth c H locs cells slots Q (F0 m (pc + 3) ls (.ref (gA G 8) :: rest))) : W p l e R s m args below meth c H locs cells slots Q (F0 m pc ls (.ref (gA G k) :: rest)) := fl_getr X hb hF hs rfl (by decide) inT7 wf_X7_32 rfl hdg kk
theorem wf_X7_35 : Cond.fieldLink RX7 35 (TX7 18).1 (TX7 18).2.1 (TX7 18).2.2.1 ∈ tbl := tb (i := 652) (by decide +kernel) (by decide +kernel)
theorem gf_X7_35 (X : CX p s m args RX7 G wR) (hb : c.code = cc) (hF : FH G wR H0 H locs σ) (hs : SH wR k (.inl (7, rsX7))) (hdg : decode cc pc = .ok (.getfield 35, 3)) (kk : W p l e R s m args below meth c H locs cells slots Q (F0 m (pc + 3) ls (.ref (gA G 9) :: rest))) : W p l e R s m args below meth c H locs cells slots Q (F0 m pc ls (.ref (gA G k) :: rest)) := fl_getr X hb hF hs rfl (by decide) inT7 wf_X7_35 rfl hdg kk
theorem wf_X7_38 : Cond.fieldLink RX7 38 (TX7 19).1 (TX7 19).2.1 (TX7 19).2.2.1 ∈ tbl := tb (i := 653) (by decide +kernel) (by decide +kernel)
theorem gf_X7_38 (X : CX p s m args RX7 G wR) (hb : c.code = cc) (hF : FH G wR H0 H locs σ) (hs : SH wR k (.inl (7, rsX7))) (hdg : decode cc pc = .ok (.getfield 38, 3)) (kk : W p l e R s m args below meth c H locs cells slots Q (F0 m (pc + 3) ls (.int (σ k 19) :: rest))) : W p l e R s m args below meth c H locs cells slots Q (F0 m pc ls (.ref (gA G k) :: rest)) := fl_geti X hb hF hs rfl (by decide) inT7 wf_X7_38 rfl hdg kk
theorem pf_X7_38 {v : Int32} (X : CX p s m args RX7 G wR) (hb : c.code = cc) (hF : FH G wR H0 H locs σ) (hs : SH wR k (.inl (7, rsX7))) (hdg : decode cc pc = .ok (.putfield 38, 3)) (kk : ∀ (H1 : Heap) (locs1 : List Loc), FH G wR H0 H1 locs1 (mup σ k 19 v) → W p l e R s m args below meth c H1 locs1 cells slots Q (F0 m (pc + 3) ls rest)) : W p l e R s m args below meth c H locs cells slots Q (F0 m pc ls (.int v :: .ref (gA G k) :: rest)) := fl_puti (ty := .int) X hb hF hs rfl (by decide) inT7 tyX7 tyX7_ok nmX7 wf_X7_38 rfl (by decide +kernel) rfl rfl rfl hdg kk
theorem wf_X7_132 : Cond.fieldLink RX7 132 (TX7 20).1 (TX7 20).2.1 (TX7 20).2.2.1 ∈ tbl := tb (i := 654) (by decide +kernel) (by decide +kernel)
theorem gf_X7_132 (X : CX p s m args RX7 G wR) (hb : c.code = cc) (hF : FH G wR H0 H locs σ) (hs : SH wR k (.inl (7, rsX7))) (hdg : decode cc pc = .ok (.getfield 132, 3)) (kk : W p l e R s m args below meth c H locs cells slots Q (F0 m (pc + 3) ls (.int (σ k 20) :: rest))) : W p l e R s m args below meth c H locs cells slots Q (F0 m pc ls (.ref (gA G k) :: rest)) := fl_geti X hb hF hs rfl (by decide) inT7 wf_X7_132 rfl hdg kk
theorem pf_X7_132 {v : Int32} (X : CX p s m args RX7 G wR) (hb : c.code = cc) (hF : FH G wR H0 H locs σ) (hs : SH wR k (.inl (7, rsX7))) (hdg : decode cc pc = .ok (.putfield 132, 3)) (kk : ∀ (H1 : Heap) (locs1 : List Loc), FH G wR H0 H1 locs1 (mup σ k 20 v) → W p l e R s m args below meth c H1 locs1 cells slots Q (F0 m (pc + 3) ls rest)) : W p l e R s m args below meth c H locs cells slots Q (F0 m pc ls (.int v :: .ref (gA G k) :: rest)) := fl_puti (ty := .int) X hb hF hs rfl (by decide) inT7 tyX7 tyX7_ok nmX7 wf_X7_132 rfl (by decide +kernel) rfl rfl rfl hdg kk
theorem wf_X7_42 : Cond.fieldLink RX7 42 (TX7 21).1 (TX7 21).2.1 (TX7 21).2.2.1 ∈ tbl := tb (i := 655) (by decide +kernel) (by decide +kernel)
theorem gf_X7_42 (X : CX p s m args RX7 G wR) (hb : c.code = cc) (hF : FH G wR H0 H locs σ) (hs : SH wR k (.inl (7, rsX7))) (hdg : decode cc pc = .ok (.getfield 42, 3)) (kk : W p l e R s m args below meth c H locs cells slots Q (F0 m (pc + 3) ls (.ref (gA G 10) :: rest))) : W p l e R s m args below meth c H locs cells slots Q (F0 m pc ls (.ref (gA G k) :: rest)) := fl_getr X hb hF hs rfl (by decide) inT7 wf_X7_42 rfl hdg kk
theorem wf_X7_45 : Cond.fieldLink RX7 45 (TX7 22).1 (TX7 22).2.1 (TX7 22).2.2.1 ∈ tbl := tb (i := 656) (by decide +kernel) (by decide +kernel)
theorem gf_X7_45 (X : CX p s m args RX7 G wR) (hb : c.code = cc) (hF : FH G wR H0 H locs σ) (hs : SH wR k (.inl (7, rsX7))) (hdg : decode cc pc = .ok (.getfield 45, 3)) (kk : W p l e R s m args below meth c H locs cells slots Q (F0 m (pc + 3) ls (.ref (gA G 11) :: rest))) : W p l e R s m args below meth c H locs cells slots Q (F0 m pc ls (.ref (gA G k) :: rest)) := fl_getr X hb hF hs rfl (by decide) inT7 wf_X7_45 rfl hdg kk
theorem wf_X7_48 : Cond.fieldLink RX7 48 (TX7 23).1 (TX7 23).2.1 (TX7 23).2.2.1 ∈ tbl := tb (i := 657) (by decide +kernel) (by decide +kernel)
theorem gf_X7_48 (X : CX p s m args RX7 G wR) (hb : c.code = cc) (hF : FH G wR H0 H locs σ) (hs : SH wR k (.inl (7, rsX7))) (hdg : decode cc pc = .ok (.getfield 48, 3)) (kk : W p l e R s m args below meth c H locs cells slots Q (F0 m (pc + 3) ls (.ref (gA G 12) :: rest))) : W p l e R s m args below meth c H locs cells slots Q (F0 m pc ls (.ref (gA G k) :: rest)) := fl_getr X hb hF hs rfl (by decide) inT7 wf_X7_48 rfl hdg kk
theorem wf_X7_152 : Cond.fieldLink RX7 152 (TX7 24).1 (TX7 24).2.1 (TX7 24).2.2.1 ∈ tbl := tb (i := 658) (by decide +kernel) (by decide +kernel)
theorem gf_X7_152 (X : CX p s m args RX7 G wR) (hb : c.code = cc) (hF : FH G wR H0 H locs σ) (hs : SH wR k (.inl (7, rsX7))) (hdg : decode cc pc = .ok (.getfield 152, 3)) (kk : W p l e R s m args below meth c H locs cells slots Q (F0 m (pc + 3) ls (.int (σ k 24) :: rest))) : W p l e R s m args below meth c H locs cells slots Q (F0 m pc ls (.ref (gA G k) :: rest)) := fl_geti X hb hF hs rfl (by decide) inT7 wf_X7_152 rfl hdg kk
theorem pf_X7_152 {v : Int32} (X : CX p s m args RX7 G wR) (hb : c.code = cc) (hF : FH G wR H0 H locs σ) (hs : SH wR k (.inl (7, rsX7))) (hdg : decode cc pc = .ok (.putfield 152, 3)) (kk : ∀ (H1 : Heap) (locs1 : List Loc), FH G wR H0 H1 locs1 (mup σ k 24 v) → W p l e R s m args below meth c H1 locs1 cells slots Q (F0 m (pc + 3) ls rest)) : W p l e R s m args below meth c H locs cells slots Q (F0 m pc ls (.int v :: .ref (gA G k) :: rest)) := fl_puti (ty := .int) X hb hF hs rfl (by decide) inT7 tyX7 tyX7_ok nmX7 wf_X7_152 rfl (by decide +kernel) rfl rfl rfl hdg kk
end FR
end
section
section FC
variable {p : Program} {l : Launch} {e : Env} {R : Room} {s : State} {m : MethodId} {args : Array Value} {below : List Frame} {meth : Method} {c : Code} {H H0 : Heap} {locs : List Loc} {cells slots : Nat} {Q : State → Prop} {cc : ByteArray} {pc nL : Nat} {ls : Array Slot} {rest As st0 : List Value} {G : Gl} {w : Wd} {σ σ' : Mem} {k : Nat} {rs : List (Option Nat)} {rm : Room} {v : Option Value}
theorem wc_X6_type : Cond.code yX6_type cX6_type 2 (some .int) ∈ tbl := tb (i := 264) (by decide +kernel) (by decide +kernel)
theorem wk_X6_type : Cond.instanceMethod yX6_type ∈ tbl := tb (i := 262) (by decide +kernel) (by decide +kernel)
theorem wl_X6_type : Cond.selects RX6 yX6_type yX6_type ∈ tbl := tb (i := 263) (by decide +kernel) (by decide +kernel)
theorem wi_X6 : Cond.initialized RX6 ∈ tbl := tb (i := 55) (by decide +kernel) (by decide +kernel)
theorem wm_L_13 : Cond.methodLink RL 13 yX6_type ∈ tbl := tb (i := 261) (by decide +kernel) (by decide +kernel)
theorem wc_X5_put : Cond.code yX5_put cX5_put 2 (some .boolean) ∈ tbl := tb (i := 268) (by decide +kernel) (by decide +kernel)
theorem wk_X5_put : Cond.instanceMethod yX5_put ∈ tbl := tb (i := 266) (by decide +kernel) (by decide +kernel)
theorem wl_X5_put : Cond.selects RX5 yX5_put yX5_put ∈ tbl := tb (i := 267) (by decide +kernel) (by decide +kernel)
theorem wi_X5 : Cond.initialized RX5 ∈ tbl := tb (i := 56) (by decide +kernel) (by decide +kernel)
theorem wm_X6_65 : Cond.methodLink RX6 65 yX5_put ∈ tbl := tb (i := 265) (by decide +kernel) (by decide +kernel)
theorem cm_X6_65 (X : CX p s m args RX6 G w) (hb : c.code = cc) (hml : c.maxLocals = nL) (hF : FH G w H0 H locs σ) (hM : Ct l G w yX5_put cX5_put 2 (some .boolean) rm (.ref (gA G k) :: As) σ v σ') (hs : SH w k (.inl (5, rs))) (hR : rm.frames + 1 ≤ R.frames ∧ 8 + (2 + 11) + rm.locals ≤ R.locals) (hrc : rm.cells = 0) (hrs : rm.slots = 0) (hf : cells ≤ R.cells ∧ slots ≤ R.slots) (hn : As.length = 1) (hl : ls.size = nL) (hst : st0 = As.reverse ++ .ref (gA G k) :: rest) (hW : (rest.map fun v => v.category).sum ≤ 8) (hdg : decode cc pc = .ok (.invokevirtual 65, 3)) (kk : ∀ (H1 : Heap) (locs1 : List Loc), FH G w H0 H1 locs1 σ' → W p l e R s m args below meth c H1 locs1 cells slots Q (F0 m (pc + 3) ls (v.toList ++ rest))) : W p l e R s m args below meth c H locs cells slots Q (F0 m pc ls st0) := fl_callV (n := 1) X hb hml hF hM hs rfl wm_X6_65 wk_X5_put wl_X5_put wi_X5 wc_X5_put (by decide +kernel) hrc hrs hR hf hn hl hst hW hdg kk
theorem wc_X6_clear : Cond.code yX6_clear cX6_clear 2 (some .int) ∈ tbl := tb (i := 272) (by decide +kernel) (by decide +kernel)
theorem wk_X6_clear : Cond.instanceMethod yX6_clear ∈ tbl := tb (i := 270) (by decide +kernel) (by decide +kernel)
theorem wl_X6_clear : Cond.selects RX6 yX6_clear yX6_clear ∈ tbl := tb (i := 271) (by decide +kernel) (by decide +kernel)
theorem wm_L_18 : Cond.methodLink RL 18 yX6_clear ∈ tbl := tb (i := 269) (by decide +kernel) (by decide +kernel)
theorem wc_X6_houses : Cond.code yX6_houses cX6_houses 2 (some .int) ∈ tbl := tb (i := 276) (by decide +kernel) (by decide +kernel)
theorem wk_X6_houses : Cond.instanceMethod yX6_houses ∈ tbl := tb (i := 274) (by decide +kernel) (by decide +kernel)
theorem wl_X6_houses : Cond.selects RX6 yX6_houses yX6_houses ∈ tbl := tb (i := 275) (by decide +kernel) (by decide +kernel)
theorem wm_L_23 : Cond.methodLink RL 23 yX6_houses ∈ tbl := tb (i := 273) (by decide +kernel) (by decide +kernel)
theorem wc_X5_read : Cond.code yX5_read cX5_read 3 (some .int) ∈ tbl := tb (i := 280) (by decide +kernel) (by decide +kernel)
theorem wk_X5_read : Cond.instanceMethod yX5_read ∈ tbl := tb (i := 278) (by decide +kernel) (by decide +kernel)
theorem wl_X5_read : Cond.selects RX5 yX5_read yX5_read ∈ tbl := tb (i := 279) (by decide +kernel) (by decide +kernel)
theorem wm_X6_72 : Cond.methodLink RX6 72 yX5_read ∈ tbl := tb (i := 277) (by decide +kernel) (by decide +kernel)
theorem cm_X6_72 (X : CX p s m args RX6 G w) (hb : c.code = cc) (hml : c.maxLocals = nL) (hF : FH G w H0 H locs σ) (hM : Ct l G w yX5_read cX5_read 3 (some .int) rm (.ref (gA G k) :: As) σ v σ') (hs : SH w k (.inl (5, rs))) (hR : rm.frames + 1 ≤ R.frames ∧ 8 + (3 + 11) + rm.locals ≤ R.locals) (hrc : rm.cells = 0) (hrs : rm.slots = 0) (hf : cells ≤ R.cells ∧ slots ≤ R.slots) (hn : As.length = 1) (hl : ls.size = nL) (hst : st0 = As.reverse ++ .ref (gA G k) :: rest) (hW : (rest.map fun v => v.category).sum ≤ 8) (hdg : decode cc pc = .ok (.invokevirtual 72, 3)) (kk : ∀ (H1 : Heap) (locs1 : List Loc), FH G w H0 H1 locs1 σ' → W p l e R s m args below meth c H1 locs1 cells slots Q (F0 m (pc + 3) ls (v.toList ++ rest))) : W p l e R s m args below meth c H locs cells slots Q (F0 m pc ls st0) := fl_callV (n := 1) X hb hml hF hM hs rfl wm_X6_72 wk_X5_read wl_X5_read wi_X5 wc_X5_read (by decide +kernel) hrc hrs hR hf hn hl hst hW hdg kk
theorem wc_X0_empty : Cond.code yX0_empty cX0_empty 2 none ∈ tbl := tb (i := 284) (by decide +kernel) (by decide +kernel)
theorem wk_X0_empty : Cond.instanceMethod yX0_empty ∈ tbl := tb (i := 282) (by decide +kernel) (by decide +kernel)
theorem wl_X0_empty : Cond.selects RX0 yX0_empty yX0_empty ∈ tbl := tb (i := 283) (by decide +kernel) (by decide +kernel)
theorem wi_X0 : Cond.initialized RX0 ∈ tbl := tb (i := 57) (by decide +kernel) (by decide +kernel)
theorem wm_X5_19 : Cond.methodLink RX5 19 yX0_empty ∈ tbl := tb (i := 281) (by decide +kernel) (by decide +kernel)
theorem cm_X5_19 (X : CX p s m args RX5 G w) (hb : c.code = cc) (hml : c.maxLocals = nL) (hF : FH G w H0 H locs σ) (hM : Ct l G w yX0_empty cX0_empty 2 none rm (.ref (gA G k) :: As) σ v σ') (hs : SH w k (.inl (0, rs))) (hR : rm.frames + 1 ≤ R.frames ∧ 8 + (2 + 11) + rm.locals ≤ R.locals) (hrc : rm.cells = 0) (hrs : rm.slots = 0) (hf : cells ≤ R.cells ∧ slots ≤ R.slots) (hn : As.length = 0) (hl : ls.size = nL) (hst : st0 = As.reverse ++ .ref (gA G k) :: rest) (hW : (rest.map fun v => v.category).sum ≤ 8) (hdg : decode cc pc = .ok (.invokevirtual 19, 3)) (kk : ∀ (H1 : Heap) (locs1 : List Loc), FH G w H0 H1 locs1 σ' → W p l e R s m args below meth c H1 locs1 cells slots Q (F0 m (pc + 3) ls (v.toList ++ rest))) : W p l e R s m args below meth c H locs cells slots Q (F0 m pc ls st0) := fl_callV (n := 0) X hb hml hF hM hs rfl wm_X5_19 wk_X0_empty wl_X0_empty wi_X0 wc_X0_empty (by decide +kernel) hrc hrs hR hf hn hl hst hW hdg kk
theorem wc_X2_empty : Cond.code yX2_empty cX2_empty 1 none ∈ tbl := tb (i := 288) (by decide +kernel) (by decide +kernel)
theorem wk_X2_empty : Cond.instanceMethod yX2_empty ∈ tbl := tb (i := 286) (by decide +kernel) (by decide +kernel)
theorem wl_X2_empty : Cond.selects RX2 yX2_empty yX2_empty ∈ tbl := tb (i := 287) (by decide +kernel) (by decide +kernel)
theorem wi_X2 : Cond.initialized RX2 ∈ tbl := tb (i := 58) (by decide +kernel) (by decide +kernel)
theorem wm_X0_25 : Cond.methodLink RX0 25 yX2_empty ∈ tbl := tb (i := 285) (by decide +kernel) (by decide +kernel)
theorem cm_X0_25 (X : CX p s m args RX0 G w) (hb : c.code = cc) (hml : c.maxLocals = nL) (hF : FH G w H0 H locs σ) (hM : Ct l G w yX2_empty cX2_empty 1 none rm (.ref (gA G k) :: As) σ v σ') (hs : SH w k (.inl (2, rs))) (hR : rm.frames + 1 ≤ R.frames ∧ 8 + (1 + 11) + rm.locals ≤ R.locals) (hrc : rm.cells = 0) (hrs : rm.slots = 0) (hf : cells ≤ R.cells ∧ slots ≤ R.slots) (hn : As.length = 0) (hl : ls.size = nL) (hst : st0 = As.reverse ++ .ref (gA G k) :: rest) (hW : (rest.map fun v => v.category).sum ≤ 8) (hdg : decode cc pc = .ok (.invokevirtual 25, 3)) (kk : ∀ (H1 : Heap) (locs1 : List Loc), FH G w H0 H1 locs1 σ' → W p l e R s m args below meth c H1 locs1 cells slots Q (F0 m (pc + 3) ls (v.toList ++ rest))) : W p l e R s m args below meth c H locs cells slots Q (F0 m pc ls st0) := fl_callV (n := 0) X hb hml hF hM hs rfl wm_X0_25 wk_X2_empty wl_X2_empty wi_X2 wc_X2_empty (by decide +kernel) hrc hrs hR hf hn hl hst hW hdg kk
theorem wc_X5_advance : Cond.code yX5_advance cX5_advance 2 none ∈ tbl := tb (i := 292) (by decide +kernel) (by decide +kernel)
theorem wk_X5_advance : Cond.instanceMethod yX5_advance ∈ tbl := tb (i := 291) (by decide +kernel) (by decide +kernel)
theorem wl_X5_advance : Cond.selects RX5 yX5_advance yX5_advance ∈ tbl := tb (i := 0) (by decide +kernel) (by decide +kernel)
theorem wm_X5_37 : Cond.methodLink RX5 37 yX5_advance ∈ tbl := tb (i := 289) (by decide +kernel) (by decide +kernel)
theorem cm_X5_37 (X : CX p s m args RX5 G w) (hb : c.code = cc) (hml : c.maxLocals = nL) (hF : FH G w H0 H locs σ) (hM : Ct l G w yX5_advance cX5_advance 2 none rm (.ref (gA G k) :: As) σ v σ') (hs : SH w k (.inl (5, rs))) (hR : rm.frames + 1 ≤ R.frames ∧ 8 + (2 + 11) + rm.locals ≤ R.locals) (hrc : rm.cells = 0) (hrs : rm.slots = 0) (hf : cells ≤ R.cells ∧ slots ≤ R.slots) (hn : As.length = 0) (hl : ls.size = nL) (hst : st0 = As.reverse ++ .ref (gA G k) :: rest) (hW : (rest.map fun v => v.category).sum ≤ 8) (hdg : decode cc pc = .ok (.invokevirtual 37, 3)) (kk : ∀ (H1 : Heap) (locs1 : List Loc), FH G w H0 H1 locs1 σ' → W p l e R s m args below meth c H1 locs1 cells slots Q (F0 m (pc + 3) ls (v.toList ++ rest))) : W p l e R s m args below meth c H locs cells slots Q (F0 m pc ls st0) := fl_callV (n := 0) X hb hml hF hM hs rfl wm_X5_37 wk_X5_advance wl_X5_advance wi_X5 wc_X5_advance (by decide +kernel) hrc hrs hR hf hn hl hst hW hdg kk
theorem wc_X5_isFigure : Cond.code yX5_isFigure cX5_isFigure 1 (some .boolean) ∈ tbl := tb (i := 295) (by decide +kernel) (by decide +kernel)
theorem wk_X5_isFigure : Cond.static yX5_isFigure ∈ tbl := tb (i := 294) (by decide +kernel) (by decide +kernel)
theorem wm_X5_97 : Cond.methodLink RX5 97 yX5_isFigure ∈ tbl := tb (i := 293) (by decide +kernel) (by decide +kernel)
theorem cm_X5_97 (X : CX p s m args RX5 G w) (hb : c.code = cc) (hml : c.maxLocals = nL) (hF : FH G w H0 H locs σ) (hM : Ct l G w yX5_isFigure cX5_isFigure 1 (some .boolean) rm As σ v σ') (hR : rm.frames + 1 ≤ R.frames ∧ 8 + (1 + 11) + rm.locals ≤ R.locals) (hrc : rm.cells = 0) (hrs : rm.slots = 0) (hf : cells ≤ R.cells ∧ slots ≤ R.slots) (hn : As.length = 1) (hl : ls.size = nL) (hst : st0 = As.reverse ++ rest) (hW : (rest.map fun v => v.category).sum ≤ 8) (hdg : decode cc pc = .ok (.invokestatic 97, 3)) (kk : ∀ (H1 : Heap) (locs1 : List Loc), FH G w H0 H1 locs1 σ' → W p l e R s m args below meth c H1 locs1 cells slots Q (F0 m (pc + 3) ls (v.toList ++ rest))) : W p l e R s m args below meth c H locs cells slots Q (F0 m pc ls st0) := fl_callS (n := 1) X hb hml hF hM wm_X5_97 wk_X5_isFigure wi_X5 wc_X5_isFigure (by decide +kernel) hrc hrs hR hf hn hl hst hW hdg kk
theorem wc_X5_takeNumber : Cond.code yX5_takeNumber cX5_takeNumber 4 none ∈ tbl := tb (i := 299) (by decide +kernel) (by decide +kernel)
theorem wk_X5_takeNumber : Cond.instanceMethod yX5_takeNumber ∈ tbl := tb (i := 298) (by decide +kernel) (by decide +kernel)
theorem wl_X5_takeNumber : Cond.selects RX5 yX5_takeNumber yX5_takeNumber ∈ tbl := tb (i := 1) (by decide +kernel) (by decide +kernel)
theorem wm_X5_101 : Cond.methodLink RX5 101 yX5_takeNumber ∈ tbl := tb (i := 296) (by decide +kernel) (by decide +kernel)
theorem cm_X5_101 (X : CX p s m args RX5 G w) (hb : c.code = cc) (hml : c.maxLocals = nL) (hF : FH G w H0 H locs σ) (hM : Ct l G w yX5_takeNumber cX5_takeNumber 4 none rm (.ref (gA G k) :: As) σ v σ') (hs : SH w k (.inl (5, rs))) (hR : rm.frames + 1 ≤ R.frames ∧ 8 + (4 + 11) + rm.locals ≤ R.locals) (hrc : rm.cells = 0) (hrs : rm.slots = 0) (hf : cells ≤ R.cells ∧ slots ≤ R.slots) (hn : As.length = 0) (hl : ls.size = nL) (hst : st0 = As.reverse ++ .ref (gA G k) :: rest) (hW : (rest.map fun v => v.category).sum ≤ 8) (hdg : decode cc pc = .ok (.invokevirtual 101, 3)) (kk : ∀ (H1 : Heap) (locs1 : List Loc), FH G w H0 H1 locs1 σ' → W p l e R s m args below meth c H1 locs1 cells slots Q (F0 m (pc + 3) ls (v.toList ++ rest))) : W p l e R s m args below meth c H locs cells slots Q (F0 m pc ls st0) := fl_callV (n := 0) X hb hml hF hM hs rfl wm_X5_101 wk_X5_takeNumber wl_X5_takeNumber wi_X5 wc_X5_takeNumber (by decide +kernel) hrc hrs hR hf hn hl hst hW hdg kk
theorem wc_X5_signOf : Cond.code yX5_signOf cX5_signOf 1 (some .int) ∈ tbl := tb (i := 302) (by decide +kernel) (by decide +kernel)
theorem wk_X5_signOf : Cond.static yX5_signOf ∈ tbl := tb (i := 301) (by decide +kernel) (by decide +kernel)
theorem wm_X5_104 : Cond.methodLink RX5 104 yX5_signOf ∈ tbl := tb (i := 300) (by decide +kernel) (by decide +kernel)
theorem cm_X5_104 (X : CX p s m args RX5 G w) (hb : c.code = cc) (hml : c.maxLocals = nL) (hF : FH G w H0 H locs σ) (hM : Ct l G w yX5_signOf cX5_signOf 1 (some .int) rm As σ v σ') (hR : rm.frames + 1 ≤ R.frames ∧ 8 + (1 + 11) + rm.locals ≤ R.locals) (hrc : rm.cells = 0) (hrs : rm.slots = 0) (hf : cells ≤ R.cells ∧ slots ≤ R.slots) (hn : As.length = 1) (hl : ls.size = nL) (hst : st0 = As.reverse ++ rest) (hW : (rest.map fun v => v.category).sum ≤ 8) (hdg : decode cc pc = .ok (.invokestatic 104, 3)) (kk : ∀ (H1 : Heap) (locs1 : List Loc), FH G w H0 H1 locs1 σ' → W p l e R s m args below meth c H1 locs1 cells slots Q (F0 m (pc + 3) ls (v.toList ++ rest))) : W p l e R s m args below meth c H locs cells slots Q (F0 m pc ls st0) := fl_callS (n := 1) X hb hml hF hM wm_X5_104 wk_X5_signOf wi_X5 wc_X5_signOf (by decide +kernel) hrc hrs hR hf hn hl hst hW hdg kk
theorem wc_X5_take : Cond.code yX5_take cX5_take 2 (some .boolean) ∈ tbl := tb (i := 306) (by decide +kernel) (by decide +kernel)
theorem wk_X5_take : Cond.instanceMethod yX5_take ∈ tbl := tb (i := 305) (by decide +kernel) (by decide +kernel)
theorem wl_X5_take : Cond.selects RX5 yX5_take yX5_take ∈ tbl := tb (i := 2) (by decide +kernel) (by decide +kernel)
theorem wm_X5_43 : Cond.methodLink RX5 43 yX5_take ∈ tbl := tb (i := 303) (by decide +kernel) (by decide +kernel)
theorem cm_X5_43 (X : CX p s m args RX5 G w) (hb : c.code = cc) (hml : c.maxLocals = nL) (hF : FH G w H0 H locs σ) (hM : Ct l G w yX5_take cX5_take 2 (some .boolean) rm (.ref (gA G k) :: As) σ v σ') (hs : SH w k (.inl (5, rs))) (hR : rm.frames + 1 ≤ R.frames ∧ 8 + (2 + 11) + rm.locals ≤ R.locals) (hrc : rm.cells = 0) (hrs : rm.slots = 0) (hf : cells ≤ R.cells ∧ slots ≤ R.slots) (hn : As.length = 1) (hl : ls.size = nL) (hst : st0 = As.reverse ++ .ref (gA G k) :: rest) (hW : (rest.map fun v => v.category).sum ≤ 8) (hdg : decode cc pc = .ok (.invokevirtual 43, 3)) (kk : ∀ (H1 : Heap) (locs1 : List Loc), FH G w H0 H1 locs1 σ' → W p l e R s m args below meth c H1 locs1 cells slots Q (F0 m (pc + 3) ls (v.toList ++ rest))) : W p l e R s m args below meth c H locs cells slots Q (F0 m pc ls st0) := fl_callV (n := 1) X hb hml hF hM hs rfl wm_X5_43 wk_X5_take wl_X5_take wi_X5 wc_X5_take (by decide +kernel) hrc hrs hR hf hn hl hst hW hdg kk
theorem wc_X5_takeSlackSign : Cond.code yX5_takeSlackSign cX5_takeSlackSign 2 (some .boolean) ∈ tbl := tb (i := 310) (by decide +kernel) (by decide +kernel)
theorem wk_X5_takeSlackSign : Cond.instanceMethod yX5_takeSlackSign ∈ tbl := tb (i := 309) (by decide +kernel) (by decide +kernel)
theorem wl_X5_takeSlackSign : Cond.selects RX5 yX5_takeSlackSign yX5_takeSlackSign ∈ tbl := tb (i := 3) (by decide +kernel) (by decide +kernel)
theorem wm_X5_50 : Cond.methodLink RX5 50 yX5_takeSlackSign ∈ tbl := tb (i := 307) (by decide +kernel) (by decide +kernel)
theorem cm_X5_50 (X : CX p s m args RX5 G w) (hb : c.code = cc) (hml : c.maxLocals = nL) (hF : FH G w H0 H locs σ) (hM : Ct l G w yX5_takeSlackSign cX5_takeSlackSign 2 (some .boolean) rm (.ref (gA G k) :: As) σ v σ') (hs : SH w k (.inl (5, rs))) (hR : rm.frames + 1 ≤ R.frames ∧ 8 + (2 + 11) + rm.locals ≤ R.locals) (hrc : rm.cells = 0) (hrs : rm.slots = 0) (hf : cells ≤ R.cells ∧ slots ≤ R.slots) (hn : As.length = 0) (hl : ls.size = nL) (hst : st0 = As.reverse ++ .ref (gA G k) :: rest) (hW : (rest.map fun v => v.category).sum ≤ 8) (hdg : decode cc pc = .ok (.invokevirtual 50, 3)) (kk : ∀ (H1 : Heap) (locs1 : List Loc), FH G w H0 H1 locs1 σ' → W p l e R s m args below meth c H1 locs1 cells slots Q (F0 m (pc + 3) ls (v.toList ++ rest))) : W p l e R s m args below meth c H locs cells slots Q (F0 m pc ls st0) := fl_callV (n := 0) X hb hml hF hM hs rfl wm_X5_50 wk_X5_takeSlackSign wl_X5_takeSlackSign wi_X5 wc_X5_takeSlackSign (by decide +kernel) hrc hrs hR hf hn hl hst hW hdg kk
theorem wc_X5_takeHouseSign : Cond.code yX5_takeHouseSign cX5_takeHouseSign 2 (some .boolean) ∈ tbl := tb (i := 314) (by decide +kernel) (by decide +kernel)
theorem wk_X5_takeHouseSign : Cond.instanceMethod yX5_takeHouseSign ∈ tbl := tb (i := 313) (by decide +kernel) (by decide +kernel)
theorem wl_X5_takeHouseSign : Cond.selects RX5 yX5_takeHouseSign yX5_takeHouseSign ∈ tbl := tb (i := 4) (by decide +kernel) (by decide +kernel)
theorem wm_X5_54 : Cond.methodLink RX5 54 yX5_takeHouseSign ∈ tbl := tb (i := 311) (by decide +kernel) (by decide +kernel)
theorem cm_X5_54 (X : CX p s m args RX5 G w) (hb : c.code = cc) (hml : c.maxLocals = nL) (hF : FH G w H0 H locs σ) (hM : Ct l G w yX5_takeHouseSign cX5_takeHouseSign 2 (some .boolean) rm (.ref (gA G k) :: As) σ v σ') (hs : SH w k (.inl (5, rs))) (hR : rm.frames + 1 ≤ R.frames ∧ 8 + (2 + 11) + rm.locals ≤ R.locals) (hrc : rm.cells = 0) (hrs : rm.slots = 0) (hf : cells ≤ R.cells ∧ slots ≤ R.slots) (hn : As.length = 1) (hl : ls.size = nL) (hst : st0 = As.reverse ++ .ref (gA G k) :: rest) (hW : (rest.map fun v => v.category).sum ≤ 8) (hdg : decode cc pc = .ok (.invokevirtual 54, 3)) (kk : ∀ (H1 : Heap) (locs1 : List Loc), FH G w H0 H1 locs1 σ' → W p l e R s m args below meth c H1 locs1 cells slots Q (F0 m (pc + 3) ls (v.toList ++ rest))) : W p l e R s m args below meth c H locs cells slots Q (F0 m pc ls st0) := fl_callV (n := 1) X hb hml hF hM hs rfl wm_X5_54 wk_X5_takeHouseSign wl_X5_takeHouseSign wi_X5 wc_X5_takeHouseSign (by decide +kernel) hrc hrs hR hf hn hl hst hW hdg kk
theorem wc_X5_takeSlack : Cond.code yX5_takeSlack cX5_takeSlack 2 (some .boolean) ∈ tbl := tb (i := 318) (by decide +kernel) (by decide +kernel)
theorem wk_X5_takeSlack : Cond.instanceMethod yX5_takeSlack ∈ tbl := tb (i := 317) (by decide +kernel) (by decide +kernel)
theorem wl_X5_takeSlack : Cond.selects RX5 yX5_takeSlack yX5_takeSlack ∈ tbl := tb (i := 5) (by decide +kernel) (by decide +kernel)
theorem wm_X5_57 : Cond.methodLink RX5 57 yX5_takeSlack ∈ tbl := tb (i := 315) (by decide +kernel) (by decide +kernel)
theorem cm_X5_57 (X : CX p s m args RX5 G w) (hb : c.code = cc) (hml : c.maxLocals = nL) (hF : FH G w H0 H locs σ) (hM : Ct l G w yX5_takeSlack cX5_takeSlack 2 (some .boolean) rm (.ref (gA G k) :: As) σ v σ') (hs : SH w k (.inl (5, rs))) (hR : rm.frames + 1 ≤ R.frames ∧ 8 + (2 + 11) + rm.locals ≤ R.locals) (hrc : rm.cells = 0) (hrs : rm.slots = 0) (hf : cells ≤ R.cells ∧ slots ≤ R.slots) (hn : As.length = 1) (hl : ls.size = nL) (hst : st0 = As.reverse ++ .ref (gA G k) :: rest) (hW : (rest.map fun v => v.category).sum ≤ 8) (hdg : decode cc pc = .ok (.invokevirtual 57, 3)) (kk : ∀ (H1 : Heap) (locs1 : List Loc), FH G w H0 H1 locs1 σ' → W p l e R s m args below meth c H1 locs1 cells slots Q (F0 m (pc + 3) ls (v.toList ++ rest))) : W p l e R s m args below meth c H locs cells slots Q (F0 m pc ls st0) := fl_callV (n := 1) X hb hml hF hM hs rfl wm_X5_57 wk_X5_takeSlack wl_X5_takeSlack wi_X5 wc_X5_takeSlack (by decide +kernel) hrc hrs hR hf hn hl hst hW hdg kk
theorem wc_X5_takeStop : Cond.code yX5_takeStop cX5_takeStop 1 (some .boolean) ∈ tbl := tb (i := 322) (by decide +kernel) (by decide +kernel)
theorem wk_X5_takeStop : Cond.instanceMethod yX5_takeStop ∈ tbl := tb (i := 321) (by decide +kernel) (by decide +kernel)
theorem wl_X5_takeStop : Cond.selects RX5 yX5_takeStop yX5_takeStop ∈ tbl := tb (i := 6) (by decide +kernel) (by decide +kernel)
theorem wm_X5_60 : Cond.methodLink RX5 60 yX5_takeStop ∈ tbl := tb (i := 319) (by decide +kernel) (by decide +kernel)
theorem cm_X5_60 (X : CX p s m args RX5 G w) (hb : c.code = cc) (hml : c.maxLocals = nL) (hF : FH G w H0 H locs σ) (hM : Ct l G w yX5_takeStop cX5_takeStop 1 (some .boolean) rm (.ref (gA G k) :: As) σ v σ') (hs : SH w k (.inl (5, rs))) (hR : rm.frames + 1 ≤ R.frames ∧ 8 + (1 + 11) + rm.locals ≤ R.locals) (hrc : rm.cells = 0) (hrs : rm.slots = 0) (hf : cells ≤ R.cells ∧ slots ≤ R.slots) (hn : As.length = 0) (hl : ls.size = nL) (hst : st0 = As.reverse ++ .ref (gA G k) :: rest) (hW : (rest.map fun v => v.category).sum ≤ 8) (hdg : decode cc pc = .ok (.invokevirtual 60, 3)) (kk : ∀ (H1 : Heap) (locs1 : List Loc), FH G w H0 H1 locs1 σ' → W p l e R s m args below meth c H1 locs1 cells slots Q (F0 m (pc + 3) ls (v.toList ++ rest))) : W p l e R s m args below meth c H locs cells slots Q (F0 m pc ls st0) := fl_callV (n := 0) X hb hml hF hM hs rfl wm_X5_60 wk_X5_takeStop wl_X5_takeStop wi_X5 wc_X5_takeStop (by decide +kernel) hrc hrs hR hf hn hl hst hW hdg kk
theorem wc_X5_takeEvent : Cond.code yX5_takeEvent cX5_takeEvent 3 (some .boolean) ∈ tbl := tb (i := 326) (by decide +kernel) (by decide +kernel)
theorem wk_X5_takeEvent : Cond.instanceMethod yX5_takeEvent ∈ tbl := tb (i := 325) (by decide +kernel) (by decide +kernel)
theorem wl_X5_takeEvent : Cond.selects RX5 yX5_takeEvent yX5_takeEvent ∈ tbl := tb (i := 7) (by decide +kernel) (by decide +kernel)
theorem wm_X5_63 : Cond.methodLink RX5 63 yX5_takeEvent ∈ tbl := tb (i := 323) (by decide +kernel) (by decide +kernel)
theorem cm_X5_63 (X : CX p s m args RX5 G w) (hb : c.code = cc) (hml : c.maxLocals = nL) (hF : FH G w H0 H locs σ) (hM : Ct l G w yX5_takeEvent cX5_takeEvent 3 (some .boolean) rm (.ref (gA G k) :: As) σ v σ') (hs : SH w k (.inl (5, rs))) (hR : rm.frames + 1 ≤ R.frames ∧ 8 + (3 + 11) + rm.locals ≤ R.locals) (hrc : rm.cells = 0) (hrs : rm.slots = 0) (hf : cells ≤ R.cells ∧ slots ≤ R.slots) (hn : As.length = 1) (hl : ls.size = nL) (hst : st0 = As.reverse ++ .ref (gA G k) :: rest) (hW : (rest.map fun v => v.category).sum ≤ 8) (hdg : decode cc pc = .ok (.invokevirtual 63, 3)) (kk : ∀ (H1 : Heap) (locs1 : List Loc), FH G w H0 H1 locs1 σ' → W p l e R s m args below meth c H1 locs1 cells slots Q (F0 m (pc + 3) ls (v.toList ++ rest))) : W p l e R s m args below meth c H locs cells slots Q (F0 m pc ls st0) := fl_callV (n := 1) X hb hml hF hM hs rfl wm_X5_63 wk_X5_takeEvent wl_X5_takeEvent wi_X5 wc_X5_takeEvent (by decide +kernel) hrc hrs hR hf hn hl hst hW hdg kk
theorem wc_X0_latest : Cond.code yX0_latest cX0_latest 1 (some (.object "YearLines$House")) ∈ tbl := tb (i := 330) (by decide +kernel) (by decide +kernel)
theorem wk_X0_latest : Cond.instanceMethod yX0_latest ∈ tbl := tb (i := 328) (by decide +kernel) (by decide +kernel)
theorem wl_X0_latest : Cond.selects RX0 yX0_latest yX0_latest ∈ tbl := tb (i := 329) (by decide +kernel) (by decide +kernel)
theorem wm_X5_76 : Cond.methodLink RX5 76 yX0_latest ∈ tbl := tb (i := 327) (by decide +kernel) (by decide +kernel)
theorem cm_X5_76 (X : CX p s m args RX5 G w) (hb : c.code = cc) (hml : c.maxLocals = nL) (hF : FH G w H0 H locs σ) (hM : Ct l G w yX0_latest cX0_latest 1 (some (.object "YearLines$House")) rm (.ref (gA G k) :: As) σ v σ') (hs : SH w k (.inl (0, rs))) (hR : rm.frames + 1 ≤ R.frames ∧ 8 + (1 + 11) + rm.locals ≤ R.locals) (hrc : rm.cells = 0) (hrs : rm.slots = 0) (hf : cells ≤ R.cells ∧ slots ≤ R.slots) (hn : As.length = 0) (hl : ls.size = nL) (hst : st0 = As.reverse ++ .ref (gA G k) :: rest) (hW : (rest.map fun v => v.category).sum ≤ 8) (hdg : decode cc pc = .ok (.invokevirtual 76, 3)) (kk : ∀ (H1 : Heap) (locs1 : List Loc), FH G w H0 H1 locs1 σ' → W p l e R s m args below meth c H1 locs1 cells slots Q (F0 m (pc + 3) ls (v.toList ++ rest))) : W p l e R s m args below meth c H locs cells slots Q (F0 m pc ls st0) := fl_callV (n := 0) X hb hml hF hM hs rfl wm_X5_76 wk_X0_latest wl_X0_latest wi_X0 wc_X0_latest (by decide +kernel) hrc hrs hR hf hn hl hst hW hdg kk
theorem wc_X2_placeOf : Cond.code yX2_placeOf cX2_placeOf 3 (some .int) ∈ tbl := tb (i := 334) (by decide +kernel) (by decide +kernel)
theorem wk_X2_placeOf : Cond.instanceMethod yX2_placeOf ∈ tbl := tb (i := 332) (by decide +kernel) (by decide +kernel)
theorem wl_X2_placeOf : Cond.selects RX2 yX2_placeOf yX2_placeOf ∈ tbl := tb (i := 333) (by decide +kernel) (by decide +kernel)
theorem wm_X5_86 : Cond.methodLink RX5 86 yX2_placeOf ∈ tbl := tb (i := 331) (by decide +kernel) (by decide +kernel)
theorem cm_X5_86 (X : CX p s m args RX5 G w) (hb : c.code = cc) (hml : c.maxLocals = nL) (hF : FH G w H0 H locs σ) (hM : Ct l G w yX2_placeOf cX2_placeOf 3 (some .int) rm (.ref (gA G k) :: As) σ v σ') (hs : SH w k (.inl (2, rs))) (hR : rm.frames + 1 ≤ R.frames ∧ 8 + (3 + 11) + rm.locals ≤ R.locals) (hrc : rm.cells = 0) (hrs : rm.slots = 0) (hf : cells ≤ R.cells ∧ slots ≤ R.slots) (hn : As.length = 1) (hl : ls.size = nL) (hst : st0 = As.reverse ++ .ref (gA G k) :: rest) (hW : (rest.map fun v => v.category).sum ≤ 8) (hdg : decode cc pc = .ok (.invokevirtual 86, 3)) (kk : ∀ (H1 : Heap) (locs1 : List Loc), FH G w H0 H1 locs1 σ' → W p l e R s m args below meth c H1 locs1 cells slots Q (F0 m (pc + 3) ls (v.toList ++ rest))) : W p l e R s m args below meth c H locs cells slots Q (F0 m pc ls st0) := fl_callV (n := 1) X hb hml hF hM hs rfl wm_X5_86 wk_X2_placeOf wl_X2_placeOf wi_X2 wc_X2_placeOf (by decide +kernel) hrc hrs hR hf hn hl hst hW hdg kk
theorem wc_X2_isStruck : Cond.code yX2_isStruck cX2_isStruck 2 (some .boolean) ∈ tbl := tb (i := 338) (by decide +kernel) (by decide +kernel)
theorem wk_X2_isStruck : Cond.instanceMethod yX2_isStruck ∈ tbl := tb (i := 336) (by decide +kernel) (by decide +kernel)
theorem wl_X2_isStruck : Cond.selects RX2 yX2_isStruck yX2_isStruck ∈ tbl := tb (i := 337) (by decide +kernel) (by decide +kernel)
theorem wm_X2_31 : Cond.methodLink RX2 31 yX2_isStruck ∈ tbl := tb (i := 335) (by decide +kernel) (by decide +kernel)
theorem cm_X2_31 (X : CX p s m args RX2 G w) (hb : c.code = cc) (hml : c.maxLocals = nL) (hF : FH G w H0 H locs σ) (hM : Ct l G w yX2_isStruck cX2_isStruck 2 (some .boolean) rm (.ref (gA G k) :: As) σ v σ') (hs : SH w k (.inl (2, rs))) (hR : rm.frames + 1 ≤ R.frames ∧ 8 + (2 + 11) + rm.locals ≤ R.locals) (hrc : rm.cells = 0) (hrs : rm.slots = 0) (hf : cells ≤ R.cells ∧ slots ≤ R.slots) (hn : As.length = 1) (hl : ls.size = nL) (hst : st0 = As.reverse ++ .ref (gA G k) :: rest) (hW : (rest.map fun v => v.category).sum ≤ 8) (hdg : decode cc pc = .ok (.invokevirtual 31, 3)) (kk : ∀ (H1 : Heap) (locs1 : List Loc), FH G w H0 H1 locs1 σ' → W p l e R s m args below meth c H1 locs1 cells slots Q (F0 m (pc + 3) ls (v.toList ++ rest))) : W p l e R s m args below meth c H locs cells slots Q (F0 m pc ls st0) := fl_callV (n := 1) X hb hml hF hM hs rfl wm_X2_31 wk_X2_isStruck wl_X2_isStruck wi_X2 wc_X2_isStruck (by decide +kernel) hrc hrs hR hf hn hl hst hW hdg kk
theorem wc_X5_takeYear : Cond.code yX5_takeYear cX5_takeYear 3 (some .boolean) ∈ tbl := tb (i := 342) (by decide +kernel) (by decide +kernel)
theorem wk_X5_takeYear : Cond.instanceMethod yX5_takeYear ∈ tbl := tb (i := 341) (by decide +kernel) (by decide +kernel)
theorem wl_X5_takeYear : Cond.selects RX5 yX5_takeYear yX5_takeYear ∈ tbl := tb (i := 8) (by decide +kernel) (by decide +kernel)
theorem wm_X5_66 : Cond.methodLink RX5 66 yX5_takeYear ∈ tbl := tb (i := 339) (by decide +kernel) (by decide +kernel)
theorem cm_X5_66 (X : CX p s m args RX5 G w) (hb : c.code = cc) (hml : c.maxLocals = nL) (hF : FH G w H0 H locs σ) (hM : Ct l G w yX5_takeYear cX5_takeYear 3 (some .boolean) rm (.ref (gA G k) :: As) σ v σ') (hs : SH w k (.inl (5, rs))) (hR : rm.frames + 1 ≤ R.frames ∧ 8 + (3 + 11) + rm.locals ≤ R.locals) (hrc : rm.cells = 0) (hrs : rm.slots = 0) (hf : cells ≤ R.cells ∧ slots ≤ R.slots) (hn : As.length = 1) (hl : ls.size = nL) (hst : st0 = As.reverse ++ .ref (gA G k) :: rest) (hW : (rest.map fun v => v.category).sum ≤ 8) (hdg : decode cc pc = .ok (.invokevirtual 66, 3)) (kk : ∀ (H1 : Heap) (locs1 : List Loc), FH G w H0 H1 locs1 σ' → W p l e R s m args below meth c H1 locs1 cells slots Q (F0 m (pc + 3) ls (v.toList ++ rest))) : W p l e R s m args below meth c H locs cells slots Q (F0 m pc ls st0) := fl_callV (n := 1) X hb hml hF hM hs rfl wm_X5_66 wk_X5_takeYear wl_X5_takeYear wi_X5 wc_X5_takeYear (by decide +kernel) hrc hrs hR hf hn hl hst hW hdg kk
theorem wc_X2_mayTell : Cond.code yX2_mayTell cX2_mayTell 5 (some .boolean) ∈ tbl := tb (i := 346) (by decide +kernel) (by decide +kernel)
theorem wk_X2_mayTell : Cond.instanceMethod yX2_mayTell ∈ tbl := tb (i := 344) (by decide +kernel) (by decide +kernel)
theorem wl_X2_mayTell : Cond.selects RX2 yX2_mayTell yX2_mayTell ∈ tbl := tb (i := 345) (by decide +kernel) (by decide +kernel)
theorem wm_X5_90 : Cond.methodLink RX5 90 yX2_mayTell ∈ tbl := tb (i := 343) (by decide +kernel) (by decide +kernel)
theorem cm_X5_90 (X : CX p s m args RX5 G w) (hb : c.code = cc) (hml : c.maxLocals = nL) (hF : FH G w H0 H locs σ) (hM : Ct l G w yX2_mayTell cX2_mayTell 5 (some .boolean) rm (.ref (gA G k) :: As) σ v σ') (hs : SH w k (.inl (2, rs))) (hR : rm.frames + 1 ≤ R.frames ∧ 8 + (5 + 11) + rm.locals ≤ R.locals) (hrc : rm.cells = 0) (hrs : rm.slots = 0) (hf : cells ≤ R.cells ∧ slots ≤ R.slots) (hn : As.length = 2) (hl : ls.size = nL) (hst : st0 = As.reverse ++ .ref (gA G k) :: rest) (hW : (rest.map fun v => v.category).sum ≤ 8) (hdg : decode cc pc = .ok (.invokevirtual 90, 3)) (kk : ∀ (H1 : Heap) (locs1 : List Loc), FH G w H0 H1 locs1 σ' → W p l e R s m args below meth c H1 locs1 cells slots Q (F0 m (pc + 3) ls (v.toList ++ rest))) : W p l e R s m args below meth c H locs cells slots Q (F0 m pc ls st0) := fl_callV (n := 2) X hb hml hF hM hs rfl wm_X5_90 wk_X2_mayTell wl_X2_mayTell wi_X2 wc_X2_mayTell (by decide +kernel) hrc hrs hR hf hn hl hst hW hdg kk
theorem wc_X2_add : Cond.code yX2_add cX2_add 3 (some .boolean) ∈ tbl := tb (i := 350) (by decide +kernel) (by decide +kernel)
theorem wk_X2_add : Cond.instanceMethod yX2_add ∈ tbl := tb (i := 348) (by decide +kernel) (by decide +kernel)
theorem wl_X2_add : Cond.selects RX2 yX2_add yX2_add ∈ tbl := tb (i := 349) (by decide +kernel) (by decide +kernel)
theorem wm_X5_94 : Cond.methodLink RX5 94 yX2_add ∈ tbl := tb (i := 347) (by decide +kernel) (by decide +kernel)
theorem cm_X5_94 (X : CX p s m args RX5 G w) (hb : c.code = cc) (hml : c.maxLocals = nL) (hF : FH G w H0 H locs σ) (hM : Ct l G w yX2_add cX2_add 3 (some .boolean) rm (.ref (gA G k) :: As) σ v σ') (hs : SH w k (.inl (2, rs))) (hR : rm.frames + 1 ≤ R.frames ∧ 8 + (3 + 11) + rm.locals ≤ R.locals) (hrc : rm.cells = 0) (hrs : rm.slots = 0) (hf : cells ≤ R.cells ∧ slots ≤ R.slots) (hn : As.length = 2) (hl : ls.size = nL) (hst : st0 = As.reverse ++ .ref (gA G k) :: rest) (hW : (rest.map fun v => v.category).sum ≤ 8) (hdg : decode cc pc = .ok (.invokevirtual 94, 3)) (kk : ∀ (H1 : Heap) (locs1 : List Loc), FH G w H0 H1 locs1 σ' → W p l e R s m args below meth c H1 locs1 cells slots Q (F0 m (pc + 3) ls (v.toList ++ rest))) : W p l e R s m args below meth c H locs cells slots Q (F0 m pc ls st0) := fl_callV (n := 2) X hb hml hF hM hs rfl wm_X5_94 wk_X2_add wl_X2_add wi_X2 wc_X2_add (by decide +kernel) hrc hrs hR hf hn hl hst hW hdg kk
theorem wc_X0_copy : Cond.code yX0_copy cX0_copy 3 none ∈ tbl := tb (i := 354) (by decide +kernel) (by decide +kernel)
theorem wk_X0_copy : Cond.instanceMethod yX0_copy ∈ tbl := tb (i := 352) (by decide +kernel) (by decide +kernel)
theorem wl_X0_copy : Cond.selects RX0 yX0_copy yX0_copy ∈ tbl := tb (i := 353) (by decide +kernel) (by decide +kernel)
theorem wm_X6_76 : Cond.methodLink RX6 76 yX0_copy ∈ tbl := tb (i := 351) (by decide +kernel) (by decide +kernel)
theorem cm_X6_76 (X : CX p s m args RX6 G w) (hb : c.code = cc) (hml : c.maxLocals = nL) (hF : FH G w H0 H locs σ) (hM : Ct l G w yX0_copy cX0_copy 3 none rm (.ref (gA G k) :: As) σ v σ') (hs : SH w k (.inl (0, rs))) (hR : rm.frames + 1 ≤ R.frames ∧ 8 + (3 + 11) + rm.locals ≤ R.locals) (hrc : rm.cells = 0) (hrs : rm.slots = 0) (hf : cells ≤ R.cells ∧ slots ≤ R.slots) (hn : As.length = 1) (hl : ls.size = nL) (hst : st0 = As.reverse ++ .ref (gA G k) :: rest) (hW : (rest.map fun v => v.category).sum ≤ 8) (hdg : decode cc pc = .ok (.invokevirtual 76, 3)) (kk : ∀ (H1 : Heap) (locs1 : List Loc), FH G w H0 H1 locs1 σ' → W p l e R s m args below meth c H1 locs1 cells slots Q (F0 m (pc + 3) ls (v.toList ++ rest))) : W p l e R s m args below meth c H locs cells slots Q (F0 m pc ls st0) := fl_callV (n := 1) X hb hml hF hM hs rfl wm_X6_76 wk_X0_copy wl_X0_copy wi_X0 wc_X0_copy (by decide +kernel) hrc hrs hR hf hn hl hst hW hdg kk
theorem wc_X2_copy : Cond.code yX2_copy cX2_copy 3 none ∈ tbl := tb (i := 358) (by decide +kernel) (by decide +kernel)
theorem wk_X2_copy : Cond.instanceMethod yX2_copy ∈ tbl := tb (i := 356) (by decide +kernel) (by decide +kernel)
theorem wl_X2_copy : Cond.selects RX2 yX2_copy yX2_copy ∈ tbl := tb (i := 357) (by decide +kernel) (by decide +kernel)
theorem wm_X0_28 : Cond.methodLink RX0 28 yX2_copy ∈ tbl := tb (i := 355) (by decide +kernel) (by decide +kernel)
theorem cm_X0_28 (X : CX p s m args RX0 G w) (hb : c.code = cc) (hml : c.maxLocals = nL) (hF : FH G w H0 H locs σ) (hM : Ct l G w yX2_copy cX2_copy 3 none rm (.ref (gA G k) :: As) σ v σ') (hs : SH w k (.inl (2, rs))) (hR : rm.frames + 1 ≤ R.frames ∧ 8 + (3 + 11) + rm.locals ≤ R.locals) (hrc : rm.cells = 0) (hrs : rm.slots = 0) (hf : cells ≤ R.cells ∧ slots ≤ R.slots) (hn : As.length = 1) (hl : ls.size = nL) (hst : st0 = As.reverse ++ .ref (gA G k) :: rest) (hW : (rest.map fun v => v.category).sum ≤ 8) (hdg : decode cc pc = .ok (.invokevirtual 28, 3)) (kk : ∀ (H1 : Heap) (locs1 : List Loc), FH G w H0 H1 locs1 σ' → W p l e R s m args below meth c H1 locs1 cells slots Q (F0 m (pc + 3) ls (v.toList ++ rest))) : W p l e R s m args below meth c H locs cells slots Q (F0 m pc ls st0) := fl_callV (n := 1) X hb hml hF hM hs rfl wm_X0_28 wk_X2_copy wl_X2_copy wi_X2 wc_X2_copy (by decide +kernel) hrc hrs hR hf hn hl hst hW hdg kk
theorem wc_X6_entry : Cond.code yX6_entry cX6_entry 5 (some .int) ∈ tbl := tb (i := 362) (by decide +kernel) (by decide +kernel)
theorem wk_X6_entry : Cond.instanceMethod yX6_entry ∈ tbl := tb (i := 360) (by decide +kernel) (by decide +kernel)
theorem wl_X6_entry : Cond.selects RX6 yX6_entry yX6_entry ∈ tbl := tb (i := 361) (by decide +kernel) (by decide +kernel)
theorem wm_L_27 : Cond.methodLink RL 27 yX6_entry ∈ tbl := tb (i := 359) (by decide +kernel) (by decide +kernel)
theorem wc_X0_hasEntry : Cond.code yX0_hasEntry cX0_hasEntry 3 (some .boolean) ∈ tbl := tb (i := 366) (by decide +kernel) (by decide +kernel)
theorem wk_X0_hasEntry : Cond.instanceMethod yX0_hasEntry ∈ tbl := tb (i := 364) (by decide +kernel) (by decide +kernel)
theorem wl_X0_hasEntry : Cond.selects RX0 yX0_hasEntry yX0_hasEntry ∈ tbl := tb (i := 365) (by decide +kernel) (by decide +kernel)
theorem wm_X6_81 : Cond.methodLink RX6 81 yX0_hasEntry ∈ tbl := tb (i := 363) (by decide +kernel) (by decide +kernel)
theorem cm_X6_81 (X : CX p s m args RX6 G w) (hb : c.code = cc) (hml : c.maxLocals = nL) (hF : FH G w H0 H locs σ) (hM : Ct l G w yX0_hasEntry cX0_hasEntry 3 (some .boolean) rm (.ref (gA G k) :: As) σ v σ') (hs : SH w k (.inl (0, rs))) (hR : rm.frames + 1 ≤ R.frames ∧ 8 + (3 + 11) + rm.locals ≤ R.locals) (hrc : rm.cells = 0) (hrs : rm.slots = 0) (hf : cells ≤ R.cells ∧ slots ≤ R.slots) (hn : As.length = 2) (hl : ls.size = nL) (hst : st0 = As.reverse ++ .ref (gA G k) :: rest) (hW : (rest.map fun v => v.category).sum ≤ 8) (hdg : decode cc pc = .ok (.invokevirtual 81, 3)) (kk : ∀ (H1 : Heap) (locs1 : List Loc), FH G w H0 H1 locs1 σ' → W p l e R s m args below meth c H1 locs1 cells slots Q (F0 m (pc + 3) ls (v.toList ++ rest))) : W p l e R s m args below meth c H locs cells slots Q (F0 m pc ls st0) := fl_callV (n := 2) X hb hml hF hM hs rfl wm_X6_81 wk_X0_hasEntry wl_X0_hasEntry wi_X0 wc_X0_hasEntry (by decide +kernel) hrc hrs hR hf hn hl hst hW hdg kk
theorem wc_X0_hasHouse : Cond.code yX0_hasHouse cX0_hasHouse 2 (some .boolean) ∈ tbl := tb (i := 370) (by decide +kernel) (by decide +kernel)
theorem wk_X0_hasHouse : Cond.instanceMethod yX0_hasHouse ∈ tbl := tb (i := 368) (by decide +kernel) (by decide +kernel)
theorem wl_X0_hasHouse : Cond.selects RX0 yX0_hasHouse yX0_hasHouse ∈ tbl := tb (i := 369) (by decide +kernel) (by decide +kernel)
theorem wm_X0_32 : Cond.methodLink RX0 32 yX0_hasHouse ∈ tbl := tb (i := 367) (by decide +kernel) (by decide +kernel)
theorem cm_X0_32 (X : CX p s m args RX0 G w) (hb : c.code = cc) (hml : c.maxLocals = nL) (hF : FH G w H0 H locs σ) (hM : Ct l G w yX0_hasHouse cX0_hasHouse 2 (some .boolean) rm (.ref (gA G k) :: As) σ v σ') (hs : SH w k (.inl (0, rs))) (hR : rm.frames + 1 ≤ R.frames ∧ 8 + (2 + 11) + rm.locals ≤ R.locals) (hrc : rm.cells = 0) (hrs : rm.slots = 0) (hf : cells ≤ R.cells ∧ slots ≤ R.slots) (hn : As.length = 1) (hl : ls.size = nL) (hst : st0 = As.reverse ++ .ref (gA G k) :: rest) (hW : (rest.map fun v => v.category).sum ≤ 8) (hdg : decode cc pc = .ok (.invokevirtual 32, 3)) (kk : ∀ (H1 : Heap) (locs1 : List Loc), FH G w H0 H1 locs1 σ' → W p l e R s m args below meth c H1 locs1 cells slots Q (F0 m (pc + 3) ls (v.toList ++ rest))) : W p l e R s m args below meth c H locs cells slots Q (F0 m pc ls st0) := fl_callV (n := 1) X hb hml hF hM hs rfl wm_X0_32 wk_X0_hasHouse wl_X0_hasHouse wi_X0 wc_X0_hasHouse (by decide +kernel) hrc hrs hR hf hn hl hst hW hdg kk
theorem wm_X6_97 : Cond.methodLink RX6 97 yX2_isStruck ∈ tbl := tb (i := 371) (by decide +kernel) (by decide +kernel)
theorem cm_X6_97 (X : CX p s m args RX6 G w) (hb : c.code = cc) (hml : c.maxLocals = nL) (hF : FH G w H0 H locs σ) (hM : Ct l G w yX2_isStruck cX2_isStruck 2 (some .boolean) rm (.ref (gA G k) :: As) σ v σ') (hs : SH w k (.inl (2, rs))) (hR : rm.frames + 1 ≤ R.frames ∧ 8 + (2 + 11) + rm.locals ≤ R.locals) (hrc : rm.cells = 0) (hrs : rm.slots = 0) (hf : cells ≤ R.cells ∧ slots ≤ R.slots) (hn : As.length = 1) (hl : ls.size = nL) (hst : st0 = As.reverse ++ .ref (gA G k) :: rest) (hW : (rest.map fun v => v.category).sum ≤ 8) (hdg : decode cc pc = .ok (.invokevirtual 97, 3)) (kk : ∀ (H1 : Heap) (locs1 : List Loc), FH G w H0 H1 locs1 σ' → W p l e R s m args below meth c H1 locs1 cells slots Q (F0 m (pc + 3) ls (v.toList ++ rest))) : W p l e R s m args below meth c H locs cells slots Q (F0 m pc ls st0) := fl_callV (n := 1) X hb hml hF hM hs rfl wm_X6_97 wk_X2_isStruck wl_X2_isStruck wi_X2 wc_X2_isStruck (by decide +kernel) hrc hrs hR hf hn hl hst hW hdg kk
theorem wc_X6_strikes : Cond.code yX6_strikes cX6_strikes 4 (some .int) ∈ tbl := tb (i := 375) (by decide +kernel) (by decide +kernel)
theorem wk_X6_strikes : Cond.instanceMethod yX6_strikes ∈ tbl := tb (i := 373) (by decide +kernel) (by decide +kernel)
theorem wl_X6_strikes : Cond.selects RX6 yX6_strikes yX6_strikes ∈ tbl := tb (i := 374) (by decide +kernel) (by decide +kernel)
theorem wm_L_32 : Cond.methodLink RL 32 yX6_strikes ∈ tbl := tb (i := 372) (by decide +kernel) (by decide +kernel)
theorem wc_X1_add : Cond.code yX1_add cX1_add 5 none ∈ tbl := tb (i := 379) (by decide +kernel) (by decide +kernel)
theorem wk_X1_add : Cond.instanceMethod yX1_add ∈ tbl := tb (i := 377) (by decide +kernel) (by decide +kernel)
theorem wl_X1_add : Cond.selects RX1 yX1_add yX1_add ∈ tbl := tb (i := 378) (by decide +kernel) (by decide +kernel)
theorem wi_X1 : Cond.initialized RX1 ∈ tbl := tb (i := 59) (by decide +kernel) (by decide +kernel)
theorem wm_X6_100 : Cond.methodLink RX6 100 yX1_add ∈ tbl := tb (i := 376) (by decide +kernel) (by decide +kernel)
theorem cm_X6_100 (X : CX p s m args RX6 G w) (hb : c.code = cc) (hml : c.maxLocals = nL) (hF : FH G w H0 H locs σ) (hM : Ct l G w yX1_add cX1_add 5 none rm (.ref (gA G k) :: As) σ v σ') (hs : SH w k (.inl (1, rs))) (hR : rm.frames + 1 ≤ R.frames ∧ 8 + (5 + 11) + rm.locals ≤ R.locals) (hrc : rm.cells = 0) (hrs : rm.slots = 0) (hf : cells ≤ R.cells ∧ slots ≤ R.slots) (hn : As.length = 4) (hl : ls.size = nL) (hst : st0 = As.reverse ++ .ref (gA G k) :: rest) (hW : (rest.map fun v => v.category).sum ≤ 8) (hdg : decode cc pc = .ok (.invokevirtual 100, 3)) (kk : ∀ (H1 : Heap) (locs1 : List Loc), FH G w H0 H1 locs1 σ' → W p l e R s m args below meth c H1 locs1 cells slots Q (F0 m (pc + 3) ls (v.toList ++ rest))) : W p l e R s m args below meth c H locs cells slots Q (F0 m pc ls st0) := fl_callV (n := 4) X hb hml hF hM hs rfl wm_X6_100 wk_X1_add wl_X1_add wi_X1 wc_X1_add (by decide +kernel) hrc hrs hR hf hn hl hst hW hdg kk
theorem wc_X1_loseOldest : Cond.code yX1_loseOldest cX1_loseOldest 2 none ∈ tbl := tb (i := 383) (by decide +kernel) (by decide +kernel)
theorem wk_X1_loseOldest : Cond.instanceMethod yX1_loseOldest ∈ tbl := tb (i := 382) (by decide +kernel) (by decide +kernel)
theorem wl_X1_loseOldest : Cond.selects RX1 yX1_loseOldest yX1_loseOldest ∈ tbl := tb (i := 9) (by decide +kernel) (by decide +kernel)
theorem wm_X1_28 : Cond.methodLink RX1 28 yX1_loseOldest ∈ tbl := tb (i := 380) (by decide +kernel) (by decide +kernel)
theorem cm_X1_28 (X : CX p s m args RX1 G w) (hb : c.code = cc) (hml : c.maxLocals = nL) (hF : FH G w H0 H locs σ) (hM : Ct l G w yX1_loseOldest cX1_loseOldest 2 none rm (.ref (gA G k) :: As) σ v σ') (hs : SH w k (.inl (1, rs))) (hR : rm.frames + 1 ≤ R.frames ∧ 8 + (2 + 11) + rm.locals ≤ R.locals) (hrc : rm.cells = 0) (hrs : rm.slots = 0) (hf : cells ≤ R.cells ∧ slots ≤ R.slots) (hn : As.length = 0) (hl : ls.size = nL) (hst : st0 = As.reverse ++ .ref (gA G k) :: rest) (hW : (rest.map fun v => v.category).sum ≤ 8) (hdg : decode cc pc = .ok (.invokevirtual 28, 3)) (kk : ∀ (H1 : Heap) (locs1 : List Loc), FH G w H0 H1 locs1 σ' → W p l e R s m args below meth c H1 locs1 cells slots Q (F0 m (pc + 3) ls (v.toList ++ rest))) : W p l e R s m args below meth c H locs cells slots Q (F0 m pc ls st0) := fl_callV (n := 0) X hb hml hF hM hs rfl wm_X1_28 wk_X1_loseOldest wl_X1_loseOldest wi_X1 wc_X1_loseOldest (by decide +kernel) hrc hrs hR hf hn hl hst hW hdg kk
theorem wc_X2_turn : Cond.code yX2_turn cX2_turn 2 none ∈ tbl := tb (i := 387) (by decide +kernel) (by decide +kernel)
theorem wk_X2_turn : Cond.instanceMethod yX2_turn ∈ tbl := tb (i := 385) (by decide +kernel) (by decide +kernel)
theorem wl_X2_turn : Cond.selects RX2 yX2_turn yX2_turn ∈ tbl := tb (i := 386) (by decide +kernel) (by decide +kernel)
theorem wm_X6_104 : Cond.methodLink RX6 104 yX2_turn ∈ tbl := tb (i := 384) (by decide +kernel) (by decide +kernel)
theorem cm_X6_104 (X : CX p s m args RX6 G w) (hb : c.code = cc) (hml : c.maxLocals = nL) (hF : FH G w H0 H locs σ) (hM : Ct l G w yX2_turn cX2_turn 2 none rm (.ref (gA G k) :: As) σ v σ') (hs : SH w k (.inl (2, rs))) (hR : rm.frames + 1 ≤ R.frames ∧ 8 + (2 + 11) + rm.locals ≤ R.locals) (hrc : rm.cells = 0) (hrs : rm.slots = 0) (hf : cells ≤ R.cells ∧ slots ≤ R.slots) (hn : As.length = 1) (hl : ls.size = nL) (hst : st0 = As.reverse ++ .ref (gA G k) :: rest) (hW : (rest.map fun v => v.category).sum ≤ 8) (hdg : decode cc pc = .ok (.invokevirtual 104, 3)) (kk : ∀ (H1 : Heap) (locs1 : List Loc), FH G w H0 H1 locs1 σ' → W p l e R s m args below meth c H1 locs1 cells slots Q (F0 m (pc + 3) ls (v.toList ++ rest))) : W p l e R s m args below meth c H locs cells slots Q (F0 m pc ls st0) := fl_callV (n := 1) X hb hml hF hM hs rfl wm_X6_104 wk_X2_turn wl_X2_turn wi_X2 wc_X2_turn (by decide +kernel) hrc hrs hR hf hn hl hst hW hdg kk
theorem wc_X6_tells : Cond.code yX6_tells cX6_tells 6 (some .int) ∈ tbl := tb (i := 391) (by decide +kernel) (by decide +kernel)
theorem wk_X6_tells : Cond.instanceMethod yX6_tells ∈ tbl := tb (i := 389) (by decide +kernel) (by decide +kernel)
theorem wl_X6_tells : Cond.selects RX6 yX6_tells yX6_tells ∈ tbl := tb (i := 390) (by decide +kernel) (by decide +kernel)
theorem wm_L_37 : Cond.methodLink RL 37 yX6_tells ∈ tbl := tb (i := 388) (by decide +kernel) (by decide +kernel)
theorem wm_X6_108 : Cond.methodLink RX6 108 yX2_mayTell ∈ tbl := tb (i := 392) (by decide +kernel) (by decide +kernel)
theorem cm_X6_108 (X : CX p s m args RX6 G w) (hb : c.code = cc) (hml : c.maxLocals = nL) (hF : FH G w H0 H locs σ) (hM : Ct l G w yX2_mayTell cX2_mayTell 5 (some .boolean) rm (.ref (gA G k) :: As) σ v σ') (hs : SH w k (.inl (2, rs))) (hR : rm.frames + 1 ≤ R.frames ∧ 8 + (5 + 11) + rm.locals ≤ R.locals) (hrc : rm.cells = 0) (hrs : rm.slots = 0) (hf : cells ≤ R.cells ∧ slots ≤ R.slots) (hn : As.length = 2) (hl : ls.size = nL) (hst : st0 = As.reverse ++ .ref (gA G k) :: rest) (hW : (rest.map fun v => v.category).sum ≤ 8) (hdg : decode cc pc = .ok (.invokevirtual 108, 3)) (kk : ∀ (H1 : Heap) (locs1 : List Loc), FH G w H0 H1 locs1 σ' → W p l e R s m args below meth c H1 locs1 cells slots Q (F0 m (pc + 3) ls (v.toList ++ rest))) : W p l e R s m args below meth c H locs cells slots Q (F0 m pc ls st0) := fl_callV (n := 2) X hb hml hF hM hs rfl wm_X6_108 wk_X2_mayTell wl_X2_mayTell wi_X2 wc_X2_mayTell (by decide +kernel) hrc hrs hR hf hn hl hst hW hdg kk
theorem wc_X6_slacks : Cond.code yX6_slacks cX6_slacks 3 (some .int) ∈ tbl := tb (i := 396) (by decide +kernel) (by decide +kernel)
theorem wk_X6_slacks : Cond.instanceMethod yX6_slacks ∈ tbl := tb (i := 394) (by decide +kernel) (by decide +kernel)
theorem wl_X6_slacks : Cond.selects RX6 yX6_slacks yX6_slacks ∈ tbl := tb (i := 395) (by decide +kernel) (by decide +kernel)
theorem wm_L_41 : Cond.methodLink RL 41 yX6_slacks ∈ tbl := tb (i := 393) (by decide +kernel) (by decide +kernel)
theorem wc_X6_undo : Cond.code yX6_undo cX6_undo 1 (some .int) ∈ tbl := tb (i := 400) (by decide +kernel) (by decide +kernel)
theorem wk_X6_undo : Cond.instanceMethod yX6_undo ∈ tbl := tb (i := 398) (by decide +kernel) (by decide +kernel)
theorem wl_X6_undo : Cond.selects RX6 yX6_undo yX6_undo ∈ tbl := tb (i := 399) (by decide +kernel) (by decide +kernel)
theorem wm_L_45 : Cond.methodLink RL 45 yX6_undo ∈ tbl := tb (i := 397) (by decide +kernel) (by decide +kernel)
theorem wc_X1_takeBack : Cond.code yX1_takeBack cX1_takeBack 4 none ∈ tbl := tb (i := 404) (by decide +kernel) (by decide +kernel)
theorem wk_X1_takeBack : Cond.instanceMethod yX1_takeBack ∈ tbl := tb (i := 402) (by decide +kernel) (by decide +kernel)
theorem wl_X1_takeBack : Cond.selects RX1 yX1_takeBack yX1_takeBack ∈ tbl := tb (i := 403) (by decide +kernel) (by decide +kernel)
theorem wm_X6_114 : Cond.methodLink RX6 114 yX1_takeBack ∈ tbl := tb (i := 401) (by decide +kernel) (by decide +kernel)
theorem cm_X6_114 (X : CX p s m args RX6 G w) (hb : c.code = cc) (hml : c.maxLocals = nL) (hF : FH G w H0 H locs σ) (hM : Ct l G w yX1_takeBack cX1_takeBack 4 none rm (.ref (gA G k) :: As) σ v σ') (hs : SH w k (.inl (1, rs))) (hR : rm.frames + 1 ≤ R.frames ∧ 8 + (4 + 11) + rm.locals ≤ R.locals) (hrc : rm.cells = 0) (hrs : rm.slots = 0) (hf : cells ≤ R.cells ∧ slots ≤ R.slots) (hn : As.length = 1) (hl : ls.size = nL) (hst : st0 = As.reverse ++ .ref (gA G k) :: rest) (hW : (rest.map fun v => v.category).sum ≤ 8) (hdg : decode cc pc = .ok (.invokevirtual 114, 3)) (kk : ∀ (H1 : Heap) (locs1 : List Loc), FH G w H0 H1 locs1 σ' → W p l e R s m args below meth c H1 locs1 cells slots Q (F0 m (pc + 3) ls (v.toList ++ rest))) : W p l e R s m args below meth c H locs cells slots Q (F0 m pc ls st0) := fl_callV (n := 1) X hb hml hF hM hs rfl wm_X6_114 wk_X1_takeBack wl_X1_takeBack wi_X1 wc_X1_takeBack (by decide +kernel) hrc hrs hR hf hn hl hst hW hdg kk
theorem wm_X1_36 : Cond.methodLink RX1 36 yX0_hasEntry ∈ tbl := tb (i := 405) (by decide +kernel) (by decide +kernel)
theorem cm_X1_36 (X : CX p s m args RX1 G w) (hb : c.code = cc) (hml : c.maxLocals = nL) (hF : FH G w H0 H locs σ) (hM : Ct l G w yX0_hasEntry cX0_hasEntry 3 (some .boolean) rm (.ref (gA G k) :: As) σ v σ') (hs : SH w k (.inl (0, rs))) (hR : rm.frames + 1 ≤ R.frames ∧ 8 + (3 + 11) + rm.locals ≤ R.locals) (hrc : rm.cells = 0) (hrs : rm.slots = 0) (hf : cells ≤ R.cells ∧ slots ≤ R.slots) (hn : As.length = 2) (hl : ls.size = nL) (hst : st0 = As.reverse ++ .ref (gA G k) :: rest) (hW : (rest.map fun v => v.category).sum ≤ 8) (hdg : decode cc pc = .ok (.invokevirtual 36, 3)) (kk : ∀ (H1 : Heap) (locs1 : List Loc), FH G w H0 H1 locs1 σ' → W p l e R s m args below meth c H1 locs1 cells slots Q (F0 m (pc + 3) ls (v.toList ++ rest))) : W p l e R s m args below meth c H locs cells slots Q (F0 m pc ls st0) := fl_callV (n := 2) X hb hml hF hM hs rfl wm_X1_36 wk_X0_hasEntry wl_X0_hasEntry wi_X0 wc_X0_hasEntry (by decide +kernel) hrc hrs hR hf hn hl hst hW hdg kk
theorem wc_X1_takeBackEntry : Cond.code yX1_takeBackEntry cX1_takeBackEntry 3 none ∈ tbl := tb (i := 409) (by decide +kernel) (by decide +kernel)
theorem wk_X1_takeBackEntry : Cond.instanceMethod yX1_takeBackEntry ∈ tbl := tb (i := 408) (by decide +kernel) (by decide +kernel)
theorem wl_X1_takeBackEntry : Cond.selects RX1 yX1_takeBackEntry yX1_takeBackEntry ∈ tbl := tb (i := 10) (by decide +kernel) (by decide +kernel)
theorem wm_X1_44 : Cond.methodLink RX1 44 yX1_takeBackEntry ∈ tbl := tb (i := 406) (by decide +kernel) (by decide +kernel)
theorem cm_X1_44 (X : CX p s m args RX1 G w) (hb : c.code = cc) (hml : c.maxLocals = nL) (hF : FH G w H0 H locs σ) (hM : Ct l G w yX1_takeBackEntry cX1_takeBackEntry 3 none rm (.ref (gA G k) :: As) σ v σ') (hs : SH w k (.inl (1, rs))) (hR : rm.frames + 1 ≤ R.frames ∧ 8 + (3 + 11) + rm.locals ≤ R.locals) (hrc : rm.cells = 0) (hrs : rm.slots = 0) (hf : cells ≤ R.cells ∧ slots ≤ R.slots) (hn : As.length = 2) (hl : ls.size = nL) (hst : st0 = As.reverse ++ .ref (gA G k) :: rest) (hW : (rest.map fun v => v.category).sum ≤ 8) (hdg : decode cc pc = .ok (.invokevirtual 44, 3)) (kk : ∀ (H1 : Heap) (locs1 : List Loc), FH G w H0 H1 locs1 σ' → W p l e R s m args below meth c H1 locs1 cells slots Q (F0 m (pc + 3) ls (v.toList ++ rest))) : W p l e R s m args below meth c H locs cells slots Q (F0 m pc ls st0) := fl_callV (n := 2) X hb hml hF hM hs rfl wm_X1_44 wk_X1_takeBackEntry wl_X1_takeBackEntry wi_X1 wc_X1_takeBackEntry (by decide +kernel) hrc hrs hR hf hn hl hst hW hdg kk
theorem wm_X1_48 : Cond.methodLink RX1 48 yX2_turn ∈ tbl := tb (i := 410) (by decide +kernel) (by decide +kernel)
theorem cm_X1_48 (X : CX p s m args RX1 G w) (hb : c.code = cc) (hml : c.maxLocals = nL) (hF : FH G w H0 H locs σ) (hM : Ct l G w yX2_turn cX2_turn 2 none rm (.ref (gA G k) :: As) σ v σ') (hs : SH w k (.inl (2, rs))) (hR : rm.frames + 1 ≤ R.frames ∧ 8 + (2 + 11) + rm.locals ≤ R.locals) (hrc : rm.cells = 0) (hrs : rm.slots = 0) (hf : cells ≤ R.cells ∧ slots ≤ R.slots) (hn : As.length = 1) (hl : ls.size = nL) (hst : st0 = As.reverse ++ .ref (gA G k) :: rest) (hW : (rest.map fun v => v.category).sum ≤ 8) (hdg : decode cc pc = .ok (.invokevirtual 48, 3)) (kk : ∀ (H1 : Heap) (locs1 : List Loc), FH G w H0 H1 locs1 σ' → W p l e R s m args below meth c H1 locs1 cells slots Q (F0 m (pc + 3) ls (v.toList ++ rest))) : W p l e R s m args below meth c H locs cells slots Q (F0 m pc ls st0) := fl_callV (n := 1) X hb hml hF hM hs rfl wm_X1_48 wk_X2_turn wl_X2_turn wi_X2 wc_X2_turn (by decide +kernel) hrc hrs hR hf hn hl hst hW hdg kk
theorem wc_X6_span : Cond.code yX6_span cX6_span 7 (some .int) ∈ tbl := tb (i := 414) (by decide +kernel) (by decide +kernel)
theorem wk_X6_span : Cond.instanceMethod yX6_span ∈ tbl := tb (i := 412) (by decide +kernel) (by decide +kernel)
theorem wl_X6_span : Cond.selects RX6 yX6_span yX6_span ∈ tbl := tb (i := 413) (by decide +kernel) (by decide +kernel)
theorem wm_L_49 : Cond.methodLink RL 49 yX6_span ∈ tbl := tb (i := 411) (by decide +kernel) (by decide +kernel)
theorem wm_X6_117 : Cond.methodLink RX6 117 yX0_hasHouse ∈ tbl := tb (i := 415) (by decide +kernel) (by decide +kernel)
theorem cm_X6_117 (X : CX p s m args RX6 G w) (hb : c.code = cc) (hml : c.maxLocals = nL) (hF : FH G w H0 H locs σ) (hM : Ct l G w yX0_hasHouse cX0_hasHouse 2 (some .boolean) rm (.ref (gA G k) :: As) σ v σ') (hs : SH w k (.inl (0, rs))) (hR : rm.frames + 1 ≤ R.frames ∧ 8 + (2 + 11) + rm.locals ≤ R.locals) (hrc : rm.cells = 0) (hrs : rm.slots = 0) (hf : cells ≤ R.cells ∧ slots ≤ R.slots) (hn : As.length = 1) (hl : ls.size = nL) (hst : st0 = As.reverse ++ .ref (gA G k) :: rest) (hW : (rest.map fun v => v.category).sum ≤ 8) (hdg : decode cc pc = .ok (.invokevirtual 117, 3)) (kk : ∀ (H1 : Heap) (locs1 : List Loc), FH G w H0 H1 locs1 σ' → W p l e R s m args below meth c H1 locs1 cells slots Q (F0 m (pc + 3) ls (v.toList ++ rest))) : W p l e R s m args below meth c H locs cells slots Q (F0 m pc ls st0) := fl_callV (n := 1) X hb hml hF hM hs rfl wm_X6_117 wk_X0_hasHouse wl_X0_hasHouse wi_X0 wc_X0_hasHouse (by decide +kernel) hrc hrs hR hf hn hl hst hW hdg kk
theorem wc_X4_join : Cond.code yX4_join cX4_join 5 none ∈ tbl := tb (i := 420) (by decide +kernel) (by decide +kernel)
theorem wk_X4_join : Cond.instanceMethod yX4_join ∈ tbl := tb (i := 418) (by decide +kernel) (by decide +kernel)
theorem wl_X4_join : Cond.selects RX4 yX4_join yX4_join ∈ tbl := tb (i := 419) (by decide +kernel) (by decide +kernel)
theorem wi_X4 : Cond.initialized RX4 ∈ tbl := tb (i := 60) (by decide +kernel) (by decide +kernel)
theorem wm_X6_121 : Cond.methodLink RX6 121 yX4_join ∈ tbl := tb (i := 417) (by decide +kernel) (by decide +kernel)
theorem cm_X6_121 (X : CX p s m args RX6 G w) (hb : c.code = cc) (hml : c.maxLocals = nL) (hF : FH G w H0 H locs σ) (hM : Ct l G w yX4_join cX4_join 5 none rm (.ref (gA G k) :: As) σ v σ') (hs : SH w k (.inl (4, rs))) (hR : rm.frames + 1 ≤ R.frames ∧ 8 + (5 + 11) + rm.locals ≤ R.locals) (hrc : rm.cells = 0) (hrs : rm.slots = 0) (hf : cells ≤ R.cells ∧ slots ≤ R.slots) (hn : As.length = 2) (hl : ls.size = nL) (hst : st0 = As.reverse ++ .ref (gA G k) :: rest) (hW : (rest.map fun v => v.category).sum ≤ 8) (hdg : decode cc pc = .ok (.invokevirtual 121, 3)) (kk : ∀ (H1 : Heap) (locs1 : List Loc), FH G w H0 H1 locs1 σ' → W p l e R s m args below meth c H1 locs1 cells slots Q (F0 m (pc + 3) ls (v.toList ++ rest))) : W p l e R s m args below meth c H locs cells slots Q (F0 m pc ls st0) := fl_callV (n := 2) X hb hml hF hM hs rfl wm_X6_121 wk_X4_join wl_X4_join wi_X4 wc_X4_join (by decide +kernel) hrc hrs hR hf hn hl hst hW hdg kk
theorem wm_X4_25 : Cond.methodLink RX4 25 yX2_isStruck ∈ tbl := tb (i := 421) (by decide +kernel) (by decide +kernel)
theorem cm_X4_25 (X : CX p s m args RX4 G w) (hb : c.code = cc) (hml : c.maxLocals = nL) (hF : FH G w H0 H locs σ) (hM : Ct l G w yX2_isStruck cX2_isStruck 2 (some .boolean) rm (.ref (gA G k) :: As) σ v σ') (hs : SH w k (.inl (2, rs))) (hR : rm.frames + 1 ≤ R.frames ∧ 8 + (2 + 11) + rm.locals ≤ R.locals) (hrc : rm.cells = 0) (hrs : rm.slots = 0) (hf : cells ≤ R.cells ∧ slots ≤ R.slots) (hn : As.length = 1) (hl : ls.size = nL) (hst : st0 = As.reverse ++ .ref (gA G k) :: rest) (hW : (rest.map fun v => v.category).sum ≤ 8) (hdg : decode cc pc = .ok (.invokevirtual 25, 3)) (kk : ∀ (H1 : Heap) (locs1 : List Loc), FH G w H0 H1 locs1 σ' → W p l e R s m args below meth c H1 locs1 cells slots Q (F0 m (pc + 3) ls (v.toList ++ rest))) : W p l e R s m args below meth c H locs cells slots Q (F0 m pc ls st0) := fl_callV (n := 1) X hb hml hF hM hs rfl wm_X4_25 wk_X2_isStruck wl_X2_isStruck wi_X2 wc_X2_isStruck (by decide +kernel) hrc hrs hR hf hn hl hst hW hdg kk
theorem wm_X4_30 : Cond.methodLink RX4 30 yX2_placeOf ∈ tbl := tb (i := 422) (by decide +kernel) (by decide +kernel)
theorem cm_X4_30 (X : CX p s m args RX4 G w) (hb : c.code = cc) (hml : c.maxLocals = nL) (hF : FH G w H0 H locs σ) (hM : Ct l G w yX2_placeOf cX2_placeOf 3 (some .int) rm (.ref (gA G k) :: As) σ v σ') (hs : SH w k (.inl (2, rs))) (hR : rm.frames + 1 ≤ R.frames ∧ 8 + (3 + 11) + rm.locals ≤ R.locals) (hrc : rm.cells = 0) (hrs : rm.slots = 0) (hf : cells ≤ R.cells ∧ slots ≤ R.slots) (hn : As.length = 1) (hl : ls.size = nL) (hst : st0 = As.reverse ++ .ref (gA G k) :: rest) (hW : (rest.map fun v => v.category).sum ≤ 8) (hdg : decode cc pc = .ok (.invokevirtual 30, 3)) (kk : ∀ (H1 : Heap) (locs1 : List Loc), FH G w H0 H1 locs1 σ' → W p l e R s m args below meth c H1 locs1 cells slots Q (F0 m (pc + 3) ls (v.toList ++ rest))) : W p l e R s m args below meth c H locs cells slots Q (F0 m pc ls st0) := fl_callV (n := 1) X hb hml hF hM hs rfl wm_X4_30 wk_X2_placeOf wl_X2_placeOf wi_X2 wc_X2_placeOf (by decide +kernel) hrc hrs hR hf hn hl hst hW hdg kk
theorem wc_X4_spans : Cond.code yX4_spans cX4_spans 4 (some .int) ∈ tbl := tb (i := 426) (by decide +kernel) (by decide +kernel)
theorem wk_X4_spans : Cond.instanceMethod yX4_spans ∈ tbl := tb (i := 424) (by decide +kernel) (by decide +kernel)
theorem wl_X4_spans : Cond.selects RX4 yX4_spans yX4_spans ∈ tbl := tb (i := 425) (by decide +kernel) (by decide +kernel)
theorem wm_X6_125 : Cond.methodLink RX6 125 yX4_spans ∈ tbl := tb (i := 423) (by decide +kernel) (by decide +kernel)
theorem cm_X6_125 (X : CX p s m args RX6 G w) (hb : c.code = cc) (hml : c.maxLocals = nL) (hF : FH G w H0 H locs σ) (hM : Ct l G w yX4_spans cX4_spans 4 (some .int) rm (.ref (gA G k) :: As) σ v σ') (hs : SH w k (.inl (4, rs))) (hR : rm.frames + 1 ≤ R.frames ∧ 8 + (4 + 11) + rm.locals ≤ R.locals) (hrc : rm.cells = 0) (hrs : rm.slots = 0) (hf : cells ≤ R.cells ∧ slots ≤ R.slots) (hn : As.length = 1) (hl : ls.size = nL) (hst : st0 = As.reverse ++ .ref (gA G k) :: rest) (hW : (rest.map fun v => v.category).sum ≤ 8) (hdg : decode cc pc = .ok (.invokevirtual 125, 3)) (kk : ∀ (H1 : Heap) (locs1 : List Loc), FH G w H0 H1 locs1 σ' → W p l e R s m args below meth c H1 locs1 cells slots Q (F0 m (pc + 3) ls (v.toList ++ rest))) : W p l e R s m args below meth c H locs cells slots Q (F0 m pc ls st0) := fl_callV (n := 1) X hb hml hF hM hs rfl wm_X6_125 wk_X4_spans wl_X4_spans wi_X4 wc_X4_spans (by decide +kernel) hrc hrs hR hf hn hl hst hW hdg kk
theorem wc_X4_spanEnd : Cond.code yX4_spanEnd cX4_spanEnd 6 (some .int) ∈ tbl := tb (i := 430) (by decide +kernel) (by decide +kernel)
theorem wk_X4_spanEnd : Cond.instanceMethod yX4_spanEnd ∈ tbl := tb (i := 428) (by decide +kernel) (by decide +kernel)
theorem wl_X4_spanEnd : Cond.selects RX4 yX4_spanEnd yX4_spanEnd ∈ tbl := tb (i := 429) (by decide +kernel) (by decide +kernel)
theorem wm_X4_46 : Cond.methodLink RX4 46 yX4_spanEnd ∈ tbl := tb (i := 427) (by decide +kernel) (by decide +kernel)
theorem cm_X4_46 (X : CX p s m args RX4 G w) (hb : c.code = cc) (hml : c.maxLocals = nL) (hF : FH G w H0 H locs σ) (hM : Ct l G w yX4_spanEnd cX4_spanEnd 6 (some .int) rm (.ref (gA G k) :: As) σ v σ') (hs : SH w k (.inl (4, rs))) (hR : rm.frames + 1 ≤ R.frames ∧ 8 + (6 + 11) + rm.locals ≤ R.locals) (hrc : rm.cells = 0) (hrs : rm.slots = 0) (hf : cells ≤ R.cells ∧ slots ≤ R.slots) (hn : As.length = 2) (hl : ls.size = nL) (hst : st0 = As.reverse ++ .ref (gA G k) :: rest) (hW : (rest.map fun v => v.category).sum ≤ 8) (hdg : decode cc pc = .ok (.invokevirtual 46, 3)) (kk : ∀ (H1 : Heap) (locs1 : List Loc), FH G w H0 H1 locs1 σ' → W p l e R s m args below meth c H1 locs1 cells slots Q (F0 m (pc + 3) ls (v.toList ++ rest))) : W p l e R s m args below meth c H locs cells slots Q (F0 m pc ls st0) := fl_callV (n := 2) X hb hml hF hM hs rfl wm_X4_46 wk_X4_spanEnd wl_X4_spanEnd wi_X4 wc_X4_spanEnd (by decide +kernel) hrc hrs hR hf hn hl hst hW hdg kk
theorem wc_X4_spanStart : Cond.code yX4_spanStart cX4_spanStart 5 (some .int) ∈ tbl := tb (i := 440) (by decide +kernel) (by decide +kernel)
theorem wk_X4_spanStart : Cond.instanceMethod yX4_spanStart ∈ tbl := tb (i := 438) (by decide +kernel) (by decide +kernel)
theorem wl_X4_spanStart : Cond.selects RX4 yX4_spanStart yX4_spanStart ∈ tbl := tb (i := 439) (by decide +kernel) (by decide +kernel)
theorem wm_X6_129 : Cond.methodLink RX6 129 yX4_spanStart ∈ tbl := tb (i := 437) (by decide +kernel) (by decide +kernel)
theorem cm_X6_129 (X : CX p s m args RX6 G w) (hb : c.code = cc) (hml : c.maxLocals = nL) (hF : FH G w H0 H locs σ) (hM : Ct l G w yX4_spanStart cX4_spanStart 5 (some .int) rm (.ref (gA G k) :: As) σ v σ') (hs : SH w k (.inl (4, rs))) (hR : rm.frames + 1 ≤ R.frames ∧ 8 + (5 + 11) + rm.locals ≤ R.locals) (hrc : rm.cells = 0) (hrs : rm.slots = 0) (hf : cells ≤ R.cells ∧ slots ≤ R.slots) (hn : As.length = 2) (hl : ls.size = nL) (hst : st0 = As.reverse ++ .ref (gA G k) :: rest) (hW : (rest.map fun v => v.category).sum ≤ 8) (hdg : decode cc pc = .ok (.invokevirtual 129, 3)) (kk : ∀ (H1 : Heap) (locs1 : List Loc), FH G w H0 H1 locs1 σ' → W p l e R s m args below meth c H1 locs1 cells slots Q (F0 m (pc + 3) ls (v.toList ++ rest))) : W p l e R s m args below meth c H locs cells slots Q (F0 m pc ls st0) := fl_callV (n := 2) X hb hml hF hM hs rfl wm_X6_129 wk_X4_spanStart wl_X4_spanStart wi_X4 wc_X4_spanStart (by decide +kernel) hrc hrs hR hf hn hl hst hW hdg kk
theorem wm_X6_134 : Cond.methodLink RX6 134 yX4_spanEnd ∈ tbl := tb (i := 441) (by decide +kernel) (by decide +kernel)
theorem cm_X6_134 (X : CX p s m args RX6 G w) (hb : c.code = cc) (hml : c.maxLocals = nL) (hF : FH G w H0 H locs σ) (hM : Ct l G w yX4_spanEnd cX4_spanEnd 6 (some .int) rm (.ref (gA G k) :: As) σ v σ') (hs : SH w k (.inl (4, rs))) (hR : rm.frames + 1 ≤ R.frames ∧ 8 + (6 + 11) + rm.locals ≤ R.locals) (hrc : rm.cells = 0) (hrs : rm.slots = 0) (hf : cells ≤ R.cells ∧ slots ≤ R.slots) (hn : As.length = 2) (hl : ls.size = nL) (hst : st0 = As.reverse ++ .ref (gA G k) :: rest) (hW : (rest.map fun v => v.category).sum ≤ 8) (hdg : decode cc pc = .ok (.invokevirtual 134, 3)) (kk : ∀ (H1 : Heap) (locs1 : List Loc), FH G w H0 H1 locs1 σ' → W p l e R s m args below meth c H1 locs1 cells slots Q (F0 m (pc + 3) ls (v.toList ++ rest))) : W p l e R s m args below meth c H locs cells slots Q (F0 m pc ls st0) := fl_callV (n := 2) X hb hml hF hM hs rfl wm_X6_134 wk_X4_spanEnd wl_X4_spanEnd wi_X4 wc_X4_spanEnd (by decide +kernel) hrc hrs hR hf hn hl hst hW hdg kk
theorem wc_X4_leastOffset : Cond.code yX4_leastOffset cX4_leastOffset 5 (some .int) ∈ tbl := tb (i := 445) (by decide +kernel) (by decide +kernel)
theorem wk_X4_leastOffset : Cond.instanceMethod yX4_leastOffset ∈ tbl := tb (i := 443) (by decide +kernel) (by decide +kernel)
theorem wl_X4_leastOffset : Cond.selects RX4 yX4_leastOffset yX4_leastOffset ∈ tbl := tb (i := 444) (by decide +kernel) (by decide +kernel)
theorem wm_X6_138 : Cond.methodLink RX6 138 yX4_leastOffset ∈ tbl := tb (i := 442) (by decide +kernel) (by decide +kernel)
theorem cm_X6_138 (X : CX p s m args RX6 G w) (hb : c.code = cc) (hml : c.maxLocals = nL) (hF : FH G w H0 H locs σ) (hM : Ct l G w yX4_leastOffset cX4_leastOffset 5 (some .int) rm (.ref (gA G k) :: As) σ v σ') (hs : SH w k (.inl (4, rs))) (hR : rm.frames + 1 ≤ R.frames ∧ 8 + (5 + 11) + rm.locals ≤ R.locals) (hrc : rm.cells = 0) (hrs : rm.slots = 0) (hf : cells ≤ R.cells ∧ slots ≤ R.slots) (hn : As.length = 2) (hl : ls.size = nL) (hst : st0 = As.reverse ++ .ref (gA G k) :: rest) (hW : (rest.map fun v => v.category).sum ≤ 8) (hdg : decode cc pc = .ok (.invokevirtual 138, 3)) (kk : ∀ (H1 : Heap) (locs1 : List Loc), FH G w H0 H1 locs1 σ' → W p l e R s m args below meth c H1 locs1 cells slots Q (F0 m (pc + 3) ls (v.toList ++ rest))) : W p l e R s m args below meth c H locs cells slots Q (F0 m pc ls st0) := fl_callV (n := 2) X hb hml hF hM hs rfl wm_X6_138 wk_X4_leastOffset wl_X4_leastOffset wi_X4 wc_X4_leastOffset (by decide +kernel) hrc hrs hR hf hn hl hst hW hdg kk
theorem wc_X6_shift : Cond.code yX6_shift cX6_shift 3 (some .int) ∈ tbl := tb (i := 449) (by decide +kernel) (by decide +kernel)
theorem wk_X6_shift : Cond.instanceMethod yX6_shift ∈ tbl := tb (i := 447) (by decide +kernel) (by decide +kernel)
theorem wl_X6_shift : Cond.selects RX6 yX6_shift yX6_shift ∈ tbl := tb (i := 448) (by decide +kernel) (by decide +kernel)
theorem wm_L_54 : Cond.methodLink RL 54 yX6_shift ∈ tbl := tb (i := 446) (by decide +kernel) (by decide +kernel)
theorem wc_X6_shiftOf : Cond.code yX6_shiftOf cX6_shiftOf 2 (some .int) ∈ tbl := tb (i := 453) (by decide +kernel) (by decide +kernel)
theorem wk_X6_shiftOf : Cond.instanceMethod yX6_shiftOf ∈ tbl := tb (i := 452) (by decide +kernel) (by decide +kernel)
theorem wl_X6_shiftOf : Cond.selects RX6 yX6_shiftOf yX6_shiftOf ∈ tbl := tb (i := 11) (by decide +kernel) (by decide +kernel)
theorem wm_X6_141 : Cond.methodLink RX6 141 yX6_shiftOf ∈ tbl := tb (i := 450) (by decide +kernel) (by decide +kernel)
theorem cm_X6_141 (X : CX p s m args RX6 G w) (hb : c.code = cc) (hml : c.maxLocals = nL) (hF : FH G w H0 H locs σ) (hM : Ct l G w yX6_shiftOf cX6_shiftOf 2 (some .int) rm (.ref (gA G k) :: As) σ v σ') (hs : SH w k (.inl (6, rs))) (hR : rm.frames + 1 ≤ R.frames ∧ 8 + (2 + 11) + rm.locals ≤ R.locals) (hrc : rm.cells = 0) (hrs : rm.slots = 0) (hf : cells ≤ R.cells ∧ slots ≤ R.slots) (hn : As.length = 1) (hl : ls.size = nL) (hst : st0 = As.reverse ++ .ref (gA G k) :: rest) (hW : (rest.map fun v => v.category).sum ≤ 8) (hdg : decode cc pc = .ok (.invokevirtual 141, 3)) (kk : ∀ (H1 : Heap) (locs1 : List Loc), FH G w H0 H1 locs1 σ' → W p l e R s m args below meth c H1 locs1 cells slots Q (F0 m (pc + 3) ls (v.toList ++ rest))) : W p l e R s m args below meth c H locs cells slots Q (F0 m pc ls st0) := fl_callV (n := 1) X hb hml hF hM hs rfl wm_X6_141 wk_X6_shiftOf wl_X6_shiftOf wi_X6 wc_X6_shiftOf (by decide +kernel) hrc hrs hR hf hn hl hst hW hdg kk
theorem wc_X4_commonestOffset : Cond.code yX4_commonestOffset cX4_commonestOffset 5 (some .int) ∈ tbl := tb (i := 457) (by decide +kernel) (by decide +kernel)
theorem wk_X4_commonestOffset : Cond.instanceMethod yX4_commonestOffset ∈ tbl := tb (i := 455) (by decide +kernel) (by decide +kernel)
theorem wl_X4_commonestOffset : Cond.selects RX4 yX4_commonestOffset yX4_commonestOffset ∈ tbl := tb (i := 456) (by decide +kernel) (by decide +kernel)
theorem wm_X6_201 : Cond.methodLink RX6 201 yX4_commonestOffset ∈ tbl := tb (i := 454) (by decide +kernel) (by decide +kernel)
theorem cm_X6_201 (X : CX p s m args RX6 G w) (hb : c.code = cc) (hml : c.maxLocals = nL) (hF : FH G w H0 H locs σ) (hM : Ct l G w yX4_commonestOffset cX4_commonestOffset 5 (some .int) rm (.ref (gA G k) :: As) σ v σ') (hs : SH w k (.inl (4, rs))) (hR : rm.frames + 1 ≤ R.frames ∧ 8 + (5 + 11) + rm.locals ≤ R.locals) (hrc : rm.cells = 0) (hrs : rm.slots = 0) (hf : cells ≤ R.cells ∧ slots ≤ R.slots) (hn : As.length = 0) (hl : ls.size = nL) (hst : st0 = As.reverse ++ .ref (gA G k) :: rest) (hW : (rest.map fun v => v.category).sum ≤ 8) (hdg : decode cc pc = .ok (.invokevirtual 201, 3)) (kk : ∀ (H1 : Heap) (locs1 : List Loc), FH G w H0 H1 locs1 σ' → W p l e R s m args below meth c H1 locs1 cells slots Q (F0 m (pc + 3) ls (v.toList ++ rest))) : W p l e R s m args below meth c H locs cells slots Q (F0 m pc ls st0) := fl_callV (n := 0) X hb hml hF hM hs rfl wm_X6_201 wk_X4_commonestOffset wl_X4_commonestOffset wi_X4 wc_X4_commonestOffset (by decide +kernel) hrc hrs hR hf hn hl hst hW hdg kk
theorem wc_X4_eventsWith : Cond.code yX4_eventsWith cX4_eventsWith 4 (some .int) ∈ tbl := tb (i := 461) (by decide +kernel) (by decide +kernel)
theorem wk_X4_eventsWith : Cond.instanceMethod yX4_eventsWith ∈ tbl := tb (i := 459) (by decide +kernel) (by decide +kernel)
theorem wl_X4_eventsWith : Cond.selects RX4 yX4_eventsWith yX4_eventsWith ∈ tbl := tb (i := 460) (by decide +kernel) (by decide +kernel)
theorem wm_X4_49 : Cond.methodLink RX4 49 yX4_eventsWith ∈ tbl := tb (i := 458) (by decide +kernel) (by decide +kernel)
theorem cm_X4_49 (X : CX p s m args RX4 G w) (hb : c.code = cc) (hml : c.maxLocals = nL) (hF : FH G w H0 H locs σ) (hM : Ct l G w yX4_eventsWith cX4_eventsWith 4 (some .int) rm (.ref (gA G k) :: As) σ v σ') (hs : SH w k (.inl (4, rs))) (hR : rm.frames + 1 ≤ R.frames ∧ 8 + (4 + 11) + rm.locals ≤ R.locals) (hrc : rm.cells = 0) (hrs : rm.slots = 0) (hf : cells ≤ R.cells ∧ slots ≤ R.slots) (hn : As.length = 1) (hl : ls.size = nL) (hst : st0 = As.reverse ++ .ref (gA G k) :: rest) (hW : (rest.map fun v => v.category).sum ≤ 8) (hdg : decode cc pc = .ok (.invokevirtual 49, 3)) (kk : ∀ (H1 : Heap) (locs1 : List Loc), FH G w H0 H1 locs1 σ' → W p l e R s m args below meth c H1 locs1 cells slots Q (F0 m (pc + 3) ls (v.toList ++ rest))) : W p l e R s m args below meth c H locs cells slots Q (F0 m pc ls st0) := fl_callV (n := 1) X hb hml hF hM hs rfl wm_X4_49 wk_X4_eventsWith wl_X4_eventsWith wi_X4 wc_X4_eventsWith (by decide +kernel) hrc hrs hR hf hn hl hst hW hdg kk
theorem wc_J6_bitCount_0f7a4 : Cond.code yJ6_bitCount_0f7a4 cJ6_bitCount_0f7a4 1 (some .int) ∈ tbl := tb (i := 464) (by decide +kernel) (by decide +kernel)
theorem wk_J6_bitCount_0f7a4 : Cond.static yJ6_bitCount_0f7a4 ∈ tbl := tb (i := 463) (by decide +kernel) (by decide +kernel)
theorem wi_J6 : Cond.initialized RJ6 ∈ tbl := tb (i := 64) (by decide +kernel) (by decide +kernel)
theorem wm_X4_52 : Cond.methodLink RX4 52 yJ6_bitCount_0f7a4 ∈ tbl := tb (i := 462) (by decide +kernel) (by decide +kernel)
theorem cm_X4_52 (X : CX p s m args RX4 G w) (hb : c.code = cc) (hml : c.maxLocals = nL) (hF : FH G w H0 H locs σ) (hM : Ct l G w yJ6_bitCount_0f7a4 cJ6_bitCount_0f7a4 1 (some .int) rm As σ v σ') (hR : rm.frames + 1 ≤ R.frames ∧ 8 + (1 + 11) + rm.locals ≤ R.locals) (hrc : rm.cells = 0) (hrs : rm.slots = 0) (hf : cells ≤ R.cells ∧ slots ≤ R.slots) (hn : As.length = 1) (hl : ls.size = nL) (hst : st0 = As.reverse ++ rest) (hW : (rest.map fun v => v.category).sum ≤ 8) (hdg : decode cc pc = .ok (.invokestatic 52, 3)) (kk : ∀ (H1 : Heap) (locs1 : List Loc), FH G w H0 H1 locs1 σ' → W p l e R s m args below meth c H1 locs1 cells slots Q (F0 m (pc + 3) ls (v.toList ++ rest))) : W p l e R s m args below meth c H locs cells slots Q (F0 m pc ls st0) := fl_callS (n := 1) X hb hml hF hM wm_X4_52 wk_J6_bitCount_0f7a4 wi_J6 wc_J6_bitCount_0f7a4 (by decide +kernel) hrc hrs hR hf hn hl hst hW hdg kk
theorem wc_X4_isNearer : Cond.code yX4_isNearer cX4_isNearer 3 (some .boolean) ∈ tbl := tb (i := 470) (by decide +kernel) (by decide +kernel)
theorem wk_X4_isNearer : Cond.static yX4_isNearer ∈ tbl := tb (i := 469) (by decide +kernel) (by decide +kernel)
theorem wm_X4_57 : Cond.methodLink RX4 57 yX4_isNearer ∈ tbl := tb (i := 468) (by decide +kernel) (by decide +kernel)
theorem cm_X4_57 (X : CX p s m args RX4 G w) (hb : c.code = cc) (hml : c.maxLocals = nL) (hF : FH G w H0 H locs σ) (hM : Ct l G w yX4_isNearer cX4_isNearer 3 (some .boolean) rm As σ v σ') (hR : rm.frames + 1 ≤ R.frames ∧ 8 + (3 + 11) + rm.locals ≤ R.locals) (hrc : rm.cells = 0) (hrs : rm.slots = 0) (hf : cells ≤ R.cells ∧ slots ≤ R.slots) (hn : As.length = 2) (hl : ls.size = nL) (hst : st0 = As.reverse ++ rest) (hW : (rest.map fun v => v.category).sum ≤ 8) (hdg : decode cc pc = .ok (.invokestatic 57, 3)) (kk : ∀ (H1 : Heap) (locs1 : List Loc), FH G w H0 H1 locs1 σ' → W p l e R s m args below meth c H1 locs1 cells slots Q (F0 m (pc + 3) ls (v.toList ++ rest))) : W p l e R s m args below meth c H locs cells slots Q (F0 m pc ls st0) := fl_callS (n := 2) X hb hml hF hM wm_X4_57 wk_X4_isNearer wi_X4 wc_X4_isNearer (by decide +kernel) hrc hrs hR hf hn hl hst hW hdg kk
theorem wc_X6_agreedOf : Cond.code yX6_agreedOf cX6_agreedOf 3 (some .int) ∈ tbl := tb (i := 477) (by decide +kernel) (by decide +kernel)
theorem wk_X6_agreedOf : Cond.instanceMethod yX6_agreedOf ∈ tbl := tb (i := 476) (by decide +kernel) (by decide +kernel)
theorem wl_X6_agreedOf : Cond.selects RX6 yX6_agreedOf yX6_agreedOf ∈ tbl := tb (i := 12) (by decide +kernel) (by decide +kernel)
theorem wm_X6_144 : Cond.methodLink RX6 144 yX6_agreedOf ∈ tbl := tb (i := 474) (by decide +kernel) (by decide +kernel)
theorem cm_X6_144 (X : CX p s m args RX6 G w) (hb : c.code = cc) (hml : c.maxLocals = nL) (hF : FH G w H0 H locs σ) (hM : Ct l G w yX6_agreedOf cX6_agreedOf 3 (some .int) rm (.ref (gA G k) :: As) σ v σ') (hs : SH w k (.inl (6, rs))) (hR : rm.frames + 1 ≤ R.frames ∧ 8 + (3 + 11) + rm.locals ≤ R.locals) (hrc : rm.cells = 0) (hrs : rm.slots = 0) (hf : cells ≤ R.cells ∧ slots ≤ R.slots) (hn : As.length = 1) (hl : ls.size = nL) (hst : st0 = As.reverse ++ .ref (gA G k) :: rest) (hW : (rest.map fun v => v.category).sum ≤ 8) (hdg : decode cc pc = .ok (.invokevirtual 144, 3)) (kk : ∀ (H1 : Heap) (locs1 : List Loc), FH G w H0 H1 locs1 σ' → W p l e R s m args below meth c H1 locs1 cells slots Q (F0 m (pc + 3) ls (v.toList ++ rest))) : W p l e R s m args below meth c H locs cells slots Q (F0 m pc ls st0) := fl_callV (n := 1) X hb hml hF hM hs rfl wm_X6_144 wk_X6_agreedOf wl_X6_agreedOf wi_X6 wc_X6_agreedOf (by decide +kernel) hrc hrs hR hf hn hl hst hW hdg kk
theorem wc_X2_eventBits : Cond.code yX2_eventBits cX2_eventBits 3 (some .int) ∈ tbl := tb (i := 481) (by decide +kernel) (by decide +kernel)
theorem wk_X2_eventBits : Cond.instanceMethod yX2_eventBits ∈ tbl := tb (i := 479) (by decide +kernel) (by decide +kernel)
theorem wl_X2_eventBits : Cond.selects RX2 yX2_eventBits yX2_eventBits ∈ tbl := tb (i := 480) (by decide +kernel) (by decide +kernel)
theorem wm_X6_204 : Cond.methodLink RX6 204 yX2_eventBits ∈ tbl := tb (i := 478) (by decide +kernel) (by decide +kernel)
theorem cm_X6_204 (X : CX p s m args RX6 G w) (hb : c.code = cc) (hml : c.maxLocals = nL) (hF : FH G w H0 H locs σ) (hM : Ct l G w yX2_eventBits cX2_eventBits 3 (some .int) rm (.ref (gA G k) :: As) σ v σ') (hs : SH w k (.inl (2, rs))) (hR : rm.frames + 1 ≤ R.frames ∧ 8 + (3 + 11) + rm.locals ≤ R.locals) (hrc : rm.cells = 0) (hrs : rm.slots = 0) (hf : cells ≤ R.cells ∧ slots ≤ R.slots) (hn : As.length = 0) (hl : ls.size = nL) (hst : st0 = As.reverse ++ .ref (gA G k) :: rest) (hW : (rest.map fun v => v.category).sum ≤ 8) (hdg : decode cc pc = .ok (.invokevirtual 204, 3)) (kk : ∀ (H1 : Heap) (locs1 : List Loc), FH G w H0 H1 locs1 σ' → W p l e R s m args below meth c H1 locs1 cells slots Q (F0 m (pc + 3) ls (v.toList ++ rest))) : W p l e R s m args below meth c H locs cells slots Q (F0 m pc ls st0) := fl_callV (n := 0) X hb hml hF hM hs rfl wm_X6_204 wk_X2_eventBits wl_X2_eventBits wi_X2 wc_X2_eventBits (by decide +kernel) hrc hrs hR hf hn hl hst hW hdg kk
theorem wm_X6_205 : Cond.methodLink RX6 205 yX4_eventsWith ∈ tbl := tb (i := 482) (by decide +kernel) (by decide +kernel)
theorem cm_X6_205 (X : CX p s m args RX6 G w) (hb : c.code = cc) (hml : c.maxLocals = nL) (hF : FH G w H0 H locs σ) (hM : Ct l G w yX4_eventsWith cX4_eventsWith 4 (some .int) rm (.ref (gA G k) :: As) σ v σ') (hs : SH w k (.inl (4, rs))) (hR : rm.frames + 1 ≤ R.frames ∧ 8 + (4 + 11) + rm.locals ≤ R.locals) (hrc : rm.cells = 0) (hrs : rm.slots = 0) (hf : cells ≤ R.cells ∧ slots ≤ R.slots) (hn : As.length = 1) (hl : ls.size = nL) (hst : st0 = As.reverse ++ .ref (gA G k) :: rest) (hW : (rest.map fun v => v.category).sum ≤ 8) (hdg : decode cc pc = .ok (.invokevirtual 205, 3)) (kk : ∀ (H1 : Heap) (locs1 : List Loc), FH G w H0 H1 locs1 σ' → W p l e R s m args below meth c H1 locs1 cells slots Q (F0 m (pc + 3) ls (v.toList ++ rest))) : W p l e R s m args below meth c H locs cells slots Q (F0 m pc ls st0) := fl_callV (n := 1) X hb hml hF hM hs rfl wm_X6_205 wk_X4_eventsWith wl_X4_eventsWith wi_X4 wc_X4_eventsWith (by decide +kernel) hrc hrs hR hf hn hl hst hW hdg kk
theorem wc_X6_againstOf : Cond.code yX6_againstOf cX6_againstOf 3 (some .int) ∈ tbl := tb (i := 486) (by decide +kernel) (by decide +kernel)
theorem wk_X6_againstOf : Cond.instanceMethod yX6_againstOf ∈ tbl := tb (i := 485) (by decide +kernel) (by decide +kernel)
theorem wl_X6_againstOf : Cond.selects RX6 yX6_againstOf yX6_againstOf ∈ tbl := tb (i := 13) (by decide +kernel) (by decide +kernel)
theorem wm_X6_147 : Cond.methodLink RX6 147 yX6_againstOf ∈ tbl := tb (i := 483) (by decide +kernel) (by decide +kernel)
theorem cm_X6_147 (X : CX p s m args RX6 G w) (hb : c.code = cc) (hml : c.maxLocals = nL) (hF : FH G w H0 H locs σ) (hM : Ct l G w yX6_againstOf cX6_againstOf 3 (some .int) rm (.ref (gA G k) :: As) σ v σ') (hs : SH w k (.inl (6, rs))) (hR : rm.frames + 1 ≤ R.frames ∧ 8 + (3 + 11) + rm.locals ≤ R.locals) (hrc : rm.cells = 0) (hrs : rm.slots = 0) (hf : cells ≤ R.cells ∧ slots ≤ R.slots) (hn : As.length = 1) (hl : ls.size = nL) (hst : st0 = As.reverse ++ .ref (gA G k) :: rest) (hW : (rest.map fun v => v.category).sum ≤ 8) (hdg : decode cc pc = .ok (.invokevirtual 147, 3)) (kk : ∀ (H1 : Heap) (locs1 : List Loc), FH G w H0 H1 locs1 σ' → W p l e R s m args below meth c H1 locs1 cells slots Q (F0 m (pc + 3) ls (v.toList ++ rest))) : W p l e R s m args below meth c H locs cells slots Q (F0 m pc ls st0) := fl_callV (n := 1) X hb hml hF hM hs rfl wm_X6_147 wk_X6_againstOf wl_X6_againstOf wi_X6 wc_X6_againstOf (by decide +kernel) hrc hrs hR hf hn hl hst hW hdg kk
theorem wc_X4_eventBits : Cond.code yX4_eventBits cX4_eventBits 3 (some .int) ∈ tbl := tb (i := 490) (by decide +kernel) (by decide +kernel)
theorem wk_X4_eventBits : Cond.instanceMethod yX4_eventBits ∈ tbl := tb (i := 488) (by decide +kernel) (by decide +kernel)
theorem wl_X4_eventBits : Cond.selects RX4 yX4_eventBits yX4_eventBits ∈ tbl := tb (i := 489) (by decide +kernel) (by decide +kernel)
theorem wm_X6_208 : Cond.methodLink RX6 208 yX4_eventBits ∈ tbl := tb (i := 487) (by decide +kernel) (by decide +kernel)
theorem cm_X6_208 (X : CX p s m args RX6 G w) (hb : c.code = cc) (hml : c.maxLocals = nL) (hF : FH G w H0 H locs σ) (hM : Ct l G w yX4_eventBits cX4_eventBits 3 (some .int) rm (.ref (gA G k) :: As) σ v σ') (hs : SH w k (.inl (4, rs))) (hR : rm.frames + 1 ≤ R.frames ∧ 8 + (3 + 11) + rm.locals ≤ R.locals) (hrc : rm.cells = 0) (hrs : rm.slots = 0) (hf : cells ≤ R.cells ∧ slots ≤ R.slots) (hn : As.length = 0) (hl : ls.size = nL) (hst : st0 = As.reverse ++ .ref (gA G k) :: rest) (hW : (rest.map fun v => v.category).sum ≤ 8) (hdg : decode cc pc = .ok (.invokevirtual 208, 3)) (kk : ∀ (H1 : Heap) (locs1 : List Loc), FH G w H0 H1 locs1 σ' → W p l e R s m args below meth c H1 locs1 cells slots Q (F0 m (pc + 3) ls (v.toList ++ rest))) : W p l e R s m args below meth c H locs cells slots Q (F0 m pc ls st0) := fl_callV (n := 0) X hb hml hF hM hs rfl wm_X6_208 wk_X4_eventBits wl_X4_eventBits wi_X4 wc_X4_eventBits (by decide +kernel) hrc hrs hR hf hn hl hst hW hdg kk
theorem wc_X6_measure : Cond.code yX6_measure cX6_measure 3 (some .int) ∈ tbl := tb (i := 494) (by decide +kernel) (by decide +kernel)
theorem wk_X6_measure : Cond.instanceMethod yX6_measure ∈ tbl := tb (i := 492) (by decide +kernel) (by decide +kernel)
theorem wl_X6_measure : Cond.selects RX6 yX6_measure yX6_measure ∈ tbl := tb (i := 493) (by decide +kernel) (by decide +kernel)
theorem wm_L_58 : Cond.methodLink RL 58 yX6_measure ∈ tbl := tb (i := 491) (by decide +kernel) (by decide +kernel)
theorem wc_X6_measureOf : Cond.code yX6_measureOf cX6_measureOf 3 (some .int) ∈ tbl := tb (i := 498) (by decide +kernel) (by decide +kernel)
theorem wk_X6_measureOf : Cond.instanceMethod yX6_measureOf ∈ tbl := tb (i := 497) (by decide +kernel) (by decide +kernel)
theorem wl_X6_measureOf : Cond.selects RX6 yX6_measureOf yX6_measureOf ∈ tbl := tb (i := 14) (by decide +kernel) (by decide +kernel)
theorem wm_X6_150 : Cond.methodLink RX6 150 yX6_measureOf ∈ tbl := tb (i := 495) (by decide +kernel) (by decide +kernel)
theorem cm_X6_150 (X : CX p s m args RX6 G w) (hb : c.code = cc) (hml : c.maxLocals = nL) (hF : FH G w H0 H locs σ) (hM : Ct l G w yX6_measureOf cX6_measureOf 3 (some .int) rm (.ref (gA G k) :: As) σ v σ') (hs : SH w k (.inl (6, rs))) (hR : rm.frames + 1 ≤ R.frames ∧ 8 + (3 + 11) + rm.locals ≤ R.locals) (hrc : rm.cells = 0) (hrs : rm.slots = 0) (hf : cells ≤ R.cells ∧ slots ≤ R.slots) (hn : As.length = 2) (hl : ls.size = nL) (hst : st0 = As.reverse ++ .ref (gA G k) :: rest) (hW : (rest.map fun v => v.category).sum ≤ 8) (hdg : decode cc pc = .ok (.invokevirtual 150, 3)) (kk : ∀ (H1 : Heap) (locs1 : List Loc), FH G w H0 H1 locs1 σ' → W p l e R s m args below meth c H1 locs1 cells slots Q (F0 m (pc + 3) ls (v.toList ++ rest))) : W p l e R s m args below meth c H locs cells slots Q (F0 m pc ls st0) := fl_callV (n := 2) X hb hml hF hM hs rfl wm_X6_150 wk_X6_measureOf wl_X6_measureOf wi_X6 wc_X6_measureOf (by decide +kernel) hrc hrs hR hf hn hl hst hW hdg kk
theorem wc_X2_entriesLeft : Cond.code yX2_entriesLeft cX2_entriesLeft 1 (some .int) ∈ tbl := tb (i := 502) (by decide +kernel) (by decide +kernel)
theorem wk_X2_entriesLeft : Cond.instanceMethod yX2_entriesLeft ∈ tbl := tb (i := 500) (by decide +kernel) (by decide +kernel)
theorem wl_X2_entriesLeft : Cond.selects RX2 yX2_entriesLeft yX2_entriesLeft ∈ tbl := tb (i := 501) (by decide +kernel) (by decide +kernel)
theorem wm_X6_209 : Cond.methodLink RX6 209 yX2_entriesLeft ∈ tbl := tb (i := 499) (by decide +kernel) (by decide +kernel)
theorem cm_X6_209 (X : CX p s m args RX6 G w) (hb : c.code = cc) (hml : c.maxLocals = nL) (hF : FH G w H0 H locs σ) (hM : Ct l G w yX2_entriesLeft cX2_entriesLeft 1 (some .int) rm (.ref (gA G k) :: As) σ v σ') (hs : SH w k (.inl (2, rs))) (hR : rm.frames + 1 ≤ R.frames ∧ 8 + (1 + 11) + rm.locals ≤ R.locals) (hrc : rm.cells = 0) (hrs : rm.slots = 0) (hf : cells ≤ R.cells ∧ slots ≤ R.slots) (hn : As.length = 0) (hl : ls.size = nL) (hst : st0 = As.reverse ++ .ref (gA G k) :: rest) (hW : (rest.map fun v => v.category).sum ≤ 8) (hdg : decode cc pc = .ok (.invokevirtual 209, 3)) (kk : ∀ (H1 : Heap) (locs1 : List Loc), FH G w H0 H1 locs1 σ' → W p l e R s m args below meth c H1 locs1 cells slots Q (F0 m (pc + 3) ls (v.toList ++ rest))) : W p l e R s m args below meth c H locs cells slots Q (F0 m pc ls st0) := fl_callV (n := 0) X hb hml hF hM hs rfl wm_X6_209 wk_X2_entriesLeft wl_X2_entriesLeft wi_X2 wc_X2_entriesLeft (by decide +kernel) hrc hrs hR hf hn hl hst hW hdg kk
theorem wm_X2_25 : Cond.methodLink RX2 25 yJ6_bitCount_0f7a4 ∈ tbl := tb (i := 503) (by decide +kernel) (by decide +kernel)
theorem cm_X2_25 (X : CX p s m args RX2 G w) (hb : c.code = cc) (hml : c.maxLocals = nL) (hF : FH G w H0 H locs σ) (hM : Ct l G w yJ6_bitCount_0f7a4 cJ6_bitCount_0f7a4 1 (some .int) rm As σ v σ') (hR : rm.frames + 1 ≤ R.frames ∧ 8 + (1 + 11) + rm.locals ≤ R.locals) (hrc : rm.cells = 0) (hrs : rm.slots = 0) (hf : cells ≤ R.cells ∧ slots ≤ R.slots) (hn : As.length = 1) (hl : ls.size = nL) (hst : st0 = As.reverse ++ rest) (hW : (rest.map fun v => v.category).sum ≤ 8) (hdg : decode cc pc = .ok (.invokestatic 25, 3)) (kk : ∀ (H1 : Heap) (locs1 : List Loc), FH G w H0 H1 locs1 σ' → W p l e R s m args below meth c H1 locs1 cells slots Q (F0 m (pc + 3) ls (v.toList ++ rest))) : W p l e R s m args below meth c H locs cells slots Q (F0 m pc ls st0) := fl_callS (n := 1) X hb hml hF hM wm_X2_25 wk_J6_bitCount_0f7a4 wi_J6 wc_J6_bitCount_0f7a4 (by decide +kernel) hrc hrs hR hf hn hl hst hW hdg kk
theorem wm_X6_186 : Cond.methodLink RX6 186 yJ6_bitCount_0f7a4 ∈ tbl := tb (i := 504) (by decide +kernel) (by decide +kernel)
theorem cm_X6_186 (X : CX p s m args RX6 G w) (hb : c.code = cc) (hml : c.maxLocals = nL) (hF : FH G w H0 H locs σ) (hM : Ct l G w yJ6_bitCount_0f7a4 cJ6_bitCount_0f7a4 1 (some .int) rm As σ v σ') (hR : rm.frames + 1 ≤ R.frames ∧ 8 + (1 + 11) + rm.locals ≤ R.locals) (hrc : rm.cells = 0) (hrs : rm.slots = 0) (hf : cells ≤ R.cells ∧ slots ≤ R.slots) (hn : As.length = 1) (hl : ls.size = nL) (hst : st0 = As.reverse ++ rest) (hW : (rest.map fun v => v.category).sum ≤ 8) (hdg : decode cc pc = .ok (.invokestatic 186, 3)) (kk : ∀ (H1 : Heap) (locs1 : List Loc), FH G w H0 H1 locs1 σ' → W p l e R s m args below meth c H1 locs1 cells slots Q (F0 m (pc + 3) ls (v.toList ++ rest))) : W p l e R s m args below meth c H locs cells slots Q (F0 m pc ls st0) := fl_callS (n := 1) X hb hml hF hM wm_X6_186 wk_J6_bitCount_0f7a4 wi_J6 wc_J6_bitCount_0f7a4 (by decide +kernel) hrc hrs hR hf hn hl hst hW hdg kk
theorem wc_X6_spansByFirst : Cond.code yX6_spansByFirst cX6_spansByFirst 2 (some .int) ∈ tbl := tb (i := 508) (by decide +kernel) (by decide +kernel)
theorem wk_X6_spansByFirst : Cond.instanceMethod yX6_spansByFirst ∈ tbl := tb (i := 507) (by decide +kernel) (by decide +kernel)
theorem wl_X6_spansByFirst : Cond.selects RX6 yX6_spansByFirst yX6_spansByFirst ∈ tbl := tb (i := 15) (by decide +kernel) (by decide +kernel)
theorem wm_X6_210 : Cond.methodLink RX6 210 yX6_spansByFirst ∈ tbl := tb (i := 505) (by decide +kernel) (by decide +kernel)
theorem cm_X6_210 (X : CX p s m args RX6 G w) (hb : c.code = cc) (hml : c.maxLocals = nL) (hF : FH G w H0 H locs σ) (hM : Ct l G w yX6_spansByFirst cX6_spansByFirst 2 (some .int) rm (.ref (gA G k) :: As) σ v σ') (hs : SH w k (.inl (6, rs))) (hR : rm.frames + 1 ≤ R.frames ∧ 8 + (2 + 11) + rm.locals ≤ R.locals) (hrc : rm.cells = 0) (hrs : rm.slots = 0) (hf : cells ≤ R.cells ∧ slots ≤ R.slots) (hn : As.length = 1) (hl : ls.size = nL) (hst : st0 = As.reverse ++ .ref (gA G k) :: rest) (hW : (rest.map fun v => v.category).sum ≤ 8) (hdg : decode cc pc = .ok (.invokevirtual 210, 3)) (kk : ∀ (H1 : Heap) (locs1 : List Loc), FH G w H0 H1 locs1 σ' → W p l e R s m args below meth c H1 locs1 cells slots Q (F0 m (pc + 3) ls (v.toList ++ rest))) : W p l e R s m args below meth c H locs cells slots Q (F0 m pc ls st0) := fl_callV (n := 1) X hb hml hF hM hs rfl wm_X6_210 wk_X6_spansByFirst wl_X6_spansByFirst wi_X6 wc_X6_spansByFirst (by decide +kernel) hrc hrs hR hf hn hl hst hW hdg kk
theorem wc_X6_eventsOfNoOther : Cond.code yX6_eventsOfNoOther cX6_eventsOfNoOther 4 (some .int) ∈ tbl := tb (i := 512) (by decide +kernel) (by decide +kernel)
theorem wk_X6_eventsOfNoOther : Cond.instanceMethod yX6_eventsOfNoOther ∈ tbl := tb (i := 511) (by decide +kernel) (by decide +kernel)
theorem wl_X6_eventsOfNoOther : Cond.selects RX6 yX6_eventsOfNoOther yX6_eventsOfNoOther ∈ tbl := tb (i := 16) (by decide +kernel) (by decide +kernel)
theorem wm_X6_213 : Cond.methodLink RX6 213 yX6_eventsOfNoOther ∈ tbl := tb (i := 509) (by decide +kernel) (by decide +kernel)
theorem cm_X6_213 (X : CX p s m args RX6 G w) (hb : c.code = cc) (hml : c.maxLocals = nL) (hF : FH G w H0 H locs σ) (hM : Ct l G w yX6_eventsOfNoOther cX6_eventsOfNoOther 4 (some .int) rm (.ref (gA G k) :: As) σ v σ') (hs : SH w k (.inl (6, rs))) (hR : rm.frames + 1 ≤ R.frames ∧ 8 + (4 + 11) + rm.locals ≤ R.locals) (hrc : rm.cells = 0) (hrs : rm.slots = 0) (hf : cells ≤ R.cells ∧ slots ≤ R.slots) (hn : As.length = 1) (hl : ls.size = nL) (hst : st0 = As.reverse ++ .ref (gA G k) :: rest) (hW : (rest.map fun v => v.category).sum ≤ 8) (hdg : decode cc pc = .ok (.invokevirtual 213, 3)) (kk : ∀ (H1 : Heap) (locs1 : List Loc), FH G w H0 H1 locs1 σ' → W p l e R s m args below meth c H1 locs1 cells slots Q (F0 m (pc + 3) ls (v.toList ++ rest))) : W p l e R s m args below meth c H locs cells slots Q (F0 m pc ls st0) := fl_callV (n := 1) X hb hml hF hM hs rfl wm_X6_213 wk_X6_eventsOfNoOther wl_X6_eventsOfNoOther wi_X6 wc_X6_eventsOfNoOther (by decide +kernel) hrc hrs hR hf hn hl hst hW hdg kk
theorem wc_X6_knotsNow : Cond.code yX6_knotsNow cX6_knotsNow 1 (some .int) ∈ tbl := tb (i := 516) (by decide +kernel) (by decide +kernel)
theorem wk_X6_knotsNow : Cond.instanceMethod yX6_knotsNow ∈ tbl := tb (i := 515) (by decide +kernel) (by decide +kernel)
theorem wl_X6_knotsNow : Cond.selects RX6 yX6_knotsNow yX6_knotsNow ∈ tbl := tb (i := 17) (by decide +kernel) (by decide +kernel)
theorem wm_X6_198 : Cond.methodLink RX6 198 yX6_knotsNow ∈ tbl := tb (i := 513) (by decide +kernel) (by decide +kernel)
theorem cm_X6_198 (X : CX p s m args RX6 G w) (hb : c.code = cc) (hml : c.maxLocals = nL) (hF : FH G w H0 H locs σ) (hM : Ct l G w yX6_knotsNow cX6_knotsNow 1 (some .int) rm (.ref (gA G k) :: As) σ v σ') (hs : SH w k (.inl (6, rs))) (hR : rm.frames + 1 ≤ R.frames ∧ 8 + (1 + 11) + rm.locals ≤ R.locals) (hrc : rm.cells = 0) (hrs : rm.slots = 0) (hf : cells ≤ R.cells ∧ slots ≤ R.slots) (hn : As.length = 0) (hl : ls.size = nL) (hst : st0 = As.reverse ++ .ref (gA G k) :: rest) (hW : (rest.map fun v => v.category).sum ≤ 8) (hdg : decode cc pc = .ok (.invokevirtual 198, 3)) (kk : ∀ (H1 : Heap) (locs1 : List Loc), FH G w H0 H1 locs1 σ' → W p l e R s m args below meth c H1 locs1 cells slots Q (F0 m (pc + 3) ls (v.toList ++ rest))) : W p l e R s m args below meth c H locs cells slots Q (F0 m pc ls st0) := fl_callV (n := 0) X hb hml hF hM hs rfl wm_X6_198 wk_X6_knotsNow wl_X6_knotsNow wi_X6 wc_X6_knotsNow (by decide +kernel) hrc hrs hR hf hn hl hst hW hdg kk
theorem wc_X3_look : Cond.code yX3_look cX3_look 4 none ∈ tbl := tb (i := 520) (by decide +kernel) (by decide +kernel)
theorem wk_X3_look : Cond.instanceMethod yX3_look ∈ tbl := tb (i := 518) (by decide +kernel) (by decide +kernel)
theorem wl_X3_look : Cond.selects RX3 yX3_look yX3_look ∈ tbl := tb (i := 519) (by decide +kernel) (by decide +kernel)
theorem wi_X3 : Cond.initialized RX3 ∈ tbl := tb (i := 61) (by decide +kernel) (by decide +kernel)
theorem wm_X6_160 : Cond.methodLink RX6 160 yX3_look ∈ tbl := tb (i := 517) (by decide +kernel) (by decide +kernel)
theorem cm_X6_160 (X : CX p s m args RX6 G w) (hb : c.code = cc) (hml : c.maxLocals = nL) (hF : FH G w H0 H locs σ) (hM : Ct l G w yX3_look cX3_look 4 none rm (.ref (gA G k) :: As) σ v σ') (hs : SH w k (.inl (3, rs))) (hR : rm.frames + 1 ≤ R.frames ∧ 8 + (4 + 11) + rm.locals ≤ R.locals) (hrc : rm.cells = 0) (hrs : rm.slots = 0) (hf : cells ≤ R.cells ∧ slots ≤ R.slots) (hn : As.length = 2) (hl : ls.size = nL) (hst : st0 = As.reverse ++ .ref (gA G k) :: rest) (hW : (rest.map fun v => v.category).sum ≤ 8) (hdg : decode cc pc = .ok (.invokevirtual 160, 3)) (kk : ∀ (H1 : Heap) (locs1 : List Loc), FH G w H0 H1 locs1 σ' → W p l e R s m args below meth c H1 locs1 cells slots Q (F0 m (pc + 3) ls (v.toList ++ rest))) : W p l e R s m args below meth c H locs cells slots Q (F0 m pc ls st0) := fl_callV (n := 2) X hb hml hF hM hs rfl wm_X6_160 wk_X3_look wl_X3_look wi_X3 wc_X3_look (by decide +kernel) hrc hrs hR hf hn hl hst hW hdg kk
theorem wc_X3_empty : Cond.code yX3_empty cX3_empty 2 none ∈ tbl := tb (i := 524) (by decide +kernel) (by decide +kernel)
theorem wk_X3_empty : Cond.instanceMethod yX3_empty ∈ tbl := tb (i := 523) (by decide +kernel) (by decide +kernel)
theorem wl_X3_empty : Cond.selects RX3 yX3_empty yX3_empty ∈ tbl := tb (i := 18) (by decide +kernel) (by decide +kernel)
theorem wm_X3_18 : Cond.methodLink RX3 18 yX3_empty ∈ tbl := tb (i := 521) (by decide +kernel) (by decide +kernel)
theorem cm_X3_18 (X : CX p s m args RX3 G w) (hb : c.code = cc) (hml : c.maxLocals = nL) (hF : FH G w H0 H locs σ) (hM : Ct l G w yX3_empty cX3_empty 2 none rm (.ref (gA G k) :: As) σ v σ') (hs : SH w k (.inl (3, rs))) (hR : rm.frames + 1 ≤ R.frames ∧ 8 + (2 + 11) + rm.locals ≤ R.locals) (hrc : rm.cells = 0) (hrs : rm.slots = 0) (hf : cells ≤ R.cells ∧ slots ≤ R.slots) (hn : As.length = 0) (hl : ls.size = nL) (hst : st0 = As.reverse ++ .ref (gA G k) :: rest) (hW : (rest.map fun v => v.category).sum ≤ 8) (hdg : decode cc pc = .ok (.invokevirtual 18, 3)) (kk : ∀ (H1 : Heap) (locs1 : List Loc), FH G w H0 H1 locs1 σ' → W p l e R s m args below meth c H1 locs1 cells slots Q (F0 m (pc + 3) ls (v.toList ++ rest))) : W p l e R s m args below meth c H locs cells slots Q (F0 m pc ls st0) := fl_callV (n := 0) X hb hml hF hM hs rfl wm_X3_18 wk_X3_empty wl_X3_empty wi_X3 wc_X3_empty (by decide +kernel) hrc hrs hR hf hn hl hst hW hdg kk
theorem wc_X3_ask : Cond.code yX3_ask cX3_ask 6 none ∈ tbl := tb (i := 528) (by decide +kernel) (by decide +kernel)
theorem wk_X3_ask : Cond.instanceMethod yX3_ask ∈ tbl := tb (i := 527) (by decide +kernel) (by decide +kernel)
theorem wl_X3_ask : Cond.selects RX3 yX3_ask yX3_ask ∈ tbl := tb (i := 19) (by decide +kernel) (by decide +kernel)
theorem wm_X3_36 : Cond.methodLink RX3 36 yX3_ask ∈ tbl := tb (i := 525) (by decide +kernel) (by decide +kernel)
theorem cm_X3_36 (X : CX p s m args RX3 G w) (hb : c.code = cc) (hml : c.maxLocals = nL) (hF : FH G w H0 H locs σ) (hM : Ct l G w yX3_ask cX3_ask 6 none rm (.ref (gA G k) :: As) σ v σ') (hs : SH w k (.inl (3, rs))) (hR : rm.frames + 1 ≤ R.frames ∧ 8 + (6 + 11) + rm.locals ≤ R.locals) (hrc : rm.cells = 0) (hrs : rm.slots = 0) (hf : cells ≤ R.cells ∧ slots ≤ R.slots) (hn : As.length = 2) (hl : ls.size = nL) (hst : st0 = As.reverse ++ .ref (gA G k) :: rest) (hW : (rest.map fun v => v.category).sum ≤ 8) (hdg : decode cc pc = .ok (.invokevirtual 36, 3)) (kk : ∀ (H1 : Heap) (locs1 : List Loc), FH G w H0 H1 locs1 σ' → W p l e R s m args below meth c H1 locs1 cells slots Q (F0 m (pc + 3) ls (v.toList ++ rest))) : W p l e R s m args below meth c H locs cells slots Q (F0 m pc ls st0) := fl_callV (n := 2) X hb hml hF hM hs rfl wm_X3_36 wk_X3_ask wl_X3_ask wi_X3 wc_X3_ask (by decide +kernel) hrc hrs hR hf hn hl hst hW hdg kk
theorem wc_X3_chain : Cond.code yX3_chain cX3_chain 3 none ∈ tbl := tb (i := 532) (by decide +kernel) (by decide +kernel)
theorem wk_X3_chain : Cond.instanceMethod yX3_chain ∈ tbl := tb (i := 531) (by decide +kernel) (by decide +kernel)
theorem wl_X3_chain : Cond.selects RX3 yX3_chain yX3_chain ∈ tbl := tb (i := 20) (by decide +kernel) (by decide +kernel)
theorem wm_X3_40 : Cond.methodLink RX3 40 yX3_chain ∈ tbl := tb (i := 529) (by decide +kernel) (by decide +kernel)
theorem cm_X3_40 (X : CX p s m args RX3 G w) (hb : c.code = cc) (hml : c.maxLocals = nL) (hF : FH G w H0 H locs σ) (hM : Ct l G w yX3_chain cX3_chain 3 none rm (.ref (gA G k) :: As) σ v σ') (hs : SH w k (.inl (3, rs))) (hR : rm.frames + 1 ≤ R.frames ∧ 8 + (3 + 11) + rm.locals ≤ R.locals) (hrc : rm.cells = 0) (hrs : rm.slots = 0) (hf : cells ≤ R.cells ∧ slots ≤ R.slots) (hn : As.length = 0) (hl : ls.size = nL) (hst : st0 = As.reverse ++ .ref (gA G k) :: rest) (hW : (rest.map fun v => v.category).sum ≤ 8) (hdg : decode cc pc = .ok (.invokevirtual 40, 3)) (kk : ∀ (H1 : Heap) (locs1 : List Loc), FH G w H0 H1 locs1 σ' → W p l e R s m args below meth c H1 locs1 cells slots Q (F0 m (pc + 3) ls (v.toList ++ rest))) : W p l e R s m args below meth c H locs cells slots Q (F0 m pc ls st0) := fl_callV (n := 0) X hb hml hF hM hs rfl wm_X3_40 wk_X3_chain wl_X3_chain wi_X3 wc_X3_chain (by decide +kernel) hrc hrs hR hf hn hl hst hW hdg kk
theorem wc_X3_knots : Cond.code yX3_knots cX3_knots 3 (some .int) ∈ tbl := tb (i := 536) (by decide +kernel) (by decide +kernel)
theorem wk_X3_knots : Cond.instanceMethod yX3_knots ∈ tbl := tb (i := 534) (by decide +kernel) (by decide +kernel)
theorem wl_X3_knots : Cond.selects RX3 yX3_knots yX3_knots ∈ tbl := tb (i := 535) (by decide +kernel) (by decide +kernel)
theorem wm_X6_173 : Cond.methodLink RX6 173 yX3_knots ∈ tbl := tb (i := 533) (by decide +kernel) (by decide +kernel)
theorem cm_X6_173 (X : CX p s m args RX6 G w) (hb : c.code = cc) (hml : c.maxLocals = nL) (hF : FH G w H0 H locs σ) (hM : Ct l G w yX3_knots cX3_knots 3 (some .int) rm (.ref (gA G k) :: As) σ v σ') (hs : SH w k (.inl (3, rs))) (hR : rm.frames + 1 ≤ R.frames ∧ 8 + (3 + 11) + rm.locals ≤ R.locals) (hrc : rm.cells = 0) (hrs : rm.slots = 0) (hf : cells ≤ R.cells ∧ slots ≤ R.slots) (hn : As.length = 0) (hl : ls.size = nL) (hst : st0 = As.reverse ++ .ref (gA G k) :: rest) (hW : (rest.map fun v => v.category).sum ≤ 8) (hdg : decode cc pc = .ok (.invokevirtual 173, 3)) (kk : ∀ (H1 : Heap) (locs1 : List Loc), FH G w H0 H1 locs1 σ' → W p l e R s m args below meth c H1 locs1 cells slots Q (F0 m (pc + 3) ls (v.toList ++ rest))) : W p l e R s m args below meth c H locs cells slots Q (F0 m pc ls st0) := fl_callV (n := 0) X hb hml hF hM hs rfl wm_X6_173 wk_X3_knots wl_X3_knots wi_X3 wc_X3_knots (by decide +kernel) hrc hrs hR hf hn hl hst hW hdg kk
theorem wc_X6_rank : Cond.code yX6_rank cX6_rank 4 (some .int) ∈ tbl := tb (i := 540) (by decide +kernel) (by decide +kernel)
theorem wk_X6_rank : Cond.instanceMethod yX6_rank ∈ tbl := tb (i := 538) (by decide +kernel) (by decide +kernel)
theorem wl_X6_rank : Cond.selects RX6 yX6_rank yX6_rank ∈ tbl := tb (i := 539) (by decide +kernel) (by decide +kernel)
theorem wm_L_62 : Cond.methodLink RL 62 yX6_rank ∈ tbl := tb (i := 537) (by decide +kernel) (by decide +kernel)
theorem wc_X6_housesAbove : Cond.code yX6_housesAbove cX6_housesAbove 4 (some .int) ∈ tbl := tb (i := 544) (by decide +kernel) (by decide +kernel)
theorem wk_X6_housesAbove : Cond.instanceMethod yX6_housesAbove ∈ tbl := tb (i := 543) (by decide +kernel) (by decide +kernel)
theorem wl_X6_housesAbove : Cond.selects RX6 yX6_housesAbove yX6_housesAbove ∈ tbl := tb (i := 21) (by decide +kernel) (by decide +kernel)
theorem wm_X6_154 : Cond.methodLink RX6 154 yX6_housesAbove ∈ tbl := tb (i := 541) (by decide +kernel) (by decide +kernel)
theorem cm_X6_154 (X : CX p s m args RX6 G w) (hb : c.code = cc) (hml : c.maxLocals = nL) (hF : FH G w H0 H locs σ) (hM : Ct l G w yX6_housesAbove cX6_housesAbove 4 (some .int) rm (.ref (gA G k) :: As) σ v σ') (hs : SH w k (.inl (6, rs))) (hR : rm.frames + 1 ≤ R.frames ∧ 8 + (4 + 11) + rm.locals ≤ R.locals) (hrc : rm.cells = 0) (hrs : rm.slots = 0) (hf : cells ≤ R.cells ∧ slots ≤ R.slots) (hn : As.length = 1) (hl : ls.size = nL) (hst : st0 = As.reverse ++ .ref (gA G k) :: rest) (hW : (rest.map fun v => v.category).sum ≤ 8) (hdg : decode cc pc = .ok (.invokevirtual 154, 3)) (kk : ∀ (H1 : Heap) (locs1 : List Loc), FH G w H0 H1 locs1 σ' → W p l e R s m args below meth c H1 locs1 cells slots Q (F0 m (pc + 3) ls (v.toList ++ rest))) : W p l e R s m args below meth c H locs cells slots Q (F0 m pc ls st0) := fl_callV (n := 1) X hb hml hF hM hs rfl wm_X6_154 wk_X6_housesAbove wl_X6_housesAbove wi_X6 wc_X6_housesAbove (by decide +kernel) hrc hrs hR hf hn hl hst hW hdg kk
theorem wc_X6_event : Cond.code yX6_event cX6_event 3 (some .int) ∈ tbl := tb (i := 548) (by decide +kernel) (by decide +kernel)
theorem wk_X6_event : Cond.instanceMethod yX6_event ∈ tbl := tb (i := 546) (by decide +kernel) (by decide +kernel)
theorem wl_X6_event : Cond.selects RX6 yX6_event yX6_event ∈ tbl := tb (i := 547) (by decide +kernel) (by decide +kernel)
theorem wm_L_66 : Cond.methodLink RL 66 yX6_event ∈ tbl := tb (i := 545) (by decide +kernel) (by decide +kernel)
theorem wc_X6_isEvent : Cond.code yX6_isEvent cX6_isEvent 1 (some .boolean) ∈ tbl := tb (i := 551) (by decide +kernel) (by decide +kernel)
theorem wk_X6_isEvent : Cond.static yX6_isEvent ∈ tbl := tb (i := 550) (by decide +kernel) (by decide +kernel)
theorem wm_X6_157 : Cond.methodLink RX6 157 yX6_isEvent ∈ tbl := tb (i := 549) (by decide +kernel) (by decide +kernel)
theorem cm_X6_157 (X : CX p s m args RX6 G w) (hb : c.code = cc) (hml : c.maxLocals = nL) (hF : FH G w H0 H locs σ) (hM : Ct l G w yX6_isEvent cX6_isEvent 1 (some .boolean) rm As σ v σ') (hR : rm.frames + 1 ≤ R.frames ∧ 8 + (1 + 11) + rm.locals ≤ R.locals) (hrc : rm.cells = 0) (hrs : rm.slots = 0) (hf : cells ≤ R.cells ∧ slots ≤ R.slots) (hn : As.length = 1) (hl : ls.size = nL) (hst : st0 = As.reverse ++ rest) (hW : (rest.map fun v => v.category).sum ≤ 8) (hdg : decode cc pc = .ok (.invokestatic 157, 3)) (kk : ∀ (H1 : Heap) (locs1 : List Loc), FH G w H0 H1 locs1 σ' → W p l e R s m args below meth c H1 locs1 cells slots Q (F0 m (pc + 3) ls (v.toList ++ rest))) : W p l e R s m args below meth c H locs cells slots Q (F0 m pc ls st0) := fl_callS (n := 1) X hb hml hF hM wm_X6_157 wk_X6_isEvent wi_X6 wc_X6_isEvent (by decide +kernel) hrc hrs hR hf hn hl hst hW hdg kk
theorem wc_X0_housesThatHave : Cond.code yX0_housesThatHave cX0_housesThatHave 4 (some .int) ∈ tbl := tb (i := 555) (by decide +kernel) (by decide +kernel)
theorem wk_X0_housesThatHave : Cond.instanceMethod yX0_housesThatHave ∈ tbl := tb (i := 553) (by decide +kernel) (by decide +kernel)
theorem wl_X0_housesThatHave : Cond.selects RX0 yX0_housesThatHave yX0_housesThatHave ∈ tbl := tb (i := 554) (by decide +kernel) (by decide +kernel)
theorem wm_X6_164 : Cond.methodLink RX6 164 yX0_housesThatHave ∈ tbl := tb (i := 552) (by decide +kernel) (by decide +kernel)
theorem cm_X6_164 (X : CX p s m args RX6 G w) (hb : c.code = cc) (hml : c.maxLocals = nL) (hF : FH G w H0 H locs σ) (hM : Ct l G w yX0_housesThatHave cX0_housesThatHave 4 (some .int) rm (.ref (gA G k) :: As) σ v σ') (hs : SH w k (.inl (0, rs))) (hR : rm.frames + 1 ≤ R.frames ∧ 8 + (4 + 11) + rm.locals ≤ R.locals) (hrc : rm.cells = 0) (hrs : rm.slots = 0) (hf : cells ≤ R.cells ∧ slots ≤ R.slots) (hn : As.length = 1) (hl : ls.size = nL) (hst : st0 = As.reverse ++ .ref (gA G k) :: rest) (hW : (rest.map fun v => v.category).sum ≤ 8) (hdg : decode cc pc = .ok (.invokevirtual 164, 3)) (kk : ∀ (H1 : Heap) (locs1 : List Loc), FH G w H0 H1 locs1 σ' → W p l e R s m args below meth c H1 locs1 cells slots Q (F0 m (pc + 3) ls (v.toList ++ rest))) : W p l e R s m args below meth c H locs cells slots Q (F0 m pc ls st0) := fl_callV (n := 1) X hb hml hF hM hs rfl wm_X6_164 wk_X0_housesThatHave wl_X0_housesThatHave wi_X0 wc_X0_housesThatHave (by decide +kernel) hrc hrs hR hf hn hl hst hW hdg kk
theorem wm_X0_44 : Cond.methodLink RX0 44 yX2_placeOf ∈ tbl := tb (i := 556) (by decide +kernel) (by decide +kernel)
theorem cm_X0_44 (X : CX p s m args RX0 G w) (hb : c.code = cc) (hml : c.maxLocals = nL) (hF : FH G w H0 H locs σ) (hM : Ct l G w yX2_placeOf cX2_placeOf 3 (some .int) rm (.ref (gA G k) :: As) σ v σ') (hs : SH w k (.inl (2, rs))) (hR : rm.frames + 1 ≤ R.frames ∧ 8 + (3 + 11) + rm.locals ≤ R.locals) (hrc : rm.cells = 0) (hrs : rm.slots = 0) (hf : cells ≤ R.cells ∧ slots ≤ R.slots) (hn : As.length = 1) (hl : ls.size = nL) (hst : st0 = As.reverse ++ .ref (gA G k) :: rest) (hW : (rest.map fun v => v.category).sum ≤ 8) (hdg : decode cc pc = .ok (.invokevirtual 44, 3)) (kk : ∀ (H1 : Heap) (locs1 : List Loc), FH G w H0 H1 locs1 σ' → W p l e R s m args below meth c H1 locs1 cells slots Q (F0 m (pc + 3) ls (v.toList ++ rest))) : W p l e R s m args below meth c H locs cells slots Q (F0 m pc ls st0) := fl_callV (n := 1) X hb hml hF hM hs rfl wm_X0_44 wk_X2_placeOf wl_X2_placeOf wi_X2 wc_X2_placeOf (by decide +kernel) hrc hrs hR hf hn hl hst hW hdg kk
theorem wc_X6_date : Cond.code yX6_date cX6_date 2 (some .int) ∈ tbl := tb (i := 560) (by decide +kernel) (by decide +kernel)
theorem wk_X6_date : Cond.instanceMethod yX6_date ∈ tbl := tb (i := 558) (by decide +kernel) (by decide +kernel)
theorem wl_X6_date : Cond.selects RX6 yX6_date yX6_date ∈ tbl := tb (i := 559) (by decide +kernel) (by decide +kernel)
theorem wm_L_70 : Cond.methodLink RL 70 yX6_date ∈ tbl := tb (i := 557) (by decide +kernel) (by decide +kernel)
theorem wc_X6_dateOf : Cond.code yX6_dateOf cX6_dateOf 4 (some .int) ∈ tbl := tb (i := 564) (by decide +kernel) (by decide +kernel)
theorem wk_X6_dateOf : Cond.instanceMethod yX6_dateOf ∈ tbl := tb (i := 563) (by decide +kernel) (by decide +kernel)
theorem wl_X6_dateOf : Cond.selects RX6 yX6_dateOf yX6_dateOf ∈ tbl := tb (i := 22) (by decide +kernel) (by decide +kernel)
theorem wm_X6_177 : Cond.methodLink RX6 177 yX6_dateOf ∈ tbl := tb (i := 561) (by decide +kernel) (by decide +kernel)
theorem cm_X6_177 (X : CX p s m args RX6 G w) (hb : c.code = cc) (hml : c.maxLocals = nL) (hF : FH G w H0 H locs σ) (hM : Ct l G w yX6_dateOf cX6_dateOf 4 (some .int) rm (.ref (gA G k) :: As) σ v σ') (hs : SH w k (.inl (6, rs))) (hR : rm.frames + 1 ≤ R.frames ∧ 8 + (4 + 11) + rm.locals ≤ R.locals) (hrc : rm.cells = 0) (hrs : rm.slots = 0) (hf : cells ≤ R.cells ∧ slots ≤ R.slots) (hn : As.length = 1) (hl : ls.size = nL) (hst : st0 = As.reverse ++ .ref (gA G k) :: rest) (hW : (rest.map fun v => v.category).sum ≤ 8) (hdg : decode cc pc = .ok (.invokevirtual 177, 3)) (kk : ∀ (H1 : Heap) (locs1 : List Loc), FH G w H0 H1 locs1 σ' → W p l e R s m args below meth c H1 locs1 cells slots Q (F0 m (pc + 3) ls (v.toList ++ rest))) : W p l e R s m args below meth c H locs cells slots Q (F0 m pc ls st0) := fl_callV (n := 1) X hb hml hF hM hs rfl wm_X6_177 wk_X6_dateOf wl_X6_dateOf wi_X6 wc_X6_dateOf (by decide +kernel) hrc hrs hR hf hn hl hst hW hdg kk
theorem wm_X6_216 : Cond.methodLink RX6 216 yX2_placeOf ∈ tbl := tb (i := 565) (by decide +kernel) (by decide +kernel)
theorem cm_X6_216 (X : CX p s m args RX6 G w) (hb : c.code = cc) (hml : c.maxLocals = nL) (hF : FH G w H0 H locs σ) (hM : Ct l G w yX2_placeOf cX2_placeOf 3 (some .int) rm (.ref (gA G k) :: As) σ v σ') (hs : SH w k (.inl (2, rs))) (hR : rm.frames + 1 ≤ R.frames ∧ 8 + (3 + 11) + rm.locals ≤ R.locals) (hrc : rm.cells = 0) (hrs : rm.slots = 0) (hf : cells ≤ R.cells ∧ slots ≤ R.slots) (hn : As.length = 1) (hl : ls.size = nL) (hst : st0 = As.reverse ++ .ref (gA G k) :: rest) (hW : (rest.map fun v => v.category).sum ≤ 8) (hdg : decode cc pc = .ok (.invokevirtual 216, 3)) (kk : ∀ (H1 : Heap) (locs1 : List Loc), FH G w H0 H1 locs1 σ' → W p l e R s m args below meth c H1 locs1 cells slots Q (F0 m (pc + 3) ls (v.toList ++ rest))) : W p l e R s m args below meth c H locs cells slots Q (F0 m pc ls st0) := fl_callV (n := 1) X hb hml hF hM hs rfl wm_X6_216 wk_X2_placeOf wl_X2_placeOf wi_X2 wc_X2_placeOf (by decide +kernel) hrc hrs hR hf hn hl hst hW hdg kk
theorem wc_X6_late : Cond.code yX6_late cX6_late 5 (some .int) ∈ tbl := tb (i := 569) (by decide +kernel) (by decide +kernel)
theorem wk_X6_late : Cond.instanceMethod yX6_late ∈ tbl := tb (i := 567) (by decide +kernel) (by decide +kernel)
theorem wl_X6_late : Cond.selects RX6 yX6_late yX6_late ∈ tbl := tb (i := 568) (by decide +kernel) (by decide +kernel)
theorem wm_L_74 : Cond.methodLink RL 74 yX6_late ∈ tbl := tb (i := 566) (by decide +kernel) (by decide +kernel)
theorem wc_X6_line : Cond.code yX6_line cX6_line 2 (some .int) ∈ tbl := tb (i := 573) (by decide +kernel) (by decide +kernel)
theorem wk_X6_line : Cond.instanceMethod yX6_line ∈ tbl := tb (i := 571) (by decide +kernel) (by decide +kernel)
theorem wl_X6_line : Cond.selects RX6 yX6_line yX6_line ∈ tbl := tb (i := 572) (by decide +kernel) (by decide +kernel)
theorem wm_L_78 : Cond.methodLink RL 78 yX6_line ∈ tbl := tb (i := 570) (by decide +kernel) (by decide +kernel)
theorem wc_X0_eventBits : Cond.code yX0_eventBits cX0_eventBits 3 (some .int) ∈ tbl := tb (i := 577) (by decide +kernel) (by decide +kernel)
theorem wk_X0_eventBits : Cond.instanceMethod yX0_eventBits ∈ tbl := tb (i := 575) (by decide +kernel) (by decide +kernel)
theorem wl_X0_eventBits : Cond.selects RX0 yX0_eventBits yX0_eventBits ∈ tbl := tb (i := 576) (by decide +kernel) (by decide +kernel)
theorem wm_X6_180 : Cond.methodLink RX6 180 yX0_eventBits ∈ tbl := tb (i := 574) (by decide +kernel) (by decide +kernel)
theorem cm_X6_180 (X : CX p s m args RX6 G w) (hb : c.code = cc) (hml : c.maxLocals = nL) (hF : FH G w H0 H locs σ) (hM : Ct l G w yX0_eventBits cX0_eventBits 3 (some .int) rm (.ref (gA G k) :: As) σ v σ') (hs : SH w k (.inl (0, rs))) (hR : rm.frames + 1 ≤ R.frames ∧ 8 + (3 + 11) + rm.locals ≤ R.locals) (hrc : rm.cells = 0) (hrs : rm.slots = 0) (hf : cells ≤ R.cells ∧ slots ≤ R.slots) (hn : As.length = 0) (hl : ls.size = nL) (hst : st0 = As.reverse ++ .ref (gA G k) :: rest) (hW : (rest.map fun v => v.category).sum ≤ 8) (hdg : decode cc pc = .ok (.invokevirtual 180, 3)) (kk : ∀ (H1 : Heap) (locs1 : List Loc), FH G w H0 H1 locs1 σ' → W p l e R s m args below meth c H1 locs1 cells slots Q (F0 m (pc + 3) ls (v.toList ++ rest))) : W p l e R s m args below meth c H locs cells slots Q (F0 m pc ls st0) := fl_callV (n := 0) X hb hml hF hM hs rfl wm_X6_180 wk_X0_eventBits wl_X0_eventBits wi_X0 wc_X0_eventBits (by decide +kernel) hrc hrs hR hf hn hl hst hW hdg kk
theorem wm_X0_41 : Cond.methodLink RX0 41 yX2_eventBits ∈ tbl := tb (i := 578) (by decide +kernel) (by decide +kernel)
theorem cm_X0_41 (X : CX p s m args RX0 G w) (hb : c.code = cc) (hml : c.maxLocals = nL) (hF : FH G w H0 H locs σ) (hM : Ct l G w yX2_eventBits cX2_eventBits 3 (some .int) rm (.ref (gA G k) :: As) σ v σ') (hs : SH w k (.inl (2, rs))) (hR : rm.frames + 1 ≤ R.frames ∧ 8 + (3 + 11) + rm.locals ≤ R.locals) (hrc : rm.cells = 0) (hrs : rm.slots = 0) (hf : cells ≤ R.cells ∧ slots ≤ R.slots) (hn : As.length = 0) (hl : ls.size = nL) (hst : st0 = As.reverse ++ .ref (gA G k) :: rest) (hW : (rest.map fun v => v.category).sum ≤ 8) (hdg : decode cc pc = .ok (.invokevirtual 41, 3)) (kk : ∀ (H1 : Heap) (locs1 : List Loc), FH G w H0 H1 locs1 σ' → W p l e R s m args below meth c H1 locs1 cells slots Q (F0 m (pc + 3) ls (v.toList ++ rest))) : W p l e R s m args below meth c H locs cells slots Q (F0 m pc ls st0) := fl_callV (n := 0) X hb hml hF hM hs rfl wm_X0_41 wk_X2_eventBits wl_X2_eventBits wi_X2 wc_X2_eventBits (by decide +kernel) hrc hrs hR hf hn hl hst hW hdg kk
theorem wc_X3_inLine : Cond.code yX3_inLine cX3_inLine 6 (some .int) ∈ tbl := tb (i := 582) (by decide +kernel) (by decide +kernel)
theorem wk_X3_inLine : Cond.instanceMethod yX3_inLine ∈ tbl := tb (i := 580) (by decide +kernel) (by decide +kernel)
theorem wl_X3_inLine : Cond.selects RX3 yX3_inLine yX3_inLine ∈ tbl := tb (i := 581) (by decide +kernel) (by decide +kernel)
theorem wm_X6_183 : Cond.methodLink RX6 183 yX3_inLine ∈ tbl := tb (i := 579) (by decide +kernel) (by decide +kernel)
theorem cm_X6_183 (X : CX p s m args RX6 G w) (hb : c.code = cc) (hml : c.maxLocals = nL) (hF : FH G w H0 H locs σ) (hM : Ct l G w yX3_inLine cX3_inLine 6 (some .int) rm (.ref (gA G k) :: As) σ v σ') (hs : SH w k (.inl (3, rs))) (hR : rm.frames + 1 ≤ R.frames ∧ 8 + (6 + 11) + rm.locals ≤ R.locals) (hrc : rm.cells = 0) (hrs : rm.slots = 0) (hf : cells ≤ R.cells ∧ slots ≤ R.slots) (hn : As.length = 2) (hl : ls.size = nL) (hst : st0 = As.reverse ++ .ref (gA G k) :: rest) (hW : (rest.map fun v => v.category).sum ≤ 8) (hdg : decode cc pc = .ok (.invokevirtual 183, 3)) (kk : ∀ (H1 : Heap) (locs1 : List Loc), FH G w H0 H1 locs1 σ' → W p l e R s m args below meth c H1 locs1 cells slots Q (F0 m (pc + 3) ls (v.toList ++ rest))) : W p l e R s m args below meth c H locs cells slots Q (F0 m pc ls st0) := fl_callV (n := 2) X hb hml hF hM hs rfl wm_X6_183 wk_X3_inLine wl_X3_inLine wi_X3 wc_X3_inLine (by decide +kernel) hrc hrs hR hf hn hl hst hW hdg kk
theorem wc_X3_lowestFree : Cond.code yX3_lowestFree cX3_lowestFree 5 (some .int) ∈ tbl := tb (i := 586) (by decide +kernel) (by decide +kernel)
theorem wk_X3_lowestFree : Cond.instanceMethod yX3_lowestFree ∈ tbl := tb (i := 585) (by decide +kernel) (by decide +kernel)
theorem wl_X3_lowestFree : Cond.selects RX3 yX3_lowestFree yX3_lowestFree ∈ tbl := tb (i := 23) (by decide +kernel) (by decide +kernel)
theorem wm_X3_50 : Cond.methodLink RX3 50 yX3_lowestFree ∈ tbl := tb (i := 583) (by decide +kernel) (by decide +kernel)
theorem cm_X3_50 (X : CX p s m args RX3 G w) (hb : c.code = cc) (hml : c.maxLocals = nL) (hF : FH G w H0 H locs σ) (hM : Ct l G w yX3_lowestFree cX3_lowestFree 5 (some .int) rm (.ref (gA G k) :: As) σ v σ') (hs : SH w k (.inl (3, rs))) (hR : rm.frames + 1 ≤ R.frames ∧ 8 + (5 + 11) + rm.locals ≤ R.locals) (hrc : rm.cells = 0) (hrs : rm.slots = 0) (hf : cells ≤ R.cells ∧ slots ≤ R.slots) (hn : As.length = 1) (hl : ls.size = nL) (hst : st0 = As.reverse ++ .ref (gA G k) :: rest) (hW : (rest.map fun v => v.category).sum ≤ 8) (hdg : decode cc pc = .ok (.invokevirtual 50, 3)) (kk : ∀ (H1 : Heap) (locs1 : List Loc), FH G w H0 H1 locs1 σ' → W p l e R s m args below meth c H1 locs1 cells slots Q (F0 m (pc + 3) ls (v.toList ++ rest))) : W p l e R s m args below meth c H locs cells slots Q (F0 m pc ls st0) := fl_callV (n := 1) X hb hml hF hM hs rfl wm_X3_50 wk_X3_lowestFree wl_X3_lowestFree wi_X3 wc_X3_lowestFree (by decide +kernel) hrc hrs hR hf hn hl hst hW hdg kk
theorem wc_X6_without : Cond.code yX6_without cX6_without 3 (some .int) ∈ tbl := tb (i := 590) (by decide +kernel) (by decide +kernel)
theorem wk_X6_without : Cond.instanceMethod yX6_without ∈ tbl := tb (i := 588) (by decide +kernel) (by decide +kernel)
theorem wl_X6_without : Cond.selects RX6 yX6_without yX6_without ∈ tbl := tb (i := 589) (by decide +kernel) (by decide +kernel)
theorem wm_L_82 : Cond.methodLink RL 82 yX6_without ∈ tbl := tb (i := 587) (by decide +kernel) (by decide +kernel)
theorem wc_X6_sees : Cond.code yX6_sees cX6_sees 2 (some .int) ∈ tbl := tb (i := 594) (by decide +kernel) (by decide +kernel)
theorem wk_X6_sees : Cond.instanceMethod yX6_sees ∈ tbl := tb (i := 592) (by decide +kernel) (by decide +kernel)
theorem wl_X6_sees : Cond.selects RX6 yX6_sees yX6_sees ∈ tbl := tb (i := 593) (by decide +kernel) (by decide +kernel)
theorem wm_L_86 : Cond.methodLink RL 86 yX6_sees ∈ tbl := tb (i := 591) (by decide +kernel) (by decide +kernel)
theorem wc_X6_forget : Cond.code yX6_forget cX6_forget 2 (some .int) ∈ tbl := tb (i := 598) (by decide +kernel) (by decide +kernel)
theorem wk_X6_forget : Cond.instanceMethod yX6_forget ∈ tbl := tb (i := 596) (by decide +kernel) (by decide +kernel)
theorem wl_X6_forget : Cond.selects RX6 yX6_forget yX6_forget ∈ tbl := tb (i := 597) (by decide +kernel) (by decide +kernel)
theorem wm_L_90 : Cond.methodLink RL 90 yX6_forget ∈ tbl := tb (i := 595) (by decide +kernel) (by decide +kernel)
theorem wc_X6_unseen : Cond.code yX6_unseen cX6_unseen 6 (some .int) ∈ tbl := tb (i := 602) (by decide +kernel) (by decide +kernel)
theorem wk_X6_unseen : Cond.instanceMethod yX6_unseen ∈ tbl := tb (i := 600) (by decide +kernel) (by decide +kernel)
theorem wl_X6_unseen : Cond.selects RX6 yX6_unseen yX6_unseen ∈ tbl := tb (i := 601) (by decide +kernel) (by decide +kernel)
theorem wm_L_94 : Cond.methodLink RL 94 yX6_unseen ∈ tbl := tb (i := 599) (by decide +kernel) (by decide +kernel)
theorem wc_X6_maySeem : Cond.code yX6_maySeem cX6_maySeem 5 (some .boolean) ∈ tbl := tb (i := 606) (by decide +kernel) (by decide +kernel)
theorem wk_X6_maySeem : Cond.instanceMethod yX6_maySeem ∈ tbl := tb (i := 605) (by decide +kernel) (by decide +kernel)
theorem wl_X6_maySeem : Cond.selects RX6 yX6_maySeem yX6_maySeem ∈ tbl := tb (i := 24) (by decide +kernel) (by decide +kernel)
theorem wm_X6_192 : Cond.methodLink RX6 192 yX6_maySeem ∈ tbl := tb (i := 603) (by decide +kernel) (by decide +kernel)
theorem cm_X6_192 (X : CX p s m args RX6 G w) (hb : c.code = cc) (hml : c.maxLocals = nL) (hF : FH G w H0 H locs σ) (hM : Ct l G w yX6_maySeem cX6_maySeem 5 (some .boolean) rm (.ref (gA G k) :: As) σ v σ') (hs : SH w k (.inl (6, rs))) (hR : rm.frames + 1 ≤ R.frames ∧ 8 + (5 + 11) + rm.locals ≤ R.locals) (hrc : rm.cells = 0) (hrs : rm.slots = 0) (hf : cells ≤ R.cells ∧ slots ≤ R.slots) (hn : As.length = 2) (hl : ls.size = nL) (hst : st0 = As.reverse ++ .ref (gA G k) :: rest) (hW : (rest.map fun v => v.category).sum ≤ 8) (hdg : decode cc pc = .ok (.invokevirtual 192, 3)) (kk : ∀ (H1 : Heap) (locs1 : List Loc), FH G w H0 H1 locs1 σ' → W p l e R s m args below meth c H1 locs1 cells slots Q (F0 m (pc + 3) ls (v.toList ++ rest))) : W p l e R s m args below meth c H locs cells slots Q (F0 m pc ls st0) := fl_callV (n := 2) X hb hml hF hM hs rfl wm_X6_192 wk_X6_maySeem wl_X6_maySeem wi_X6 wc_X6_maySeem (by decide +kernel) hrc hrs hR hf hn hl hst hW hdg kk
theorem wc_X3_lookStruck : Cond.code yX3_lookStruck cX3_lookStruck 6 none ∈ tbl := tb (i := 610) (by decide +kernel) (by decide +kernel)
theorem wk_X3_lookStruck : Cond.instanceMethod yX3_lookStruck ∈ tbl := tb (i := 608) (by decide +kernel) (by decide +kernel)
theorem wl_X3_lookStruck : Cond.selects RX3 yX3_lookStruck yX3_lookStruck ∈ tbl := tb (i := 609) (by decide +kernel) (by decide +kernel)
theorem wm_X6_219 : Cond.methodLink RX6 219 yX3_lookStruck ∈ tbl := tb (i := 607) (by decide +kernel) (by decide +kernel)
theorem cm_X6_219 (X : CX p s m args RX6 G w) (hb : c.code = cc) (hml : c.maxLocals = nL) (hF : FH G w H0 H locs σ) (hM : Ct l G w yX3_lookStruck cX3_lookStruck 6 none rm (.ref (gA G k) :: As) σ v σ') (hs : SH w k (.inl (3, rs))) (hR : rm.frames + 1 ≤ R.frames ∧ 8 + (6 + 11) + rm.locals ≤ R.locals) (hrc : rm.cells = 0) (hrs : rm.slots = 0) (hf : cells ≤ R.cells ∧ slots ≤ R.slots) (hn : As.length = 3) (hl : ls.size = nL) (hst : st0 = As.reverse ++ .ref (gA G k) :: rest) (hW : (rest.map fun v => v.category).sum ≤ 8) (hdg : decode cc pc = .ok (.invokevirtual 219, 3)) (kk : ∀ (H1 : Heap) (locs1 : List Loc), FH G w H0 H1 locs1 σ' → W p l e R s m args below meth c H1 locs1 cells slots Q (F0 m (pc + 3) ls (v.toList ++ rest))) : W p l e R s m args below meth c H locs cells slots Q (F0 m pc ls st0) := fl_callV (n := 3) X hb hml hF hM hs rfl wm_X6_219 wk_X3_lookStruck wl_X3_lookStruck wi_X3 wc_X3_lookStruck (by decide +kernel) hrc hrs hR hf hn hl hst hW hdg kk
theorem wc_X6_keep : Cond.code yX6_keep cX6_keep 2 (some .int) ∈ tbl := tb (i := 614) (by decide +kernel) (by decide +kernel)
theorem wk_X6_keep : Cond.instanceMethod yX6_keep ∈ tbl := tb (i := 612) (by decide +kernel) (by decide +kernel)
theorem wl_X6_keep : Cond.selects RX6 yX6_keep yX6_keep ∈ tbl := tb (i := 613) (by decide +kernel) (by decide +kernel)
theorem wm_L_98 : Cond.methodLink RL 98 yX6_keep ∈ tbl := tb (i := 611) (by decide +kernel) (by decide +kernel)
theorem wc_X6_back : Cond.code yX6_back cX6_back 2 (some .int) ∈ tbl := tb (i := 618) (by decide +kernel) (by decide +kernel)
theorem wk_X6_back : Cond.instanceMethod yX6_back ∈ tbl := tb (i := 616) (by decide +kernel) (by decide +kernel)
theorem wl_X6_back : Cond.selects RX6 yX6_back yX6_back ∈ tbl := tb (i := 617) (by decide +kernel) (by decide +kernel)
theorem wm_L_102 : Cond.methodLink RL 102 yX6_back ∈ tbl := tb (i := 615) (by decide +kernel) (by decide +kernel)
theorem wc_X6_count : Cond.code yX6_count cX6_count 2 (some .int) ∈ tbl := tb (i := 622) (by decide +kernel) (by decide +kernel)
theorem wk_X6_count : Cond.instanceMethod yX6_count ∈ tbl := tb (i := 620) (by decide +kernel) (by decide +kernel)
theorem wl_X6_count : Cond.selects RX6 yX6_count yX6_count ∈ tbl := tb (i := 621) (by decide +kernel) (by decide +kernel)
theorem wm_L_106 : Cond.methodLink RL 106 yX6_count ∈ tbl := tb (i := 619) (by decide +kernel) (by decide +kernel)
theorem wc_X0_entriesLeft : Cond.code yX0_entriesLeft cX0_entriesLeft 3 (some .int) ∈ tbl := tb (i := 626) (by decide +kernel) (by decide +kernel)
theorem wk_X0_entriesLeft : Cond.instanceMethod yX0_entriesLeft ∈ tbl := tb (i := 624) (by decide +kernel) (by decide +kernel)
theorem wl_X0_entriesLeft : Cond.selects RX0 yX0_entriesLeft yX0_entriesLeft ∈ tbl := tb (i := 625) (by decide +kernel) (by decide +kernel)
theorem wm_X6_195 : Cond.methodLink RX6 195 yX0_entriesLeft ∈ tbl := tb (i := 623) (by decide +kernel) (by decide +kernel)
theorem cm_X6_195 (X : CX p s m args RX6 G w) (hb : c.code = cc) (hml : c.maxLocals = nL) (hF : FH G w H0 H locs σ) (hM : Ct l G w yX0_entriesLeft cX0_entriesLeft 3 (some .int) rm (.ref (gA G k) :: As) σ v σ') (hs : SH w k (.inl (0, rs))) (hR : rm.frames + 1 ≤ R.frames ∧ 8 + (3 + 11) + rm.locals ≤ R.locals) (hrc : rm.cells = 0) (hrs : rm.slots = 0) (hf : cells ≤ R.cells ∧ slots ≤ R.slots) (hn : As.length = 0) (hl : ls.size = nL) (hst : st0 = As.reverse ++ .ref (gA G k) :: rest) (hW : (rest.map fun v => v.category).sum ≤ 8) (hdg : decode cc pc = .ok (.invokevirtual 195, 3)) (kk : ∀ (H1 : Heap) (locs1 : List Loc), FH G w H0 H1 locs1 σ' → W p l e R s m args below meth c H1 locs1 cells slots Q (F0 m (pc + 3) ls (v.toList ++ rest))) : W p l e R s m args below meth c H locs cells slots Q (F0 m pc ls st0) := fl_callV (n := 0) X hb hml hF hM hs rfl wm_X6_195 wk_X0_entriesLeft wl_X0_entriesLeft wi_X0 wc_X0_entriesLeft (by decide +kernel) hrc hrs hR hf hn hl hst hW hdg kk
theorem wm_X0_37 : Cond.methodLink RX0 37 yX2_entriesLeft ∈ tbl := tb (i := 627) (by decide +kernel) (by decide +kernel)
theorem cm_X0_37 (X : CX p s m args RX0 G w) (hb : c.code = cc) (hml : c.maxLocals = nL) (hF : FH G w H0 H locs σ) (hM : Ct l G w yX2_entriesLeft cX2_entriesLeft 1 (some .int) rm (.ref (gA G k) :: As) σ v σ') (hs : SH w k (.inl (2, rs))) (hR : rm.frames + 1 ≤ R.frames ∧ 8 + (1 + 11) + rm.locals ≤ R.locals) (hrc : rm.cells = 0) (hrs : rm.slots = 0) (hf : cells ≤ R.cells ∧ slots ≤ R.slots) (hn : As.length = 0) (hl : ls.size = nL) (hst : st0 = As.reverse ++ .ref (gA G k) :: rest) (hW : (rest.map fun v => v.category).sum ≤ 8) (hdg : decode cc pc = .ok (.invokevirtual 37, 3)) (kk : ∀ (H1 : Heap) (locs1 : List Loc), FH G w H0 H1 locs1 σ' → W p l e R s m args below meth c H1 locs1 cells slots Q (F0 m (pc + 3) ls (v.toList ++ rest))) : W p l e R s m args below meth c H locs cells slots Q (F0 m pc ls st0) := fl_callV (n := 0) X hb hml hF hM hs rfl wm_X0_37 wk_X2_entriesLeft wl_X2_entriesLeft wi_X2 wc_X2_entriesLeft (by decide +kernel) hrc hrs hR hf hn hl hst hW hdg kk
theorem wc_X7_type : Cond.code yX7_type cX7_type 2 (some .int) ∈ tbl := tb (i := 714) (by decide +kernel) (by decide +kernel)
theorem wk_X7_type : Cond.instanceMethod yX7_type ∈ tbl := tb (i := 712) (by decide +kernel) (by decide +kernel)
theorem wl_X7_type : Cond.selects RX7 yX7_type yX7_type ∈ tbl := tb (i := 713) (by decide +kernel) (by decide +kernel)
theorem wi_X7 : Cond.initialized RX7 ∈ tbl := tb (i := 62) (by decide +kernel) (by decide +kernel)
theorem wm_L_17 : Cond.methodLink RL 17 yX7_type ∈ tbl := tb (i := 711) (by decide +kernel) (by decide +kernel)
theorem wc_X7_in : Cond.code yX7_in cX7_in 6 (some .boolean) ∈ tbl := tb (i := 718) (by decide +kernel) (by decide +kernel)
theorem wk_X7_in : Cond.static yX7_in ∈ tbl := tb (i := 717) (by decide +kernel) (by decide +kernel)
theorem wm_X7_62 : Cond.methodLink RX7 62 yX7_in ∈ tbl := tb (i := 716) (by decide +kernel) (by decide +kernel)
theorem cm_X7_62 (X : CX p s m args RX7 G w) (hb : c.code = cc) (hml : c.maxLocals = nL) (hF : FH G w H0 H locs σ) (hM : Ct l G w yX7_in cX7_in 6 (some .boolean) rm As σ v σ') (hR : rm.frames + 1 ≤ R.frames ∧ 8 + (6 + 11) + rm.locals ≤ R.locals) (hrc : rm.cells = 0) (hrs : rm.slots = 0) (hf : cells ≤ R.cells ∧ slots ≤ R.slots) (hn : As.length = 3) (hl : ls.size = nL) (hst : st0 = As.reverse ++ rest) (hW : (rest.map fun v => v.category).sum ≤ 8) (hdg : decode cc pc = .ok (.invokestatic 62, 3)) (kk : ∀ (H1 : Heap) (locs1 : List Loc), FH G w H0 H1 locs1 σ' → W p l e R s m args below meth c H1 locs1 cells slots Q (F0 m (pc + 3) ls (v.toList ++ rest))) : W p l e R s m args below meth c H locs cells slots Q (F0 m pc ls st0) := fl_callS (n := 3) X hb hml hF hM wm_X7_62 wk_X7_in wi_X7 wc_X7_in (by decide +kernel) hrc hrs hR hf hn hl hst hW hdg kk
theorem wc_X7_clear : Cond.code yX7_clear cX7_clear 2 (some .int) ∈ tbl := tb (i := 722) (by decide +kernel) (by decide +kernel)
theorem wk_X7_clear : Cond.instanceMethod yX7_clear ∈ tbl := tb (i := 720) (by decide +kernel) (by decide +kernel)
theorem wl_X7_clear : Cond.selects RX7 yX7_clear yX7_clear ∈ tbl := tb (i := 721) (by decide +kernel) (by decide +kernel)
theorem wm_L_22 : Cond.methodLink RL 22 yX7_clear ∈ tbl := tb (i := 719) (by decide +kernel) (by decide +kernel)
theorem wc_X7_houses : Cond.code yX7_houses cX7_houses 2 (some .int) ∈ tbl := tb (i := 726) (by decide +kernel) (by decide +kernel)
theorem wk_X7_houses : Cond.instanceMethod yX7_houses ∈ tbl := tb (i := 724) (by decide +kernel) (by decide +kernel)
theorem wl_X7_houses : Cond.selects RX7 yX7_houses yX7_houses ∈ tbl := tb (i := 725) (by decide +kernel) (by decide +kernel)
theorem wm_L_26 : Cond.methodLink RL 26 yX7_houses ∈ tbl := tb (i := 723) (by decide +kernel) (by decide +kernel)
theorem wc_X7_reads : Cond.code yX7_reads cX7_reads 2 (some .boolean) ∈ tbl := tb (i := 730) (by decide +kernel) (by decide +kernel)
theorem wk_X7_reads : Cond.instanceMethod yX7_reads ∈ tbl := tb (i := 729) (by decide +kernel) (by decide +kernel)
theorem wl_X7_reads : Cond.selects RX7 yX7_reads yX7_reads ∈ tbl := tb (i := 25) (by decide +kernel) (by decide +kernel)
theorem wm_X7_117 : Cond.methodLink RX7 117 yX7_reads ∈ tbl := tb (i := 727) (by decide +kernel) (by decide +kernel)
theorem cm_X7_117 (X : CX p s m args RX7 G w) (hb : c.code = cc) (hml : c.maxLocals = nL) (hF : FH G w H0 H locs σ) (hM : Ct l G w yX7_reads cX7_reads 2 (some .boolean) rm (.ref (gA G k) :: As) σ v σ') (hs : SH w k (.inl (7, rs))) (hR : rm.frames + 1 ≤ R.frames ∧ 8 + (2 + 11) + rm.locals ≤ R.locals) (hrc : rm.cells = 0) (hrs : rm.slots = 0) (hf : cells ≤ R.cells ∧ slots ≤ R.slots) (hn : As.length = 0) (hl : ls.size = nL) (hst : st0 = As.reverse ++ .ref (gA G k) :: rest) (hW : (rest.map fun v => v.category).sum ≤ 8) (hdg : decode cc pc = .ok (.invokevirtual 117, 3)) (kk : ∀ (H1 : Heap) (locs1 : List Loc), FH G w H0 H1 locs1 σ' → W p l e R s m args below meth c H1 locs1 cells slots Q (F0 m (pc + 3) ls (v.toList ++ rest))) : W p l e R s m args below meth c H locs cells slots Q (F0 m pc ls st0) := fl_callV (n := 0) X hb hml hF hM hs rfl wm_X7_117 wk_X7_reads wl_X7_reads wi_X7 wc_X7_reads (by decide +kernel) hrc hrs hR hf hn hl hst hW hdg kk
theorem wc_X7_take : Cond.code yX7_take cX7_take 2 none ∈ tbl := tb (i := 734) (by decide +kernel) (by decide +kernel)
theorem wk_X7_take : Cond.instanceMethod yX7_take ∈ tbl := tb (i := 733) (by decide +kernel) (by decide +kernel)
theorem wl_X7_take : Cond.selects RX7 yX7_take yX7_take ∈ tbl := tb (i := 26) (by decide +kernel) (by decide +kernel)
theorem wm_X7_86 : Cond.methodLink RX7 86 yX7_take ∈ tbl := tb (i := 731) (by decide +kernel) (by decide +kernel)
theorem cm_X7_86 (X : CX p s m args RX7 G w) (hb : c.code = cc) (hml : c.maxLocals = nL) (hF : FH G w H0 H locs σ) (hM : Ct l G w yX7_take cX7_take 2 none rm (.ref (gA G k) :: As) σ v σ') (hs : SH w k (.inl (7, rs))) (hR : rm.frames + 1 ≤ R.frames ∧ 8 + (2 + 11) + rm.locals ≤ R.locals) (hrc : rm.cells = 0) (hrs : rm.slots = 0) (hf : cells ≤ R.cells ∧ slots ≤ R.slots) (hn : As.length = 0) (hl : ls.size = nL) (hst : st0 = As.reverse ++ .ref (gA G k) :: rest) (hW : (rest.map fun v => v.category).sum ≤ 8) (hdg : decode cc pc = .ok (.invokevirtual 86, 3)) (kk : ∀ (H1 : Heap) (locs1 : List Loc), FH G w H0 H1 locs1 σ' → W p l e R s m args below meth c H1 locs1 cells slots Q (F0 m (pc + 3) ls (v.toList ++ rest))) : W p l e R s m args below meth c H locs cells slots Q (F0 m pc ls st0) := fl_callV (n := 0) X hb hml hF hM hs rfl wm_X7_86 wk_X7_take wl_X7_take wi_X7 wc_X7_take (by decide +kernel) hrc hrs hR hf hn hl hst hW hdg kk
theorem wc_X7_isDigit : Cond.code yX7_isDigit cX7_isDigit 1 (some .boolean) ∈ tbl := tb (i := 737) (by decide +kernel) (by decide +kernel)
theorem wk_X7_isDigit : Cond.static yX7_isDigit ∈ tbl := tb (i := 736) (by decide +kernel) (by decide +kernel)
theorem wm_X7_78 : Cond.methodLink RX7 78 yX7_isDigit ∈ tbl := tb (i := 735) (by decide +kernel) (by decide +kernel)
theorem cm_X7_78 (X : CX p s m args RX7 G w) (hb : c.code = cc) (hml : c.maxLocals = nL) (hF : FH G w H0 H locs σ) (hM : Ct l G w yX7_isDigit cX7_isDigit 1 (some .boolean) rm As σ v σ') (hR : rm.frames + 1 ≤ R.frames ∧ 8 + (1 + 11) + rm.locals ≤ R.locals) (hrc : rm.cells = 0) (hrs : rm.slots = 0) (hf : cells ≤ R.cells ∧ slots ≤ R.slots) (hn : As.length = 1) (hl : ls.size = nL) (hst : st0 = As.reverse ++ rest) (hW : (rest.map fun v => v.category).sum ≤ 8) (hdg : decode cc pc = .ok (.invokestatic 78, 3)) (kk : ∀ (H1 : Heap) (locs1 : List Loc), FH G w H0 H1 locs1 σ' → W p l e R s m args below meth c H1 locs1 cells slots Q (F0 m (pc + 3) ls (v.toList ++ rest))) : W p l e R s m args below meth c H locs cells slots Q (F0 m pc ls st0) := fl_callS (n := 1) X hb hml hF hM wm_X7_78 wk_X7_isDigit wi_X7 wc_X7_isDigit (by decide +kernel) hrc hrs hR hf hn hl hst hW hdg kk
theorem wc_X7_readsSlack : Cond.code yX7_readsSlack cX7_readsSlack 1 (some .boolean) ∈ tbl := tb (i := 743) (by decide +kernel) (by decide +kernel)
theorem wk_X7_readsSlack : Cond.instanceMethod yX7_readsSlack ∈ tbl := tb (i := 742) (by decide +kernel) (by decide +kernel)
theorem wl_X7_readsSlack : Cond.selects RX7 yX7_readsSlack yX7_readsSlack ∈ tbl := tb (i := 27) (by decide +kernel) (by decide +kernel)
theorem wm_X7_109 : Cond.methodLink RX7 109 yX7_readsSlack ∈ tbl := tb (i := 740) (by decide +kernel) (by decide +kernel)
theorem cm_X7_109 (X : CX p s m args RX7 G w) (hb : c.code = cc) (hml : c.maxLocals = nL) (hF : FH G w H0 H locs σ) (hM : Ct l G w yX7_readsSlack cX7_readsSlack 1 (some .boolean) rm (.ref (gA G k) :: As) σ v σ') (hs : SH w k (.inl (7, rs))) (hR : rm.frames + 1 ≤ R.frames ∧ 8 + (1 + 11) + rm.locals ≤ R.locals) (hrc : rm.cells = 0) (hrs : rm.slots = 0) (hf : cells ≤ R.cells ∧ slots ≤ R.slots) (hn : As.length = 0) (hl : ls.size = nL) (hst : st0 = As.reverse ++ .ref (gA G k) :: rest) (hW : (rest.map fun v => v.category).sum ≤ 8) (hdg : decode cc pc = .ok (.invokevirtual 109, 3)) (kk : ∀ (H1 : Heap) (locs1 : List Loc), FH G w H0 H1 locs1 σ' → W p l e R s m args below meth c H1 locs1 cells slots Q (F0 m (pc + 3) ls (v.toList ++ rest))) : W p l e R s m args below meth c H locs cells slots Q (F0 m pc ls st0) := fl_callV (n := 0) X hb hml hF hM hs rfl wm_X7_109 wk_X7_readsSlack wl_X7_readsSlack wi_X7 wc_X7_readsSlack (by decide +kernel) hrc hrs hR hf hn hl hst hW hdg kk
theorem wc_X7_isNumber : Cond.code yX7_isNumber cX7_isNumber 3 (some .boolean) ∈ tbl := tb (i := 747) (by decide +kernel) (by decide +kernel)
theorem wk_X7_isNumber : Cond.instanceMethod yX7_isNumber ∈ tbl := tb (i := 746) (by decide +kernel) (by decide +kernel)
theorem wl_X7_isNumber : Cond.selects RX7 yX7_isNumber yX7_isNumber ∈ tbl := tb (i := 28) (by decide +kernel) (by decide +kernel)
theorem wm_X7_92 : Cond.methodLink RX7 92 yX7_isNumber ∈ tbl := tb (i := 744) (by decide +kernel) (by decide +kernel)
theorem cm_X7_92 (X : CX p s m args RX7 G w) (hb : c.code = cc) (hml : c.maxLocals = nL) (hF : FH G w H0 H locs σ) (hM : Ct l G w yX7_isNumber cX7_isNumber 3 (some .boolean) rm (.ref (gA G k) :: As) σ v σ') (hs : SH w k (.inl (7, rs))) (hR : rm.frames + 1 ≤ R.frames ∧ 8 + (3 + 11) + rm.locals ≤ R.locals) (hrc : rm.cells = 0) (hrs : rm.slots = 0) (hf : cells ≤ R.cells ∧ slots ≤ R.slots) (hn : As.length = 2) (hl : ls.size = nL) (hst : st0 = As.reverse ++ .ref (gA G k) :: rest) (hW : (rest.map fun v => v.category).sum ≤ 8) (hdg : decode cc pc = .ok (.invokevirtual 92, 3)) (kk : ∀ (H1 : Heap) (locs1 : List Loc), FH G w H0 H1 locs1 σ' → W p l e R s m args below meth c H1 locs1 cells slots Q (F0 m (pc + 3) ls (v.toList ++ rest))) : W p l e R s m args below meth c H locs cells slots Q (F0 m pc ls st0) := fl_callV (n := 2) X hb hml hF hM hs rfl wm_X7_92 wk_X7_isNumber wl_X7_isNumber wi_X7 wc_X7_isNumber (by decide +kernel) hrc hrs hR hf hn hl hst hW hdg kk
theorem wc_X7_readsEnd : Cond.code yX7_readsEnd cX7_readsEnd 2 (some .boolean) ∈ tbl := tb (i := 751) (by decide +kernel) (by decide +kernel)
theorem wk_X7_readsEnd : Cond.instanceMethod yX7_readsEnd ∈ tbl := tb (i := 750) (by decide +kernel) (by decide +kernel)
theorem wl_X7_readsEnd : Cond.selects RX7 yX7_readsEnd yX7_readsEnd ∈ tbl := tb (i := 29) (by decide +kernel) (by decide +kernel)
theorem wm_X7_96 : Cond.methodLink RX7 96 yX7_readsEnd ∈ tbl := tb (i := 748) (by decide +kernel) (by decide +kernel)
theorem cm_X7_96 (X : CX p s m args RX7 G w) (hb : c.code = cc) (hml : c.maxLocals = nL) (hF : FH G w H0 H locs σ) (hM : Ct l G w yX7_readsEnd cX7_readsEnd 2 (some .boolean) rm (.ref (gA G k) :: As) σ v σ') (hs : SH w k (.inl (7, rs))) (hR : rm.frames + 1 ≤ R.frames ∧ 8 + (2 + 11) + rm.locals ≤ R.locals) (hrc : rm.cells = 0) (hrs : rm.slots = 0) (hf : cells ≤ R.cells ∧ slots ≤ R.slots) (hn : As.length = 0) (hl : ls.size = nL) (hst : st0 = As.reverse ++ .ref (gA G k) :: rest) (hW : (rest.map fun v => v.category).sum ≤ 8) (hdg : decode cc pc = .ok (.invokevirtual 96, 3)) (kk : ∀ (H1 : Heap) (locs1 : List Loc), FH G w H0 H1 locs1 σ' → W p l e R s m args below meth c H1 locs1 cells slots Q (F0 m (pc + 3) ls (v.toList ++ rest))) : W p l e R s m args below meth c H locs cells slots Q (F0 m pc ls st0) := fl_callV (n := 0) X hb hml hF hM hs rfl wm_X7_96 wk_X7_readsEnd wl_X7_readsEnd wi_X7 wc_X7_readsEnd (by decide +kernel) hrc hrs hR hf hn hl hst hW hdg kk
theorem wc_X7_readsHouse : Cond.code yX7_readsHouse cX7_readsHouse 5 (some .boolean) ∈ tbl := tb (i := 755) (by decide +kernel) (by decide +kernel)
theorem wk_X7_readsHouse : Cond.instanceMethod yX7_readsHouse ∈ tbl := tb (i := 754) (by decide +kernel) (by decide +kernel)
theorem wl_X7_readsHouse : Cond.selects RX7 yX7_readsHouse yX7_readsHouse ∈ tbl := tb (i := 30) (by decide +kernel) (by decide +kernel)
theorem wm_X7_112 : Cond.methodLink RX7 112 yX7_readsHouse ∈ tbl := tb (i := 752) (by decide +kernel) (by decide +kernel)
theorem cm_X7_112 (X : CX p s m args RX7 G w) (hb : c.code = cc) (hml : c.maxLocals = nL) (hF : FH G w H0 H locs σ) (hM : Ct l G w yX7_readsHouse cX7_readsHouse 5 (some .boolean) rm (.ref (gA G k) :: As) σ v σ') (hs : SH w k (.inl (7, rs))) (hR : rm.frames + 1 ≤ R.frames ∧ 8 + (5 + 11) + rm.locals ≤ R.locals) (hrc : rm.cells = 0) (hrs : rm.slots = 0) (hf : cells ≤ R.cells ∧ slots ≤ R.slots) (hn : As.length = 0) (hl : ls.size = nL) (hst : st0 = As.reverse ++ .ref (gA G k) :: rest) (hW : (rest.map fun v => v.category).sum ≤ 8) (hdg : decode cc pc = .ok (.invokevirtual 112, 3)) (kk : ∀ (H1 : Heap) (locs1 : List Loc), FH G w H0 H1 locs1 σ' → W p l e R s m args below meth c H1 locs1 cells slots Q (F0 m (pc + 3) ls (v.toList ++ rest))) : W p l e R s m args below meth c H locs cells slots Q (F0 m pc ls st0) := fl_callV (n := 0) X hb hml hF hM hs rfl wm_X7_112 wk_X7_readsHouse wl_X7_readsHouse wi_X7 wc_X7_readsHouse (by decide +kernel) hrc hrs hR hf hn hl hst hW hdg kk
theorem wc_X7_isEvent : Cond.code yX7_isEvent cX7_isEvent 1 (some .boolean) ∈ tbl := tb (i := 759) (by decide +kernel) (by decide +kernel)
theorem wk_X7_isEvent : Cond.instanceMethod yX7_isEvent ∈ tbl := tb (i := 758) (by decide +kernel) (by decide +kernel)
theorem wl_X7_isEvent : Cond.selects RX7 yX7_isEvent yX7_isEvent ∈ tbl := tb (i := 31) (by decide +kernel) (by decide +kernel)
theorem wm_X7_103 : Cond.methodLink RX7 103 yX7_isEvent ∈ tbl := tb (i := 756) (by decide +kernel) (by decide +kernel)
theorem cm_X7_103 (X : CX p s m args RX7 G w) (hb : c.code = cc) (hml : c.maxLocals = nL) (hF : FH G w H0 H locs σ) (hM : Ct l G w yX7_isEvent cX7_isEvent 1 (some .boolean) rm (.ref (gA G k) :: As) σ v σ') (hs : SH w k (.inl (7, rs))) (hR : rm.frames + 1 ≤ R.frames ∧ 8 + (1 + 11) + rm.locals ≤ R.locals) (hrc : rm.cells = 0) (hrs : rm.slots = 0) (hf : cells ≤ R.cells ∧ slots ≤ R.slots) (hn : As.length = 0) (hl : ls.size = nL) (hst : st0 = As.reverse ++ .ref (gA G k) :: rest) (hW : (rest.map fun v => v.category).sum ≤ 8) (hdg : decode cc pc = .ok (.invokevirtual 103, 3)) (kk : ∀ (H1 : Heap) (locs1 : List Loc), FH G w H0 H1 locs1 σ' → W p l e R s m args below meth c H1 locs1 cells slots Q (F0 m (pc + 3) ls (v.toList ++ rest))) : W p l e R s m args below meth c H locs cells slots Q (F0 m pc ls st0) := fl_callV (n := 0) X hb hml hF hM hs rfl wm_X7_103 wk_X7_isEvent wl_X7_isEvent wi_X7 wc_X7_isEvent (by decide +kernel) hrc hrs hR hf hn hl hst hW hdg kk
theorem wc_X7_span : Cond.code yX7_span cX7_span 9 (some .int) ∈ tbl := tb (i := 765) (by decide +kernel) (by decide +kernel)
theorem wk_X7_span : Cond.instanceMethod yX7_span ∈ tbl := tb (i := 763) (by decide +kernel) (by decide +kernel)
theorem wl_X7_span : Cond.selects RX7 yX7_span yX7_span ∈ tbl := tb (i := 764) (by decide +kernel) (by decide +kernel)
theorem wm_L_53 : Cond.methodLink RL 53 yX7_span ∈ tbl := tb (i := 762) (by decide +kernel) (by decide +kernel)
theorem wc_X7_isHouse : Cond.code yX7_isHouse cX7_isHouse 2 (some .boolean) ∈ tbl := tb (i := 769) (by decide +kernel) (by decide +kernel)
theorem wk_X7_isHouse : Cond.instanceMethod yX7_isHouse ∈ tbl := tb (i := 768) (by decide +kernel) (by decide +kernel)
theorem wl_X7_isHouse : Cond.selects RX7 yX7_isHouse yX7_isHouse ∈ tbl := tb (i := 32) (by decide +kernel) (by decide +kernel)
theorem wm_X7_126 : Cond.methodLink RX7 126 yX7_isHouse ∈ tbl := tb (i := 766) (by decide +kernel) (by decide +kernel)
theorem cm_X7_126 (X : CX p s m args RX7 G w) (hb : c.code = cc) (hml : c.maxLocals = nL) (hF : FH G w H0 H locs σ) (hM : Ct l G w yX7_isHouse cX7_isHouse 2 (some .boolean) rm (.ref (gA G k) :: As) σ v σ') (hs : SH w k (.inl (7, rs))) (hR : rm.frames + 1 ≤ R.frames ∧ 8 + (2 + 11) + rm.locals ≤ R.locals) (hrc : rm.cells = 0) (hrs : rm.slots = 0) (hf : cells ≤ R.cells ∧ slots ≤ R.slots) (hn : As.length = 1) (hl : ls.size = nL) (hst : st0 = As.reverse ++ .ref (gA G k) :: rest) (hW : (rest.map fun v => v.category).sum ≤ 8) (hdg : decode cc pc = .ok (.invokevirtual 126, 3)) (kk : ∀ (H1 : Heap) (locs1 : List Loc), FH G w H0 H1 locs1 σ' → W p l e R s m args below meth c H1 locs1 cells slots Q (F0 m (pc + 3) ls (v.toList ++ rest))) : W p l e R s m args below meth c H locs cells slots Q (F0 m pc ls st0) := fl_callV (n := 1) X hb hml hF hM hs rfl wm_X7_126 wk_X7_isHouse wl_X7_isHouse wi_X7 wc_X7_isHouse (by decide +kernel) hrc hrs hR hf hn hl hst hW hdg kk
theorem wc_X7_spans : Cond.code yX7_spans cX7_spans 6 (some .int) ∈ tbl := tb (i := 775) (by decide +kernel) (by decide +kernel)
theorem wk_X7_spans : Cond.instanceMethod yX7_spans ∈ tbl := tb (i := 774) (by decide +kernel) (by decide +kernel)
theorem wl_X7_spans : Cond.selects RX7 yX7_spans yX7_spans ∈ tbl := tb (i := 33) (by decide +kernel) (by decide +kernel)
theorem wm_X7_164 : Cond.methodLink RX7 164 yX7_spans ∈ tbl := tb (i := 772) (by decide +kernel) (by decide +kernel)
theorem cm_X7_164 (X : CX p s m args RX7 G w) (hb : c.code = cc) (hml : c.maxLocals = nL) (hF : FH G w H0 H locs σ) (hM : Ct l G w yX7_spans cX7_spans 6 (some .int) rm (.ref (gA G k) :: As) σ v σ') (hs : SH w k (.inl (7, rs))) (hR : rm.frames + 1 ≤ R.frames ∧ 8 + (6 + 11) + rm.locals ≤ R.locals) (hrc : rm.cells = 0) (hrs : rm.slots = 0) (hf : cells ≤ R.cells ∧ slots ≤ R.slots) (hn : As.length = 2) (hl : ls.size = nL) (hst : st0 = As.reverse ++ .ref (gA G k) :: rest) (hW : (rest.map fun v => v.category).sum ≤ 8) (hdg : decode cc pc = .ok (.invokevirtual 164, 3)) (kk : ∀ (H1 : Heap) (locs1 : List Loc), FH G w H0 H1 locs1 σ' → W p l e R s m args below meth c H1 locs1 cells slots Q (F0 m (pc + 3) ls (v.toList ++ rest))) : W p l e R s m args below meth c H locs cells slots Q (F0 m pc ls st0) := fl_callV (n := 2) X hb hml hF hM hs rfl wm_X7_164 wk_X7_spans wl_X7_spans wi_X7 wc_X7_spans (by decide +kernel) hrc hrs hR hf hn hl hst hW hdg kk
theorem wc_X7_both : Cond.code yX7_both cX7_both 6 (some .int) ∈ tbl := tb (i := 779) (by decide +kernel) (by decide +kernel)
theorem wk_X7_both : Cond.instanceMethod yX7_both ∈ tbl := tb (i := 778) (by decide +kernel) (by decide +kernel)
theorem wl_X7_both : Cond.selects RX7 yX7_both yX7_both ∈ tbl := tb (i := 34) (by decide +kernel) (by decide +kernel)
theorem wm_X7_155 : Cond.methodLink RX7 155 yX7_both ∈ tbl := tb (i := 776) (by decide +kernel) (by decide +kernel)
theorem cm_X7_155 (X : CX p s m args RX7 G w) (hb : c.code = cc) (hml : c.maxLocals = nL) (hF : FH G w H0 H locs σ) (hM : Ct l G w yX7_both cX7_both 6 (some .int) rm (.ref (gA G k) :: As) σ v σ') (hs : SH w k (.inl (7, rs))) (hR : rm.frames + 1 ≤ R.frames ∧ 8 + (6 + 11) + rm.locals ≤ R.locals) (hrc : rm.cells = 0) (hrs : rm.slots = 0) (hf : cells ≤ R.cells ∧ slots ≤ R.slots) (hn : As.length = 2) (hl : ls.size = nL) (hst : st0 = As.reverse ++ .ref (gA G k) :: rest) (hW : (rest.map fun v => v.category).sum ≤ 8) (hdg : decode cc pc = .ok (.invokevirtual 155, 3)) (kk : ∀ (H1 : Heap) (locs1 : List Loc), FH G w H0 H1 locs1 σ' → W p l e R s m args below meth c H1 locs1 cells slots Q (F0 m (pc + 3) ls (v.toList ++ rest))) : W p l e R s m args below meth c H locs cells slots Q (F0 m pc ls st0) := fl_callV (n := 2) X hb hml hF hM hs rfl wm_X7_155 wk_X7_both wl_X7_both wi_X7 wc_X7_both (by decide +kernel) hrc hrs hR hf hn hl hst hW hdg kk
theorem wc_X7_counts : Cond.code yX7_counts cX7_counts 3 (some .boolean) ∈ tbl := tb (i := 783) (by decide +kernel) (by decide +kernel)
theorem wk_X7_counts : Cond.instanceMethod yX7_counts ∈ tbl := tb (i := 782) (by decide +kernel) (by decide +kernel)
theorem wl_X7_counts : Cond.selects RX7 yX7_counts yX7_counts ∈ tbl := tb (i := 35) (by decide +kernel) (by decide +kernel)
theorem wm_X7_138 : Cond.methodLink RX7 138 yX7_counts ∈ tbl := tb (i := 780) (by decide +kernel) (by decide +kernel)
theorem cm_X7_138 (X : CX p s m args RX7 G w) (hb : c.code = cc) (hml : c.maxLocals = nL) (hF : FH G w H0 H locs σ) (hM : Ct l G w yX7_counts cX7_counts 3 (some .boolean) rm (.ref (gA G k) :: As) σ v σ') (hs : SH w k (.inl (7, rs))) (hR : rm.frames + 1 ≤ R.frames ∧ 8 + (3 + 11) + rm.locals ≤ R.locals) (hrc : rm.cells = 0) (hrs : rm.slots = 0) (hf : cells ≤ R.cells ∧ slots ≤ R.slots) (hn : As.length = 2) (hl : ls.size = nL) (hst : st0 = As.reverse ++ .ref (gA G k) :: rest) (hW : (rest.map fun v => v.category).sum ≤ 8) (hdg : decode cc pc = .ok (.invokevirtual 138, 3)) (kk : ∀ (H1 : Heap) (locs1 : List Loc), FH G w H0 H1 locs1 σ' → W p l e R s m args below meth c H1 locs1 cells slots Q (F0 m (pc + 3) ls (v.toList ++ rest))) : W p l e R s m args below meth c H locs cells slots Q (F0 m pc ls st0) := fl_callV (n := 2) X hb hml hF hM hs rfl wm_X7_138 wk_X7_counts wl_X7_counts wi_X7 wc_X7_counts (by decide +kernel) hrc hrs hR hf hn hl hst hW hdg kk
theorem wc_X7_isEntry : Cond.code yX7_isEntry cX7_isEntry 3 (some .boolean) ∈ tbl := tb (i := 787) (by decide +kernel) (by decide +kernel)
theorem wk_X7_isEntry : Cond.instanceMethod yX7_isEntry ∈ tbl := tb (i := 786) (by decide +kernel) (by decide +kernel)
theorem wl_X7_isEntry : Cond.selects RX7 yX7_isEntry yX7_isEntry ∈ tbl := tb (i := 36) (by decide +kernel) (by decide +kernel)
theorem wm_X7_129 : Cond.methodLink RX7 129 yX7_isEntry ∈ tbl := tb (i := 784) (by decide +kernel) (by decide +kernel)
theorem cm_X7_129 (X : CX p s m args RX7 G w) (hb : c.code = cc) (hml : c.maxLocals = nL) (hF : FH G w H0 H locs σ) (hM : Ct l G w yX7_isEntry cX7_isEntry 3 (some .boolean) rm (.ref (gA G k) :: As) σ v σ') (hs : SH w k (.inl (7, rs))) (hR : rm.frames + 1 ≤ R.frames ∧ 8 + (3 + 11) + rm.locals ≤ R.locals) (hrc : rm.cells = 0) (hrs : rm.slots = 0) (hf : cells ≤ R.cells ∧ slots ≤ R.slots) (hn : As.length = 2) (hl : ls.size = nL) (hst : st0 = As.reverse ++ .ref (gA G k) :: rest) (hW : (rest.map fun v => v.category).sum ≤ 8) (hdg : decode cc pc = .ok (.invokevirtual 129, 3)) (kk : ∀ (H1 : Heap) (locs1 : List Loc), FH G w H0 H1 locs1 σ' → W p l e R s m args below meth c H1 locs1 cells slots Q (F0 m (pc + 3) ls (v.toList ++ rest))) : W p l e R s m args below meth c H locs cells slots Q (F0 m pc ls st0) := fl_callV (n := 2) X hb hml hF hM hs rfl wm_X7_129 wk_X7_isEntry wl_X7_isEntry wi_X7 wc_X7_isEntry (by decide +kernel) hrc hrs hR hf hn hl hst hW hdg kk
theorem wc_X7_has : Cond.code yX7_has cX7_has 2 (some .boolean) ∈ tbl := tb (i := 790) (by decide +kernel) (by decide +kernel)
theorem wk_X7_has : Cond.static yX7_has ∈ tbl := tb (i := 789) (by decide +kernel) (by decide +kernel)
theorem wm_X7_135 : Cond.methodLink RX7 135 yX7_has ∈ tbl := tb (i := 788) (by decide +kernel) (by decide +kernel)
theorem cm_X7_135 (X : CX p s m args RX7 G w) (hb : c.code = cc) (hml : c.maxLocals = nL) (hF : FH G w H0 H locs σ) (hM : Ct l G w yX7_has cX7_has 2 (some .boolean) rm As σ v σ') (hR : rm.frames + 1 ≤ R.frames ∧ 8 + (2 + 11) + rm.locals ≤ R.locals) (hrc : rm.cells = 0) (hrs : rm.slots = 0) (hf : cells ≤ R.cells ∧ slots ≤ R.slots) (hn : As.length = 2) (hl : ls.size = nL) (hst : st0 = As.reverse ++ rest) (hW : (rest.map fun v => v.category).sum ≤ 8) (hdg : decode cc pc = .ok (.invokestatic 135, 3)) (kk : ∀ (H1 : Heap) (locs1 : List Loc), FH G w H0 H1 locs1 σ' → W p l e R s m args below meth c H1 locs1 cells slots Q (F0 m (pc + 3) ls (v.toList ++ rest))) : W p l e R s m args below meth c H locs cells slots Q (F0 m pc ls st0) := fl_callS (n := 2) X hb hml hF hM wm_X7_135 wk_X7_has wi_X7 wc_X7_has (by decide +kernel) hrc hrs hR hf hn hl hst hW hdg kk
theorem wc_X7_yearIn : Cond.code yX7_yearIn cX7_yearIn 4 (some .int) ∈ tbl := tb (i := 794) (by decide +kernel) (by decide +kernel)
theorem wk_X7_yearIn : Cond.instanceMethod yX7_yearIn ∈ tbl := tb (i := 793) (by decide +kernel) (by decide +kernel)
theorem wl_X7_yearIn : Cond.selects RX7 yX7_yearIn yX7_yearIn ∈ tbl := tb (i := 37) (by decide +kernel) (by decide +kernel)
theorem wm_X7_141 : Cond.methodLink RX7 141 yX7_yearIn ∈ tbl := tb (i := 791) (by decide +kernel) (by decide +kernel)
theorem cm_X7_141 (X : CX p s m args RX7 G w) (hb : c.code = cc) (hml : c.maxLocals = nL) (hF : FH G w H0 H locs σ) (hM : Ct l G w yX7_yearIn cX7_yearIn 4 (some .int) rm (.ref (gA G k) :: As) σ v σ') (hs : SH w k (.inl (7, rs))) (hR : rm.frames + 1 ≤ R.frames ∧ 8 + (4 + 11) + rm.locals ≤ R.locals) (hrc : rm.cells = 0) (hrs : rm.slots = 0) (hf : cells ≤ R.cells ∧ slots ≤ R.slots) (hn : As.length = 2) (hl : ls.size = nL) (hst : st0 = As.reverse ++ .ref (gA G k) :: rest) (hW : (rest.map fun v => v.category).sum ≤ 8) (hdg : decode cc pc = .ok (.invokevirtual 141, 3)) (kk : ∀ (H1 : Heap) (locs1 : List Loc), FH G w H0 H1 locs1 σ' → W p l e R s m args below meth c H1 locs1 cells slots Q (F0 m (pc + 3) ls (v.toList ++ rest))) : W p l e R s m args below meth c H locs cells slots Q (F0 m pc ls st0) := fl_callV (n := 2) X hb hml hF hM hs rfl wm_X7_141 wk_X7_yearIn wl_X7_yearIn wi_X7 wc_X7_yearIn (by decide +kernel) hrc hrs hR hf hn hl hst hW hdg kk
theorem wc_X7_spanEnd : Cond.code yX7_spanEnd cX7_spanEnd 5 (some .int) ∈ tbl := tb (i := 798) (by decide +kernel) (by decide +kernel)
theorem wk_X7_spanEnd : Cond.instanceMethod yX7_spanEnd ∈ tbl := tb (i := 797) (by decide +kernel) (by decide +kernel)
theorem wl_X7_spanEnd : Cond.selects RX7 yX7_spanEnd yX7_spanEnd ∈ tbl := tb (i := 38) (by decide +kernel) (by decide +kernel)
theorem wm_X7_158 : Cond.methodLink RX7 158 yX7_spanEnd ∈ tbl := tb (i := 795) (by decide +kernel) (by decide +kernel)
theorem cm_X7_158 (X : CX p s m args RX7 G w) (hb : c.code = cc) (hml : c.maxLocals = nL) (hF : FH G w H0 H locs σ) (hM : Ct l G w yX7_spanEnd cX7_spanEnd 5 (some .int) rm (.ref (gA G k) :: As) σ v σ') (hs : SH w k (.inl (7, rs))) (hR : rm.frames + 1 ≤ R.frames ∧ 8 + (5 + 11) + rm.locals ≤ R.locals) (hrc : rm.cells = 0) (hrs : rm.slots = 0) (hf : cells ≤ R.cells ∧ slots ≤ R.slots) (hn : As.length = 2) (hl : ls.size = nL) (hst : st0 = As.reverse ++ .ref (gA G k) :: rest) (hW : (rest.map fun v => v.category).sum ≤ 8) (hdg : decode cc pc = .ok (.invokevirtual 158, 3)) (kk : ∀ (H1 : Heap) (locs1 : List Loc), FH G w H0 H1 locs1 σ' → W p l e R s m args below meth c H1 locs1 cells slots Q (F0 m (pc + 3) ls (v.toList ++ rest))) : W p l e R s m args below meth c H locs cells slots Q (F0 m pc ls st0) := fl_callV (n := 2) X hb hml hF hM hs rfl wm_X7_158 wk_X7_spanEnd wl_X7_spanEnd wi_X7 wc_X7_spanEnd (by decide +kernel) hrc hrs hR hf hn hl hst hW hdg kk
theorem wc_X7_shift : Cond.code yX7_shift cX7_shift 3 (some .int) ∈ tbl := tb (i := 802) (by decide +kernel) (by decide +kernel)
theorem wk_X7_shift : Cond.instanceMethod yX7_shift ∈ tbl := tb (i := 800) (by decide +kernel) (by decide +kernel)
theorem wl_X7_shift : Cond.selects RX7 yX7_shift yX7_shift ∈ tbl := tb (i := 801) (by decide +kernel) (by decide +kernel)
theorem wm_L_57 : Cond.methodLink RL 57 yX7_shift ∈ tbl := tb (i := 799) (by decide +kernel) (by decide +kernel)
theorem wc_X7_shiftOf : Cond.code yX7_shiftOf cX7_shiftOf 9 (some .int) ∈ tbl := tb (i := 807) (by decide +kernel) (by decide +kernel)
theorem wk_X7_shiftOf : Cond.instanceMethod yX7_shiftOf ∈ tbl := tb (i := 806) (by decide +kernel) (by decide +kernel)
theorem wl_X7_shiftOf : Cond.selects RX7 yX7_shiftOf yX7_shiftOf ∈ tbl := tb (i := 39) (by decide +kernel) (by decide +kernel)
theorem wm_X7_170 : Cond.methodLink RX7 170 yX7_shiftOf ∈ tbl := tb (i := 804) (by decide +kernel) (by decide +kernel)
theorem cm_X7_170 (X : CX p s m args RX7 G w) (hb : c.code = cc) (hml : c.maxLocals = nL) (hF : FH G w H0 H locs σ) (hM : Ct l G w yX7_shiftOf cX7_shiftOf 9 (some .int) rm (.ref (gA G k) :: As) σ v σ') (hs : SH w k (.inl (7, rs))) (hR : rm.frames + 1 ≤ R.frames ∧ 8 + (9 + 11) + rm.locals ≤ R.locals) (hrc : rm.cells = 0) (hrs : rm.slots = 0) (hf : cells ≤ R.cells ∧ slots ≤ R.slots) (hn : As.length = 1) (hl : ls.size = nL) (hst : st0 = As.reverse ++ .ref (gA G k) :: rest) (hW : (rest.map fun v => v.category).sum ≤ 8) (hdg : decode cc pc = .ok (.invokevirtual 170, 3)) (kk : ∀ (H1 : Heap) (locs1 : List Loc), FH G w H0 H1 locs1 σ' → W p l e R s m args below meth c H1 locs1 cells slots Q (F0 m (pc + 3) ls (v.toList ++ rest))) : W p l e R s m args below meth c H locs cells slots Q (F0 m pc ls st0) := fl_callV (n := 1) X hb hml hF hM hs rfl wm_X7_170 wk_X7_shiftOf wl_X7_shiftOf wi_X7 wc_X7_shiftOf (by decide +kernel) hrc hrs hR hf hn hl hst hW hdg kk
theorem wc_X7_plain : Cond.code yX7_plain cX7_plain 1 (some .int) ∈ tbl := tb (i := 810) (by decide +kernel) (by decide +kernel)
theorem wk_X7_plain : Cond.static yX7_plain ∈ tbl := tb (i := 809) (by decide +kernel) (by decide +kernel)
theorem wm_X7_167 : Cond.methodLink RX7 167 yX7_plain ∈ tbl := tb (i := 808) (by decide +kernel) (by decide +kernel)
theorem cm_X7_167 (X : CX p s m args RX7 G w) (hb : c.code = cc) (hml : c.maxLocals = nL) (hF : FH G w H0 H locs σ) (hM : Ct l G w yX7_plain cX7_plain 1 (some .int) rm As σ v σ') (hR : rm.frames + 1 ≤ R.frames ∧ 8 + (1 + 11) + rm.locals ≤ R.locals) (hrc : rm.cells = 0) (hrs : rm.slots = 0) (hf : cells ≤ R.cells ∧ slots ≤ R.slots) (hn : As.length = 1) (hl : ls.size = nL) (hst : st0 = As.reverse ++ rest) (hW : (rest.map fun v => v.category).sum ≤ 8) (hdg : decode cc pc = .ok (.invokestatic 167, 3)) (kk : ∀ (H1 : Heap) (locs1 : List Loc), FH G w H0 H1 locs1 σ' → W p l e R s m args below meth c H1 locs1 cells slots Q (F0 m (pc + 3) ls (v.toList ++ rest))) : W p l e R s m args below meth c H locs cells slots Q (F0 m pc ls st0) := fl_callS (n := 1) X hb hml hF hM wm_X7_167 wk_X7_plain wi_X7 wc_X7_plain (by decide +kernel) hrc hrs hR hf hn hl hst hW hdg kk
theorem wc_X7_agreed : Cond.code yX7_agreed cX7_agreed 8 (some .int) ∈ tbl := tb (i := 814) (by decide +kernel) (by decide +kernel)
theorem wk_X7_agreed : Cond.instanceMethod yX7_agreed ∈ tbl := tb (i := 813) (by decide +kernel) (by decide +kernel)
theorem wl_X7_agreed : Cond.selects RX7 yX7_agreed yX7_agreed ∈ tbl := tb (i := 40) (by decide +kernel) (by decide +kernel)
theorem wm_X7_175 : Cond.methodLink RX7 175 yX7_agreed ∈ tbl := tb (i := 811) (by decide +kernel) (by decide +kernel)
theorem cm_X7_175 (X : CX p s m args RX7 G w) (hb : c.code = cc) (hml : c.maxLocals = nL) (hF : FH G w H0 H locs σ) (hM : Ct l G w yX7_agreed cX7_agreed 8 (some .int) rm (.ref (gA G k) :: As) σ v σ') (hs : SH w k (.inl (7, rs))) (hR : rm.frames + 1 ≤ R.frames ∧ 8 + (8 + 11) + rm.locals ≤ R.locals) (hrc : rm.cells = 0) (hrs : rm.slots = 0) (hf : cells ≤ R.cells ∧ slots ≤ R.slots) (hn : As.length = 2) (hl : ls.size = nL) (hst : st0 = As.reverse ++ .ref (gA G k) :: rest) (hW : (rest.map fun v => v.category).sum ≤ 8) (hdg : decode cc pc = .ok (.invokevirtual 175, 3)) (kk : ∀ (H1 : Heap) (locs1 : List Loc), FH G w H0 H1 locs1 σ' → W p l e R s m args below meth c H1 locs1 cells slots Q (F0 m (pc + 3) ls (v.toList ++ rest))) : W p l e R s m args below meth c H locs cells slots Q (F0 m pc ls st0) := fl_callV (n := 2) X hb hml hF hM hs rfl wm_X7_175 wk_X7_agreed wl_X7_agreed wi_X7 wc_X7_agreed (by decide +kernel) hrc hrs hR hf hn hl hst hW hdg kk
theorem wc_X7_measure : Cond.code yX7_measure cX7_measure 3 (some .int) ∈ tbl := tb (i := 818) (by decide +kernel) (by decide +kernel)
theorem wk_X7_measure : Cond.instanceMethod yX7_measure ∈ tbl := tb (i := 816) (by decide +kernel) (by decide +kernel)
theorem wl_X7_measure : Cond.selects RX7 yX7_measure yX7_measure ∈ tbl := tb (i := 817) (by decide +kernel) (by decide +kernel)
theorem wm_L_61 : Cond.methodLink RL 61 yX7_measure ∈ tbl := tb (i := 815) (by decide +kernel) (by decide +kernel)
theorem wc_X7_measured : Cond.code yX7_measured cX7_measured 3 (some .int) ∈ tbl := tb (i := 823) (by decide +kernel) (by decide +kernel)
theorem wk_X7_measured : Cond.instanceMethod yX7_measured ∈ tbl := tb (i := 822) (by decide +kernel) (by decide +kernel)
theorem wl_X7_measured : Cond.selects RX7 yX7_measured yX7_measured ∈ tbl := tb (i := 41) (by decide +kernel) (by decide +kernel)
theorem wm_X7_200 : Cond.methodLink RX7 200 yX7_measured ∈ tbl := tb (i := 820) (by decide +kernel) (by decide +kernel)
theorem cm_X7_200 (X : CX p s m args RX7 G w) (hb : c.code = cc) (hml : c.maxLocals = nL) (hF : FH G w H0 H locs σ) (hM : Ct l G w yX7_measured cX7_measured 3 (some .int) rm (.ref (gA G k) :: As) σ v σ') (hs : SH w k (.inl (7, rs))) (hR : rm.frames + 1 ≤ R.frames ∧ 8 + (3 + 11) + rm.locals ≤ R.locals) (hrc : rm.cells = 0) (hrs : rm.slots = 0) (hf : cells ≤ R.cells ∧ slots ≤ R.slots) (hn : As.length = 2) (hl : ls.size = nL) (hst : st0 = As.reverse ++ .ref (gA G k) :: rest) (hW : (rest.map fun v => v.category).sum ≤ 8) (hdg : decode cc pc = .ok (.invokevirtual 200, 3)) (kk : ∀ (H1 : Heap) (locs1 : List Loc), FH G w H0 H1 locs1 σ' → W p l e R s m args below meth c H1 locs1 cells slots Q (F0 m (pc + 3) ls (v.toList ++ rest))) : W p l e R s m args below meth c H locs cells slots Q (F0 m pc ls st0) := fl_callV (n := 2) X hb hml hF hM hs rfl wm_X7_200 wk_X7_measured wl_X7_measured wi_X7 wc_X7_measured (by decide +kernel) hrc hrs hR hf hn hl hst hW hdg kk
theorem wc_X7_sizeOf : Cond.code yX7_sizeOf cX7_sizeOf 4 (some .int) ∈ tbl := tb (i := 827) (by decide +kernel) (by decide +kernel)
theorem wk_X7_sizeOf : Cond.instanceMethod yX7_sizeOf ∈ tbl := tb (i := 826) (by decide +kernel) (by decide +kernel)
theorem wl_X7_sizeOf : Cond.selects RX7 yX7_sizeOf yX7_sizeOf ∈ tbl := tb (i := 42) (by decide +kernel) (by decide +kernel)
theorem wm_X7_186 : Cond.methodLink RX7 186 yX7_sizeOf ∈ tbl := tb (i := 824) (by decide +kernel) (by decide +kernel)
theorem cm_X7_186 (X : CX p s m args RX7 G w) (hb : c.code = cc) (hml : c.maxLocals = nL) (hF : FH G w H0 H locs σ) (hM : Ct l G w yX7_sizeOf cX7_sizeOf 4 (some .int) rm (.ref (gA G k) :: As) σ v σ') (hs : SH w k (.inl (7, rs))) (hR : rm.frames + 1 ≤ R.frames ∧ 8 + (4 + 11) + rm.locals ≤ R.locals) (hrc : rm.cells = 0) (hrs : rm.slots = 0) (hf : cells ≤ R.cells ∧ slots ≤ R.slots) (hn : As.length = 1) (hl : ls.size = nL) (hst : st0 = As.reverse ++ .ref (gA G k) :: rest) (hW : (rest.map fun v => v.category).sum ≤ 8) (hdg : decode cc pc = .ok (.invokevirtual 186, 3)) (kk : ∀ (H1 : Heap) (locs1 : List Loc), FH G w H0 H1 locs1 σ' → W p l e R s m args below meth c H1 locs1 cells slots Q (F0 m (pc + 3) ls (v.toList ++ rest))) : W p l e R s m args below meth c H locs cells slots Q (F0 m pc ls st0) := fl_callV (n := 1) X hb hml hF hM hs rfl wm_X7_186 wk_X7_sizeOf wl_X7_sizeOf wi_X7 wc_X7_sizeOf (by decide +kernel) hrc hrs hR hf hn hl hst hW hdg kk
theorem wc_X7_ones : Cond.code yX7_ones cX7_ones 3 (some .int) ∈ tbl := tb (i := 830) (by decide +kernel) (by decide +kernel)
theorem wk_X7_ones : Cond.static yX7_ones ∈ tbl := tb (i := 829) (by decide +kernel) (by decide +kernel)
theorem wm_X7_189 : Cond.methodLink RX7 189 yX7_ones ∈ tbl := tb (i := 828) (by decide +kernel) (by decide +kernel)
theorem cm_X7_189 (X : CX p s m args RX7 G w) (hb : c.code = cc) (hml : c.maxLocals = nL) (hF : FH G w H0 H locs σ) (hM : Ct l G w yX7_ones cX7_ones 3 (some .int) rm As σ v σ') (hR : rm.frames + 1 ≤ R.frames ∧ 8 + (3 + 11) + rm.locals ≤ R.locals) (hrc : rm.cells = 0) (hrs : rm.slots = 0) (hf : cells ≤ R.cells ∧ slots ≤ R.slots) (hn : As.length = 1) (hl : ls.size = nL) (hst : st0 = As.reverse ++ rest) (hW : (rest.map fun v => v.category).sum ≤ 8) (hdg : decode cc pc = .ok (.invokestatic 189, 3)) (kk : ∀ (H1 : Heap) (locs1 : List Loc), FH G w H0 H1 locs1 σ' → W p l e R s m args below meth c H1 locs1 cells slots Q (F0 m (pc + 3) ls (v.toList ++ rest))) : W p l e R s m args below meth c H locs cells slots Q (F0 m pc ls st0) := fl_callS (n := 1) X hb hml hF hM wm_X7_189 wk_X7_ones wi_X7 wc_X7_ones (by decide +kernel) hrc hrs hR hf hn hl hst hW hdg kk
theorem wc_X7_aloneIn : Cond.code yX7_aloneIn cX7_aloneIn 4 (some .int) ∈ tbl := tb (i := 834) (by decide +kernel) (by decide +kernel)
theorem wk_X7_aloneIn : Cond.instanceMethod yX7_aloneIn ∈ tbl := tb (i := 833) (by decide +kernel) (by decide +kernel)
theorem wl_X7_aloneIn : Cond.selects RX7 yX7_aloneIn yX7_aloneIn ∈ tbl := tb (i := 43) (by decide +kernel) (by decide +kernel)
theorem wm_X7_192 : Cond.methodLink RX7 192 yX7_aloneIn ∈ tbl := tb (i := 831) (by decide +kernel) (by decide +kernel)
theorem cm_X7_192 (X : CX p s m args RX7 G w) (hb : c.code = cc) (hml : c.maxLocals = nL) (hF : FH G w H0 H locs σ) (hM : Ct l G w yX7_aloneIn cX7_aloneIn 4 (some .int) rm (.ref (gA G k) :: As) σ v σ') (hs : SH w k (.inl (7, rs))) (hR : rm.frames + 1 ≤ R.frames ∧ 8 + (4 + 11) + rm.locals ≤ R.locals) (hrc : rm.cells = 0) (hrs : rm.slots = 0) (hf : cells ≤ R.cells ∧ slots ≤ R.slots) (hn : As.length = 1) (hl : ls.size = nL) (hst : st0 = As.reverse ++ .ref (gA G k) :: rest) (hW : (rest.map fun v => v.category).sum ≤ 8) (hdg : decode cc pc = .ok (.invokevirtual 192, 3)) (kk : ∀ (H1 : Heap) (locs1 : List Loc), FH G w H0 H1 locs1 σ' → W p l e R s m args below meth c H1 locs1 cells slots Q (F0 m (pc + 3) ls (v.toList ++ rest))) : W p l e R s m args below meth c H locs cells slots Q (F0 m pc ls st0) := fl_callV (n := 1) X hb hml hF hM hs rfl wm_X7_192 wk_X7_aloneIn wl_X7_aloneIn wi_X7 wc_X7_aloneIn (by decide +kernel) hrc hrs hR hf hn hl hst hW hdg kk
theorem wc_X7_housesOf : Cond.code yX7_housesOf cX7_housesOf 4 (some .int) ∈ tbl := tb (i := 838) (by decide +kernel) (by decide +kernel)
theorem wk_X7_housesOf : Cond.instanceMethod yX7_housesOf ∈ tbl := tb (i := 837) (by decide +kernel) (by decide +kernel)
theorem wl_X7_housesOf : Cond.selects RX7 yX7_housesOf yX7_housesOf ∈ tbl := tb (i := 44) (by decide +kernel) (by decide +kernel)
theorem wm_X7_179 : Cond.methodLink RX7 179 yX7_housesOf ∈ tbl := tb (i := 835) (by decide +kernel) (by decide +kernel)
theorem cm_X7_179 (X : CX p s m args RX7 G w) (hb : c.code = cc) (hml : c.maxLocals = nL) (hF : FH G w H0 H locs σ) (hM : Ct l G w yX7_housesOf cX7_housesOf 4 (some .int) rm (.ref (gA G k) :: As) σ v σ') (hs : SH w k (.inl (7, rs))) (hR : rm.frames + 1 ≤ R.frames ∧ 8 + (4 + 11) + rm.locals ≤ R.locals) (hrc : rm.cells = 0) (hrs : rm.slots = 0) (hf : cells ≤ R.cells ∧ slots ≤ R.slots) (hn : As.length = 1) (hl : ls.size = nL) (hst : st0 = As.reverse ++ .ref (gA G k) :: rest) (hW : (rest.map fun v => v.category).sum ≤ 8) (hdg : decode cc pc = .ok (.invokevirtual 179, 3)) (kk : ∀ (H1 : Heap) (locs1 : List Loc), FH G w H0 H1 locs1 σ' → W p l e R s m args below meth c H1 locs1 cells slots Q (F0 m (pc + 3) ls (v.toList ++ rest))) : W p l e R s m args below meth c H locs cells slots Q (F0 m pc ls st0) := fl_callV (n := 1) X hb hml hF hM hs rfl wm_X7_179 wk_X7_housesOf wl_X7_housesOf wi_X7 wc_X7_housesOf (by decide +kernel) hrc hrs hR hf hn hl hst hW hdg kk
theorem wc_X7_knotsIn : Cond.code yX7_knotsIn cX7_knotsIn 5 (some .int) ∈ tbl := tb (i := 842) (by decide +kernel) (by decide +kernel)
theorem wk_X7_knotsIn : Cond.instanceMethod yX7_knotsIn ∈ tbl := tb (i := 841) (by decide +kernel) (by decide +kernel)
theorem wl_X7_knotsIn : Cond.selects RX7 yX7_knotsIn yX7_knotsIn ∈ tbl := tb (i := 45) (by decide +kernel) (by decide +kernel)
theorem wm_X7_195 : Cond.methodLink RX7 195 yX7_knotsIn ∈ tbl := tb (i := 839) (by decide +kernel) (by decide +kernel)
theorem cm_X7_195 (X : CX p s m args RX7 G w) (hb : c.code = cc) (hml : c.maxLocals = nL) (hF : FH G w H0 H locs σ) (hM : Ct l G w yX7_knotsIn cX7_knotsIn 5 (some .int) rm (.ref (gA G k) :: As) σ v σ') (hs : SH w k (.inl (7, rs))) (hR : rm.frames + 1 ≤ R.frames ∧ 8 + (5 + 11) + rm.locals ≤ R.locals) (hrc : rm.cells = 0) (hrs : rm.slots = 0) (hf : cells ≤ R.cells ∧ slots ≤ R.slots) (hn : As.length = 1) (hl : ls.size = nL) (hst : st0 = As.reverse ++ .ref (gA G k) :: rest) (hW : (rest.map fun v => v.category).sum ≤ 8) (hdg : decode cc pc = .ok (.invokevirtual 195, 3)) (kk : ∀ (H1 : Heap) (locs1 : List Loc), FH G w H0 H1 locs1 σ' → W p l e R s m args below meth c H1 locs1 cells slots Q (F0 m (pc + 3) ls (v.toList ++ rest))) : W p l e R s m args below meth c H locs cells slots Q (F0 m pc ls st0) := fl_callV (n := 1) X hb hml hF hM hs rfl wm_X7_195 wk_X7_knotsIn wl_X7_knotsIn wi_X7 wc_X7_knotsIn (by decide +kernel) hrc hrs hR hf hn hl hst hW hdg kk
theorem wc_X7_knots : Cond.code yX7_knots cX7_knots 3 (some .int) ∈ tbl := tb (i := 846) (by decide +kernel) (by decide +kernel)
theorem wk_X7_knots : Cond.instanceMethod yX7_knots ∈ tbl := tb (i := 845) (by decide +kernel) (by decide +kernel)
theorem wl_X7_knots : Cond.selects RX7 yX7_knots yX7_knots ∈ tbl := tb (i := 46) (by decide +kernel) (by decide +kernel)
theorem wm_X7_182 : Cond.methodLink RX7 182 yX7_knots ∈ tbl := tb (i := 843) (by decide +kernel) (by decide +kernel)
theorem cm_X7_182 (X : CX p s m args RX7 G w) (hb : c.code = cc) (hml : c.maxLocals = nL) (hF : FH G w H0 H locs σ) (hM : Ct l G w yX7_knots cX7_knots 3 (some .int) rm (.ref (gA G k) :: As) σ v σ') (hs : SH w k (.inl (7, rs))) (hR : rm.frames + 1 ≤ R.frames ∧ 8 + (3 + 11) + rm.locals ≤ R.locals) (hrc : rm.cells = 0) (hrs : rm.slots = 0) (hf : cells ≤ R.cells ∧ slots ≤ R.slots) (hn : As.length = 0) (hl : ls.size = nL) (hst : st0 = As.reverse ++ .ref (gA G k) :: rest) (hW : (rest.map fun v => v.category).sum ≤ 8) (hdg : decode cc pc = .ok (.invokevirtual 182, 3)) (kk : ∀ (H1 : Heap) (locs1 : List Loc), FH G w H0 H1 locs1 σ' → W p l e R s m args below meth c H1 locs1 cells slots Q (F0 m (pc + 3) ls (v.toList ++ rest))) : W p l e R s m args below meth c H locs cells slots Q (F0 m pc ls st0) := fl_callV (n := 0) X hb hml hF hM hs rfl wm_X7_182 wk_X7_knots wl_X7_knots wi_X7 wc_X7_knots (by decide +kernel) hrc hrs hR hf hn hl hst hW hdg kk
theorem wc_X7_laysChains : Cond.code yX7_laysChains cX7_laysChains 5 none ∈ tbl := tb (i := 850) (by decide +kernel) (by decide +kernel)
theorem wk_X7_laysChains : Cond.instanceMethod yX7_laysChains ∈ tbl := tb (i := 849) (by decide +kernel) (by decide +kernel)
theorem wl_X7_laysChains : Cond.selects RX7 yX7_laysChains yX7_laysChains ∈ tbl := tb (i := 47) (by decide +kernel) (by decide +kernel)
theorem wm_X7_149 : Cond.methodLink RX7 149 yX7_laysChains ∈ tbl := tb (i := 847) (by decide +kernel) (by decide +kernel)
theorem cm_X7_149 (X : CX p s m args RX7 G w) (hb : c.code = cc) (hml : c.maxLocals = nL) (hF : FH G w H0 H locs σ) (hM : Ct l G w yX7_laysChains cX7_laysChains 5 none rm (.ref (gA G k) :: As) σ v σ') (hs : SH w k (.inl (7, rs))) (hR : rm.frames + 1 ≤ R.frames ∧ 8 + (5 + 11) + rm.locals ≤ R.locals) (hrc : rm.cells = 0) (hrs : rm.slots = 0) (hf : cells ≤ R.cells ∧ slots ≤ R.slots) (hn : As.length = 0) (hl : ls.size = nL) (hst : st0 = As.reverse ++ .ref (gA G k) :: rest) (hW : (rest.map fun v => v.category).sum ≤ 8) (hdg : decode cc pc = .ok (.invokevirtual 149, 3)) (kk : ∀ (H1 : Heap) (locs1 : List Loc), FH G w H0 H1 locs1 σ' → W p l e R s m args below meth c H1 locs1 cells slots Q (F0 m (pc + 3) ls (v.toList ++ rest))) : W p l e R s m args below meth c H locs cells slots Q (F0 m pc ls st0) := fl_callV (n := 0) X hb hml hF hM hs rfl wm_X7_149 wk_X7_laysChains wl_X7_laysChains wi_X7 wc_X7_laysChains (by decide +kernel) hrc hrs hR hf hn hl hst hW hdg kk
theorem wc_X7_aheadOf : Cond.code yX7_aheadOf cX7_aheadOf 6 (some .int) ∈ tbl := tb (i := 854) (by decide +kernel) (by decide +kernel)
theorem wk_X7_aheadOf : Cond.instanceMethod yX7_aheadOf ∈ tbl := tb (i := 853) (by decide +kernel) (by decide +kernel)
theorem wl_X7_aheadOf : Cond.selects RX7 yX7_aheadOf yX7_aheadOf ∈ tbl := tb (i := 48) (by decide +kernel) (by decide +kernel)
theorem wm_X7_145 : Cond.methodLink RX7 145 yX7_aheadOf ∈ tbl := tb (i := 851) (by decide +kernel) (by decide +kernel)
theorem cm_X7_145 (X : CX p s m args RX7 G w) (hb : c.code = cc) (hml : c.maxLocals = nL) (hF : FH G w H0 H locs σ) (hM : Ct l G w yX7_aheadOf cX7_aheadOf 6 (some .int) rm (.ref (gA G k) :: As) σ v σ') (hs : SH w k (.inl (7, rs))) (hR : rm.frames + 1 ≤ R.frames ∧ 8 + (6 + 11) + rm.locals ≤ R.locals) (hrc : rm.cells = 0) (hrs : rm.slots = 0) (hf : cells ≤ R.cells ∧ slots ≤ R.slots) (hn : As.length = 1) (hl : ls.size = nL) (hst : st0 = As.reverse ++ .ref (gA G k) :: rest) (hW : (rest.map fun v => v.category).sum ≤ 8) (hdg : decode cc pc = .ok (.invokevirtual 145, 3)) (kk : ∀ (H1 : Heap) (locs1 : List Loc), FH G w H0 H1 locs1 σ' → W p l e R s m args below meth c H1 locs1 cells slots Q (F0 m (pc + 3) ls (v.toList ++ rest))) : W p l e R s m args below meth c H locs cells slots Q (F0 m pc ls st0) := fl_callV (n := 1) X hb hml hF hM hs rfl wm_X7_145 wk_X7_aheadOf wl_X7_aheadOf wi_X7 wc_X7_aheadOf (by decide +kernel) hrc hrs hR hf hn hl hst hW hdg kk
theorem wc_X7_rank : Cond.code yX7_rank cX7_rank 8 (some .int) ∈ tbl := tb (i := 858) (by decide +kernel) (by decide +kernel)
theorem wk_X7_rank : Cond.instanceMethod yX7_rank ∈ tbl := tb (i := 856) (by decide +kernel) (by decide +kernel)
theorem wl_X7_rank : Cond.selects RX7 yX7_rank yX7_rank ∈ tbl := tb (i := 857) (by decide +kernel) (by decide +kernel)
theorem wm_L_65 : Cond.methodLink RL 65 yX7_rank ∈ tbl := tb (i := 855) (by decide +kernel) (by decide +kernel)
theorem wc_X7_event : Cond.code yX7_event cX7_event 4 (some .int) ∈ tbl := tb (i := 862) (by decide +kernel) (by decide +kernel)
theorem wk_X7_event : Cond.instanceMethod yX7_event ∈ tbl := tb (i := 860) (by decide +kernel) (by decide +kernel)
theorem wl_X7_event : Cond.selects RX7 yX7_event yX7_event ∈ tbl := tb (i := 861) (by decide +kernel) (by decide +kernel)
theorem wm_L_69 : Cond.methodLink RL 69 yX7_event ∈ tbl := tb (i := 859) (by decide +kernel) (by decide +kernel)
theorem wc_X7_date : Cond.code yX7_date cX7_date 3 (some .int) ∈ tbl := tb (i := 867) (by decide +kernel) (by decide +kernel)
theorem wk_X7_date : Cond.instanceMethod yX7_date ∈ tbl := tb (i := 865) (by decide +kernel) (by decide +kernel)
theorem wl_X7_date : Cond.selects RX7 yX7_date yX7_date ∈ tbl := tb (i := 866) (by decide +kernel) (by decide +kernel)
theorem wm_L_73 : Cond.methodLink RL 73 yX7_date ∈ tbl := tb (i := 864) (by decide +kernel) (by decide +kernel)
theorem wc_X7_late : Cond.code yX7_late cX7_late 5 (some .int) ∈ tbl := tb (i := 871) (by decide +kernel) (by decide +kernel)
theorem wk_X7_late : Cond.instanceMethod yX7_late ∈ tbl := tb (i := 869) (by decide +kernel) (by decide +kernel)
theorem wl_X7_late : Cond.selects RX7 yX7_late yX7_late ∈ tbl := tb (i := 870) (by decide +kernel) (by decide +kernel)
theorem wm_L_77 : Cond.methodLink RL 77 yX7_late ∈ tbl := tb (i := 868) (by decide +kernel) (by decide +kernel)
theorem wm_X7_205 : Cond.methodLink RX7 205 yX7_date ∈ tbl := tb (i := 872) (by decide +kernel) (by decide +kernel)
theorem cm_X7_205 (X : CX p s m args RX7 G w) (hb : c.code = cc) (hml : c.maxLocals = nL) (hF : FH G w H0 H locs σ) (hM : Ct l G w yX7_date cX7_date 3 (some .int) rm (.ref (gA G k) :: As) σ v σ') (hs : SH w k (.inl (7, rs))) (hR : rm.frames + 1 ≤ R.frames ∧ 8 + (3 + 11) + rm.locals ≤ R.locals) (hrc : rm.cells = 0) (hrs : rm.slots = 0) (hf : cells ≤ R.cells ∧ slots ≤ R.slots) (hn : As.length = 1) (hl : ls.size = nL) (hst : st0 = As.reverse ++ .ref (gA G k) :: rest) (hW : (rest.map fun v => v.category).sum ≤ 8) (hdg : decode cc pc = .ok (.invokevirtual 205, 3)) (kk : ∀ (H1 : Heap) (locs1 : List Loc), FH G w H0 H1 locs1 σ' → W p l e R s m args below meth c H1 locs1 cells slots Q (F0 m (pc + 3) ls (v.toList ++ rest))) : W p l e R s m args below meth c H locs cells slots Q (F0 m pc ls st0) := fl_callV (n := 1) X hb hml hF hM hs rfl wm_X7_205 wk_X7_date wl_X7_date wi_X7 wc_X7_date (by decide +kernel) hrc hrs hR hf hn hl hst hW hdg kk
theorem wc_X7_line : Cond.code yX7_line cX7_line 6 (some .int) ∈ tbl := tb (i := 876) (by decide +kernel) (by decide +kernel)
theorem wk_X7_line : Cond.instanceMethod yX7_line ∈ tbl := tb (i := 874) (by decide +kernel) (by decide +kernel)
theorem wl_X7_line : Cond.selects RX7 yX7_line yX7_line ∈ tbl := tb (i := 875) (by decide +kernel) (by decide +kernel)
theorem wm_L_81 : Cond.methodLink RL 81 yX7_line ∈ tbl := tb (i := 873) (by decide +kernel) (by decide +kernel)
theorem wc_X7_without : Cond.code yX7_without cX7_without 3 (some .int) ∈ tbl := tb (i := 880) (by decide +kernel) (by decide +kernel)
theorem wk_X7_without : Cond.instanceMethod yX7_without ∈ tbl := tb (i := 878) (by decide +kernel) (by decide +kernel)
theorem wl_X7_without : Cond.selects RX7 yX7_without yX7_without ∈ tbl := tb (i := 879) (by decide +kernel) (by decide +kernel)
theorem wm_L_85 : Cond.methodLink RL 85 yX7_without ∈ tbl := tb (i := 877) (by decide +kernel) (by decide +kernel)
theorem wc_X7_entry : Cond.code yX7_entry cX7_entry 5 (some .int) ∈ tbl := tb (i := 884) (by decide +kernel) (by decide +kernel)
theorem wk_X7_entry : Cond.instanceMethod yX7_entry ∈ tbl := tb (i := 882) (by decide +kernel) (by decide +kernel)
theorem wl_X7_entry : Cond.selects RX7 yX7_entry yX7_entry ∈ tbl := tb (i := 883) (by decide +kernel) (by decide +kernel)
theorem wm_L_31 : Cond.methodLink RL 31 yX7_entry ∈ tbl := tb (i := 881) (by decide +kernel) (by decide +kernel)
theorem wc_X7_strikes : Cond.code yX7_strikes cX7_strikes 4 (some .int) ∈ tbl := tb (i := 888) (by decide +kernel) (by decide +kernel)
theorem wk_X7_strikes : Cond.instanceMethod yX7_strikes ∈ tbl := tb (i := 886) (by decide +kernel) (by decide +kernel)
theorem wl_X7_strikes : Cond.selects RX7 yX7_strikes yX7_strikes ∈ tbl := tb (i := 887) (by decide +kernel) (by decide +kernel)
theorem wm_L_36 : Cond.methodLink RL 36 yX7_strikes ∈ tbl := tb (i := 885) (by decide +kernel) (by decide +kernel)
theorem wc_X7_minds : Cond.code yX7_minds cX7_minds 2 none ∈ tbl := tb (i := 892) (by decide +kernel) (by decide +kernel)
theorem wk_X7_minds : Cond.instanceMethod yX7_minds ∈ tbl := tb (i := 891) (by decide +kernel) (by decide +kernel)
theorem wl_X7_minds : Cond.selects RX7 yX7_minds yX7_minds ∈ tbl := tb (i := 49) (by decide +kernel) (by decide +kernel)
theorem wm_X7_208 : Cond.methodLink RX7 208 yX7_minds ∈ tbl := tb (i := 889) (by decide +kernel) (by decide +kernel)
theorem cm_X7_208 (X : CX p s m args RX7 G w) (hb : c.code = cc) (hml : c.maxLocals = nL) (hF : FH G w H0 H locs σ) (hM : Ct l G w yX7_minds cX7_minds 2 none rm (.ref (gA G k) :: As) σ v σ') (hs : SH w k (.inl (7, rs))) (hR : rm.frames + 1 ≤ R.frames ∧ 8 + (2 + 11) + rm.locals ≤ R.locals) (hrc : rm.cells = 0) (hrs : rm.slots = 0) (hf : cells ≤ R.cells ∧ slots ≤ R.slots) (hn : As.length = 0) (hl : ls.size = nL) (hst : st0 = As.reverse ++ .ref (gA G k) :: rest) (hW : (rest.map fun v => v.category).sum ≤ 8) (hdg : decode cc pc = .ok (.invokevirtual 208, 3)) (kk : ∀ (H1 : Heap) (locs1 : List Loc), FH G w H0 H1 locs1 σ' → W p l e R s m args below meth c H1 locs1 cells slots Q (F0 m (pc + 3) ls (v.toList ++ rest))) : W p l e R s m args below meth c H locs cells slots Q (F0 m pc ls st0) := fl_callV (n := 0) X hb hml hF hM hs rfl wm_X7_208 wk_X7_minds wl_X7_minds wi_X7 wc_X7_minds (by decide +kernel) hrc hrs hR hf hn hl hst hW hdg kk
theorem wc_X7_copy : Cond.code yX7_copy cX7_copy 4 none ∈ tbl := tb (i := 896) (by decide +kernel) (by decide +kernel)
theorem wk_X7_copy : Cond.instanceMethod yX7_copy ∈ tbl := tb (i := 895) (by decide +kernel) (by decide +kernel)
theorem wl_X7_copy : Cond.selects RX7 yX7_copy yX7_copy ∈ tbl := tb (i := 50) (by decide +kernel) (by decide +kernel)
theorem wm_X7_54 : Cond.methodLink RX7 54 yX7_copy ∈ tbl := tb (i := 893) (by decide +kernel) (by decide +kernel)
theorem cm_X7_54 (X : CX p s m args RX7 G w) (hb : c.code = cc) (hml : c.maxLocals = nL) (hF : FH G w H0 H locs σ) (hM : Ct l G w yX7_copy cX7_copy 4 none rm (.ref (gA G k) :: As) σ v σ') (hs : SH w k (.inl (7, rs))) (hR : rm.frames + 1 ≤ R.frames ∧ 8 + (4 + 11) + rm.locals ≤ R.locals) (hrc : rm.cells = 0) (hrs : rm.slots = 0) (hf : cells ≤ R.cells ∧ slots ≤ R.slots) (hn : As.length = 2) (hl : ls.size = nL) (hst : st0 = As.reverse ++ .ref (gA G k) :: rest) (hW : (rest.map fun v => v.category).sum ≤ 8) (hdg : decode cc pc = .ok (.invokevirtual 54, 3)) (kk : ∀ (H1 : Heap) (locs1 : List Loc), FH G w H0 H1 locs1 σ' → W p l e R s m args below meth c H1 locs1 cells slots Q (F0 m (pc + 3) ls (v.toList ++ rest))) : W p l e R s m args below meth c H locs cells slots Q (F0 m pc ls st0) := fl_callV (n := 2) X hb hml hF hM hs rfl wm_X7_54 wk_X7_copy wl_X7_copy wi_X7 wc_X7_copy (by decide +kernel) hrc hrs hR hf hn hl hst hW hdg kk
theorem wc_X7_tells : Cond.code yX7_tells cX7_tells 6 (some .int) ∈ tbl := tb (i := 900) (by decide +kernel) (by decide +kernel)
theorem wk_X7_tells : Cond.instanceMethod yX7_tells ∈ tbl := tb (i := 898) (by decide +kernel) (by decide +kernel)
theorem wl_X7_tells : Cond.selects RX7 yX7_tells yX7_tells ∈ tbl := tb (i := 899) (by decide +kernel) (by decide +kernel)
theorem wm_L_40 : Cond.methodLink RL 40 yX7_tells ∈ tbl := tb (i := 897) (by decide +kernel) (by decide +kernel)
theorem wc_X7_slacks : Cond.code yX7_slacks cX7_slacks 3 (some .int) ∈ tbl := tb (i := 905) (by decide +kernel) (by decide +kernel)
theorem wk_X7_slacks : Cond.instanceMethod yX7_slacks ∈ tbl := tb (i := 903) (by decide +kernel) (by decide +kernel)
theorem wl_X7_slacks : Cond.selects RX7 yX7_slacks yX7_slacks ∈ tbl := tb (i := 904) (by decide +kernel) (by decide +kernel)
theorem wm_L_44 : Cond.methodLink RL 44 yX7_slacks ∈ tbl := tb (i := 902) (by decide +kernel) (by decide +kernel)
theorem wc_X7_undo : Cond.code yX7_undo cX7_undo 1 (some .int) ∈ tbl := tb (i := 910) (by decide +kernel) (by decide +kernel)
theorem wk_X7_undo : Cond.instanceMethod yX7_undo ∈ tbl := tb (i := 908) (by decide +kernel) (by decide +kernel)
theorem wl_X7_undo : Cond.selects RX7 yX7_undo yX7_undo ∈ tbl := tb (i := 909) (by decide +kernel) (by decide +kernel)
theorem wm_L_48 : Cond.methodLink RL 48 yX7_undo ∈ tbl := tb (i := 907) (by decide +kernel) (by decide +kernel)
theorem wc_X7_sees : Cond.code yX7_sees cX7_sees 2 (some .int) ∈ tbl := tb (i := 914) (by decide +kernel) (by decide +kernel)
theorem wk_X7_sees : Cond.instanceMethod yX7_sees ∈ tbl := tb (i := 912) (by decide +kernel) (by decide +kernel)
theorem wl_X7_sees : Cond.selects RX7 yX7_sees yX7_sees ∈ tbl := tb (i := 913) (by decide +kernel) (by decide +kernel)
theorem wm_L_89 : Cond.methodLink RL 89 yX7_sees ∈ tbl := tb (i := 911) (by decide +kernel) (by decide +kernel)
theorem wc_X7_forget : Cond.code yX7_forget cX7_forget 2 (some .int) ∈ tbl := tb (i := 919) (by decide +kernel) (by decide +kernel)
theorem wk_X7_forget : Cond.instanceMethod yX7_forget ∈ tbl := tb (i := 917) (by decide +kernel) (by decide +kernel)
theorem wl_X7_forget : Cond.selects RX7 yX7_forget yX7_forget ∈ tbl := tb (i := 918) (by decide +kernel) (by decide +kernel)
theorem wm_L_93 : Cond.methodLink RL 93 yX7_forget ∈ tbl := tb (i := 916) (by decide +kernel) (by decide +kernel)
theorem wc_X7_unseen : Cond.code yX7_unseen cX7_unseen 5 (some .int) ∈ tbl := tb (i := 923) (by decide +kernel) (by decide +kernel)
theorem wk_X7_unseen : Cond.instanceMethod yX7_unseen ∈ tbl := tb (i := 921) (by decide +kernel) (by decide +kernel)
theorem wl_X7_unseen : Cond.selects RX7 yX7_unseen yX7_unseen ∈ tbl := tb (i := 922) (by decide +kernel) (by decide +kernel)
theorem wm_L_97 : Cond.methodLink RL 97 yX7_unseen ∈ tbl := tb (i := 920) (by decide +kernel) (by decide +kernel)
theorem wc_X7_isUnseen : Cond.code yX7_isUnseen cX7_isUnseen 6 (some .boolean) ∈ tbl := tb (i := 927) (by decide +kernel) (by decide +kernel)
theorem wk_X7_isUnseen : Cond.instanceMethod yX7_isUnseen ∈ tbl := tb (i := 926) (by decide +kernel) (by decide +kernel)
theorem wl_X7_isUnseen : Cond.selects RX7 yX7_isUnseen yX7_isUnseen ∈ tbl := tb (i := 51) (by decide +kernel) (by decide +kernel)
theorem wm_X7_217 : Cond.methodLink RX7 217 yX7_isUnseen ∈ tbl := tb (i := 924) (by decide +kernel) (by decide +kernel)
theorem cm_X7_217 (X : CX p s m args RX7 G w) (hb : c.code = cc) (hml : c.maxLocals = nL) (hF : FH G w H0 H locs σ) (hM : Ct l G w yX7_isUnseen cX7_isUnseen 6 (some .boolean) rm (.ref (gA G k) :: As) σ v σ') (hs : SH w k (.inl (7, rs))) (hR : rm.frames + 1 ≤ R.frames ∧ 8 + (6 + 11) + rm.locals ≤ R.locals) (hrc : rm.cells = 0) (hrs : rm.slots = 0) (hf : cells ≤ R.cells ∧ slots ≤ R.slots) (hn : As.length = 2) (hl : ls.size = nL) (hst : st0 = As.reverse ++ .ref (gA G k) :: rest) (hW : (rest.map fun v => v.category).sum ≤ 8) (hdg : decode cc pc = .ok (.invokevirtual 217, 3)) (kk : ∀ (H1 : Heap) (locs1 : List Loc), FH G w H0 H1 locs1 σ' → W p l e R s m args below meth c H1 locs1 cells slots Q (F0 m (pc + 3) ls (v.toList ++ rest))) : W p l e R s m args below meth c H locs cells slots Q (F0 m pc ls st0) := fl_callV (n := 2) X hb hml hF hM hs rfl wm_X7_217 wk_X7_isUnseen wl_X7_isUnseen wi_X7 wc_X7_isUnseen (by decide +kernel) hrc hrs hR hf hn hl hst hW hdg kk
theorem wc_X7_keep : Cond.code yX7_keep cX7_keep 2 (some .int) ∈ tbl := tb (i := 931) (by decide +kernel) (by decide +kernel)
theorem wk_X7_keep : Cond.instanceMethod yX7_keep ∈ tbl := tb (i := 929) (by decide +kernel) (by decide +kernel)
theorem wl_X7_keep : Cond.selects RX7 yX7_keep yX7_keep ∈ tbl := tb (i := 930) (by decide +kernel) (by decide +kernel)
theorem wm_L_101 : Cond.methodLink RL 101 yX7_keep ∈ tbl := tb (i := 928) (by decide +kernel) (by decide +kernel)
theorem wc_X7_back : Cond.code yX7_back cX7_back 2 (some .int) ∈ tbl := tb (i := 935) (by decide +kernel) (by decide +kernel)
theorem wk_X7_back : Cond.instanceMethod yX7_back ∈ tbl := tb (i := 933) (by decide +kernel) (by decide +kernel)
theorem wl_X7_back : Cond.selects RX7 yX7_back yX7_back ∈ tbl := tb (i := 934) (by decide +kernel) (by decide +kernel)
theorem wm_L_105 : Cond.methodLink RL 105 yX7_back ∈ tbl := tb (i := 932) (by decide +kernel) (by decide +kernel)
theorem wc_X7_count : Cond.code yX7_count cX7_count 2 (some .int) ∈ tbl := tb (i := 939) (by decide +kernel) (by decide +kernel)
theorem wk_X7_count : Cond.instanceMethod yX7_count ∈ tbl := tb (i := 937) (by decide +kernel) (by decide +kernel)
theorem wl_X7_count : Cond.selects RX7 yX7_count yX7_count ∈ tbl := tb (i := 938) (by decide +kernel) (by decide +kernel)
theorem wm_L_109 : Cond.methodLink RL 109 yX7_count ∈ tbl := tb (i := 936) (by decide +kernel) (by decide +kernel)
theorem wc_X7_entries : Cond.code yX7_entries cX7_entries 3 (some .int) ∈ tbl := tb (i := 943) (by decide +kernel) (by decide +kernel)
theorem wk_X7_entries : Cond.instanceMethod yX7_entries ∈ tbl := tb (i := 942) (by decide +kernel) (by decide +kernel)
theorem wl_X7_entries : Cond.selects RX7 yX7_entries yX7_entries ∈ tbl := tb (i := 52) (by decide +kernel) (by decide +kernel)
theorem wm_X7_220 : Cond.methodLink RX7 220 yX7_entries ∈ tbl := tb (i := 940) (by decide +kernel) (by decide +kernel)
theorem cm_X7_220 (X : CX p s m args RX7 G w) (hb : c.code = cc) (hml : c.maxLocals = nL) (hF : FH G w H0 H locs σ) (hM : Ct l G w yX7_entries cX7_entries 3 (some .int) rm (.ref (gA G k) :: As) σ v σ') (hs : SH w k (.inl (7, rs))) (hR : rm.frames + 1 ≤ R.frames ∧ 8 + (3 + 11) + rm.locals ≤ R.locals) (hrc : rm.cells = 0) (hrs : rm.slots = 0) (hf : cells ≤ R.cells ∧ slots ≤ R.slots) (hn : As.length = 0) (hl : ls.size = nL) (hst : st0 = As.reverse ++ .ref (gA G k) :: rest) (hW : (rest.map fun v => v.category).sum ≤ 8) (hdg : decode cc pc = .ok (.invokevirtual 220, 3)) (kk : ∀ (H1 : Heap) (locs1 : List Loc), FH G w H0 H1 locs1 σ' → W p l e R s m args below meth c H1 locs1 cells slots Q (F0 m (pc + 3) ls (v.toList ++ rest))) : W p l e R s m args below meth c H locs cells slots Q (F0 m pc ls st0) := fl_callV (n := 0) X hb hml hF hM hs rfl wm_X7_220 wk_X7_entries wl_X7_entries wi_X7 wc_X7_entries (by decide +kernel) hrc hrs hR hf hn hl hst hW hdg kk
theorem wc_X7_events : Cond.code yX7_events cX7_events 3 (some .int) ∈ tbl := tb (i := 947) (by decide +kernel) (by decide +kernel)
theorem wk_X7_events : Cond.instanceMethod yX7_events ∈ tbl := tb (i := 946) (by decide +kernel) (by decide +kernel)
theorem wl_X7_events : Cond.selects RX7 yX7_events yX7_events ∈ tbl := tb (i := 53) (by decide +kernel) (by decide +kernel)
theorem wm_X7_223 : Cond.methodLink RX7 223 yX7_events ∈ tbl := tb (i := 944) (by decide +kernel) (by decide +kernel)
theorem cm_X7_223 (X : CX p s m args RX7 G w) (hb : c.code = cc) (hml : c.maxLocals = nL) (hF : FH G w H0 H locs σ) (hM : Ct l G w yX7_events cX7_events 3 (some .int) rm (.ref (gA G k) :: As) σ v σ') (hs : SH w k (.inl (7, rs))) (hR : rm.frames + 1 ≤ R.frames ∧ 8 + (3 + 11) + rm.locals ≤ R.locals) (hrc : rm.cells = 0) (hrs : rm.slots = 0) (hf : cells ≤ R.cells ∧ slots ≤ R.slots) (hn : As.length = 0) (hl : ls.size = nL) (hst : st0 = As.reverse ++ .ref (gA G k) :: rest) (hW : (rest.map fun v => v.category).sum ≤ 8) (hdg : decode cc pc = .ok (.invokevirtual 223, 3)) (kk : ∀ (H1 : Heap) (locs1 : List Loc), FH G w H0 H1 locs1 σ' → W p l e R s m args below meth c H1 locs1 cells slots Q (F0 m (pc + 3) ls (v.toList ++ rest))) : W p l e R s m args below meth c H locs cells slots Q (F0 m pc ls st0) := fl_callV (n := 0) X hb hml hF hM hs rfl wm_X7_223 wk_X7_events wl_X7_events wi_X7 wc_X7_events (by decide +kernel) hrc hrs hR hf hn hl hst hW hdg kk
end FC
theorem wn_X6_120 : Cond.constant RX6 120 (-1000000) ∈ tbl := tb (i := 416) (by decide +kernel) (by decide +kernel)
theorem wm_X4_37 : Cond.methodLink RX4 37 Lib.Math.min.name ∈ tbl := tb (i := 431) (by decide +kernel) (by decide +kernel)
theorem wm_X4_43 : Cond.methodLink RX4 43 Lib.Math.max.name ∈ tbl := tb (i := 434) (by decide +kernel) (by decide +kernel)
theorem wn_J6_265 : Cond.constant RJ6 265 (1431655765) ∈ tbl := tb (i := 465) (by decide +kernel) (by decide +kernel)
theorem wn_J6_266 : Cond.constant RJ6 266 (858993459) ∈ tbl := tb (i := 466) (by decide +kernel) (by decide +kernel)
theorem wn_J6_267 : Cond.constant RJ6 267 (252645135) ∈ tbl := tb (i := 467) (by decide +kernel) (by decide +kernel)
theorem wm_X4_61 : Cond.methodLink RX4 61 Lib.Math.abs.name ∈ tbl := tb (i := 471) (by decide +kernel) (by decide +kernel)
theorem wn_X7_115 : Cond.constantLong RX7 115 (255) ∈ tbl := tb (i := 715) (by decide +kernel) (by decide +kernel)
theorem wn_X7_58 : Cond.constantLong RX7 58 (48) ∈ tbl := tb (i := 738) (by decide +kernel) (by decide +kernel)
theorem wn_X7_60 : Cond.constantLong RX7 60 (57) ∈ tbl := tb (i := 739) (by decide +kernel) (by decide +kernel)
theorem wn_X7_82 : Cond.constantLong RX7 82 (97) ∈ tbl := tb (i := 760) (by decide +kernel) (by decide +kernel)
theorem wn_X7_84 : Cond.constantLong RX7 84 (104) ∈ tbl := tb (i := 761) (by decide +kernel) (by decide +kernel)
theorem wn_X7_161 : Cond.constantLong RX7 161 (3) ∈ tbl := tb (i := 770) (by decide +kernel) (by decide +kernel)
theorem wn_X7_163 : Cond.constant RX7 163 (-1000000) ∈ tbl := tb (i := 771) (by decide +kernel) (by decide +kernel)
theorem wn_X7_173 : Cond.constantLong RX7 173 (2) ∈ tbl := tb (i := 803) (by decide +kernel) (by decide +kernel)
theorem wn_X7_198 : Cond.constantLong RX7 198 (4) ∈ tbl := tb (i := 819) (by decide +kernel) (by decide +kernel)
theorem wn_X7_203 : Cond.constantLong RX7 203 (7) ∈ tbl := tb (i := 863) (by decide +kernel) (by decide +kernel)
theorem wn_X7_211 : Cond.constantLong RX7 211 (99) ∈ tbl := tb (i := 901) (by decide +kernel) (by decide +kernel)
theorem wn_X7_213 : Cond.constantLong RX7 213 (9) ∈ tbl := tb (i := 906) (by decide +kernel) (by decide +kernel)
theorem wn_X7_215 : Cond.constantLong RX7 215 (8) ∈ tbl := tb (i := 915) (by decide +kernel) (by decide +kernel)
theorem wk_Mmin : Cond.static Lib.Math.min.name ∈ tbl := tb (i := 432) (by decide +kernel) (by decide +kernel)
theorem wc_Mmin : Cond.code Lib.Math.min.name Lib.Math.min.code 2 (some .int) ∈ tbl := tb (i := 433) (by decide +kernel) (by decide +kernel)
theorem wk_Mmax : Cond.static Lib.Math.max.name ∈ tbl := tb (i := 435) (by decide +kernel) (by decide +kernel)
theorem wc_Mmax : Cond.code Lib.Math.max.name Lib.Math.max.code 2 (some .int) ∈ tbl := tb (i := 436) (by decide +kernel) (by decide +kernel)
theorem wk_Mabs : Cond.static Lib.Math.abs.name ∈ tbl := tb (i := 472) (by decide +kernel) (by decide +kernel)
theorem wc_Mabs : Cond.code Lib.Math.abs.name Lib.Math.abs.code 1 (some .int) ∈ tbl := tb (i := 473) (by decide +kernel) (by decide +kernel)
theorem wi_Math : Cond.initialized "java/lang/Math" ∈ tbl := tb (i := 63) (by decide +kernel) (by decide +kernel)
end
