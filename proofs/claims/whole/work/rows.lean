section
-- ===== PART A: goes FIRST, ahead of the names: the tables' words, and 'selects' of the private methods out of them =====
/-- a private method of a class that the tables say can be made, by its rows of tables_1 -/
def lw_okq (q : MethodName × Nat) : Prop := (q.1.cls ≠ "java/lang/invoke/MethodHandle" ∧ q.1.cls ≠ "java/lang/invoke/VarHandle") ∧ Cond.instantiable q.1.cls q.2 ∈ tables_1 ∧ Cond.privateMethod q.1 ∈ tables_1 ∧ Cond.instanceMethod q.1 ∈ tables_1
theorem lw_p0 : lw_okq (⟨"YearLines$Reader", "advance", "()V"⟩, 10) := ⟨⟨by decide +kernel, by decide +kernel⟩, List.mem_of_getElem? (i := 20) (by decide +kernel), List.mem_of_getElem? (i := 236) (by decide +kernel), List.mem_of_getElem? (i := 237) (by decide +kernel)⟩
theorem lw_p1 : lw_okq (⟨"YearLines$Reader", "takeNumber", "()V"⟩, 10) := ⟨⟨by decide +kernel, by decide +kernel⟩, List.mem_of_getElem? (i := 20) (by decide +kernel), List.mem_of_getElem? (i := 243) (by decide +kernel), List.mem_of_getElem? (i := 244) (by decide +kernel)⟩
theorem lw_p2 : lw_okq (⟨"YearLines$Reader", "take", "(LYearLines$Chronicle;)Z"⟩, 10) := ⟨⟨by decide +kernel, by decide +kernel⟩, List.mem_of_getElem? (i := 20) (by decide +kernel), List.mem_of_getElem? (i := 250) (by decide +kernel), List.mem_of_getElem? (i := 251) (by decide +kernel)⟩
theorem lw_p3 : lw_okq (⟨"YearLines$Reader", "takeSlackSign", "()Z"⟩, 10) := ⟨⟨by decide +kernel, by decide +kernel⟩, List.mem_of_getElem? (i := 20) (by decide +kernel), List.mem_of_getElem? (i := 254) (by decide +kernel), List.mem_of_getElem? (i := 255) (by decide +kernel)⟩
theorem lw_p4 : lw_okq (⟨"YearLines$Reader", "takeHouseSign", "(LYearLines$Chronicle;)Z"⟩, 10) := ⟨⟨by decide +kernel, by decide +kernel⟩, List.mem_of_getElem? (i := 20) (by decide +kernel), List.mem_of_getElem? (i := 258) (by decide +kernel), List.mem_of_getElem? (i := 259) (by decide +kernel)⟩
theorem lw_p5 : lw_okq (⟨"YearLines$Reader", "takeSlack", "(LYearLines$Chronicle;)Z"⟩, 10) := ⟨⟨by decide +kernel, by decide +kernel⟩, List.mem_of_getElem? (i := 20) (by decide +kernel), List.mem_of_getElem? (i := 262) (by decide +kernel), List.mem_of_getElem? (i := 263) (by decide +kernel)⟩
theorem lw_p6 : lw_okq (⟨"YearLines$Reader", "takeStop", "()Z"⟩, 10) := ⟨⟨by decide +kernel, by decide +kernel⟩, List.mem_of_getElem? (i := 20) (by decide +kernel), List.mem_of_getElem? (i := 266) (by decide +kernel), List.mem_of_getElem? (i := 267) (by decide +kernel)⟩
theorem lw_p7 : lw_okq (⟨"YearLines$Reader", "takeEvent", "(LYearLines$Chronicle;)Z"⟩, 10) := ⟨⟨by decide +kernel, by decide +kernel⟩, List.mem_of_getElem? (i := 20) (by decide +kernel), List.mem_of_getElem? (i := 270) (by decide +kernel), List.mem_of_getElem? (i := 271) (by decide +kernel)⟩
theorem lw_p8 : lw_okq (⟨"YearLines$Reader", "takeYear", "(LYearLines$Chronicle;)Z"⟩, 10) := ⟨⟨by decide +kernel, by decide +kernel⟩, List.mem_of_getElem? (i := 20) (by decide +kernel), List.mem_of_getElem? (i := 286) (by decide +kernel), List.mem_of_getElem? (i := 287) (by decide +kernel)⟩
theorem lw_p9 : lw_okq (⟨"YearLines$Deeds", "loseOldest", "()V"⟩, 5) := ⟨⟨by decide +kernel, by decide +kernel⟩, List.mem_of_getElem? (i := 118) (by decide +kernel), List.mem_of_getElem? (i := 327) (by decide +kernel), List.mem_of_getElem? (i := 328) (by decide +kernel)⟩
theorem lw_p10 : lw_okq (⟨"YearLines$Deeds", "takeBackEntry", "(LYearLines$House;I)V"⟩, 5) := ⟨⟨by decide +kernel, by decide +kernel⟩, List.mem_of_getElem? (i := 118) (by decide +kernel), List.mem_of_getElem? (i := 353) (by decide +kernel), List.mem_of_getElem? (i := 354) (by decide +kernel)⟩
theorem lw_p11 : lw_okq (⟨"YearLines", "shiftOf", "(I)I"⟩, 11) := ⟨⟨by decide +kernel, by decide +kernel⟩, List.mem_of_getElem? (i := 12) (by decide +kernel), List.mem_of_getElem? (i := 397) (by decide +kernel), List.mem_of_getElem? (i := 398) (by decide +kernel)⟩
theorem lw_p12 : lw_okq (⟨"YearLines", "agreedOf", "(I)I"⟩, 11) := ⟨⟨by decide +kernel, by decide +kernel⟩, List.mem_of_getElem? (i := 12) (by decide +kernel), List.mem_of_getElem? (i := 421) (by decide +kernel), List.mem_of_getElem? (i := 422) (by decide +kernel)⟩
theorem lw_p13 : lw_okq (⟨"YearLines", "againstOf", "(I)I"⟩, 11) := ⟨⟨by decide +kernel, by decide +kernel⟩, List.mem_of_getElem? (i := 12) (by decide +kernel), List.mem_of_getElem? (i := 430) (by decide +kernel), List.mem_of_getElem? (i := 431) (by decide +kernel)⟩
theorem lw_p14 : lw_okq (⟨"YearLines", "measureOf", "(II)I"⟩, 11) := ⟨⟨by decide +kernel, by decide +kernel⟩, List.mem_of_getElem? (i := 12) (by decide +kernel), List.mem_of_getElem? (i := 442) (by decide +kernel), List.mem_of_getElem? (i := 443) (by decide +kernel)⟩
theorem lw_p15 : lw_okq (⟨"YearLines", "spansByFirst", "(I)I"⟩, 11) := ⟨⟨by decide +kernel, by decide +kernel⟩, List.mem_of_getElem? (i := 12) (by decide +kernel), List.mem_of_getElem? (i := 452) (by decide +kernel), List.mem_of_getElem? (i := 453) (by decide +kernel)⟩
def lw_privs_1 : List (MethodName × Nat) := [(⟨"YearLines$Reader", "advance", "()V"⟩, 10), (⟨"YearLines$Reader", "takeNumber", "()V"⟩, 10), (⟨"YearLines$Reader", "take", "(LYearLines$Chronicle;)Z"⟩, 10), (⟨"YearLines$Reader", "takeSlackSign", "()Z"⟩, 10), (⟨"YearLines$Reader", "takeHouseSign", "(LYearLines$Chronicle;)Z"⟩, 10), (⟨"YearLines$Reader", "takeSlack", "(LYearLines$Chronicle;)Z"⟩, 10), (⟨"YearLines$Reader", "takeStop", "()Z"⟩, 10), (⟨"YearLines$Reader", "takeEvent", "(LYearLines$Chronicle;)Z"⟩, 10), (⟨"YearLines$Reader", "takeYear", "(LYearLines$Chronicle;)Z"⟩, 10), (⟨"YearLines$Deeds", "loseOldest", "()V"⟩, 5), (⟨"YearLines$Deeds", "takeBackEntry", "(LYearLines$House;I)V"⟩, 5), (⟨"YearLines", "shiftOf", "(I)I"⟩, 11), (⟨"YearLines", "agreedOf", "(I)I"⟩, 11), (⟨"YearLines", "againstOf", "(I)I"⟩, 11), (⟨"YearLines", "measureOf", "(II)I"⟩, 11), (⟨"YearLines", "spansByFirst", "(I)I"⟩, 11)]
theorem lw_r1 : ∀ q ∈ lw_privs_1, lw_okq q := List.forall_mem_cons.mpr ⟨lw_p0, List.forall_mem_cons.mpr ⟨lw_p1, List.forall_mem_cons.mpr ⟨lw_p2, List.forall_mem_cons.mpr ⟨lw_p3, List.forall_mem_cons.mpr ⟨lw_p4, List.forall_mem_cons.mpr ⟨lw_p5, List.forall_mem_cons.mpr ⟨lw_p6, List.forall_mem_cons.mpr ⟨lw_p7, List.forall_mem_cons.mpr ⟨lw_p8, List.forall_mem_cons.mpr ⟨lw_p9, List.forall_mem_cons.mpr ⟨lw_p10, List.forall_mem_cons.mpr ⟨lw_p11, List.forall_mem_cons.mpr ⟨lw_p12, List.forall_mem_cons.mpr ⟨lw_p13, List.forall_mem_cons.mpr ⟨lw_p14, List.forall_mem_cons.mpr ⟨lw_p15, fun _ h => absurd h List.not_mem_nil⟩⟩⟩⟩⟩⟩⟩⟩⟩⟩⟩⟩⟩⟩⟩⟩
theorem lw_p16 : lw_okq (⟨"YearLines", "eventsOfNoOther", "(I)I"⟩, 11) := ⟨⟨by decide +kernel, by decide +kernel⟩, List.mem_of_getElem? (i := 12) (by decide +kernel), List.mem_of_getElem? (i := 456) (by decide +kernel), List.mem_of_getElem? (i := 457) (by decide +kernel)⟩
theorem lw_p17 : lw_okq (⟨"YearLines", "knotsNow", "()I"⟩, 11) := ⟨⟨by decide +kernel, by decide +kernel⟩, List.mem_of_getElem? (i := 12) (by decide +kernel), List.mem_of_getElem? (i := 460) (by decide +kernel), List.mem_of_getElem? (i := 461) (by decide +kernel)⟩
theorem lw_p18 : lw_okq (⟨"YearLines$Order", "empty", "()V"⟩, 2) := ⟨⟨by decide +kernel, by decide +kernel⟩, List.mem_of_getElem? (i := 159) (by decide +kernel), List.mem_of_getElem? (i := 468) (by decide +kernel), List.mem_of_getElem? (i := 469) (by decide +kernel)⟩
theorem lw_p19 : lw_okq (⟨"YearLines$Order", "ask", "(LYearLines$House;I)V"⟩, 2) := ⟨⟨by decide +kernel, by decide +kernel⟩, List.mem_of_getElem? (i := 159) (by decide +kernel), List.mem_of_getElem? (i := 472) (by decide +kernel), List.mem_of_getElem? (i := 473) (by decide +kernel)⟩
theorem lw_p20 : lw_okq (⟨"YearLines$Order", "chain", "()V"⟩, 2) := ⟨⟨by decide +kernel, by decide +kernel⟩, List.mem_of_getElem? (i := 159) (by decide +kernel), List.mem_of_getElem? (i := 476) (by decide +kernel), List.mem_of_getElem? (i := 477) (by decide +kernel)⟩
theorem lw_p21 : lw_okq (⟨"YearLines", "housesAbove", "(I)I"⟩, 11) := ⟨⟨by decide +kernel, by decide +kernel⟩, List.mem_of_getElem? (i := 12) (by decide +kernel), List.mem_of_getElem? (i := 488) (by decide +kernel), List.mem_of_getElem? (i := 489) (by decide +kernel)⟩
theorem lw_p22 : lw_okq (⟨"YearLines", "dateOf", "(I)I"⟩, 11) := ⟨⟨by decide +kernel, by decide +kernel⟩, List.mem_of_getElem? (i := 12) (by decide +kernel), List.mem_of_getElem? (i := 508) (by decide +kernel), List.mem_of_getElem? (i := 509) (by decide +kernel)⟩
theorem lw_p23 : lw_okq (⟨"YearLines$Order", "lowestFree", "(I)I"⟩, 2) := ⟨⟨by decide +kernel, by decide +kernel⟩, List.mem_of_getElem? (i := 159) (by decide +kernel), List.mem_of_getElem? (i := 530) (by decide +kernel), List.mem_of_getElem? (i := 531) (by decide +kernel)⟩
theorem lw_p24 : lw_okq (⟨"YearLines", "maySeem", "(II)Z"⟩, 11) := ⟨⟨by decide +kernel, by decide +kernel⟩, List.mem_of_getElem? (i := 12) (by decide +kernel), List.mem_of_getElem? (i := 550) (by decide +kernel), List.mem_of_getElem? (i := 551) (by decide +kernel)⟩
theorem lw_p25 : lw_okq (⟨"YearLinesModel", "reads", "()Z"⟩, 25) := ⟨⟨by decide +kernel, by decide +kernel⟩, List.mem_of_getElem? (i := 575) (by decide +kernel), List.mem_of_getElem? (i := 674) (by decide +kernel), List.mem_of_getElem? (i := 675) (by decide +kernel)⟩
theorem lw_p26 : lw_okq (⟨"YearLinesModel", "take", "()V"⟩, 25) := ⟨⟨by decide +kernel, by decide +kernel⟩, List.mem_of_getElem? (i := 575) (by decide +kernel), List.mem_of_getElem? (i := 678) (by decide +kernel), List.mem_of_getElem? (i := 679) (by decide +kernel)⟩
theorem lw_p27 : lw_okq (⟨"YearLinesModel", "readsSlack", "()Z"⟩, 25) := ⟨⟨by decide +kernel, by decide +kernel⟩, List.mem_of_getElem? (i := 575) (by decide +kernel), List.mem_of_getElem? (i := 687) (by decide +kernel), List.mem_of_getElem? (i := 688) (by decide +kernel)⟩
theorem lw_p28 : lw_okq (⟨"YearLinesModel", "isNumber", "(II)Z"⟩, 25) := ⟨⟨by decide +kernel, by decide +kernel⟩, List.mem_of_getElem? (i := 575) (by decide +kernel), List.mem_of_getElem? (i := 691) (by decide +kernel), List.mem_of_getElem? (i := 692) (by decide +kernel)⟩
theorem lw_p29 : lw_okq (⟨"YearLinesModel", "readsEnd", "()Z"⟩, 25) := ⟨⟨by decide +kernel, by decide +kernel⟩, List.mem_of_getElem? (i := 575) (by decide +kernel), List.mem_of_getElem? (i := 695) (by decide +kernel), List.mem_of_getElem? (i := 696) (by decide +kernel)⟩
theorem lw_p30 : lw_okq (⟨"YearLinesModel", "readsHouse", "()Z"⟩, 25) := ⟨⟨by decide +kernel, by decide +kernel⟩, List.mem_of_getElem? (i := 575) (by decide +kernel), List.mem_of_getElem? (i := 699) (by decide +kernel), List.mem_of_getElem? (i := 700) (by decide +kernel)⟩
theorem lw_p31 : lw_okq (⟨"YearLinesModel", "isEvent", "()Z"⟩, 25) := ⟨⟨by decide +kernel, by decide +kernel⟩, List.mem_of_getElem? (i := 575) (by decide +kernel), List.mem_of_getElem? (i := 703) (by decide +kernel), List.mem_of_getElem? (i := 704) (by decide +kernel)⟩
def lw_privs_2 : List (MethodName × Nat) := [(⟨"YearLines", "eventsOfNoOther", "(I)I"⟩, 11), (⟨"YearLines", "knotsNow", "()I"⟩, 11), (⟨"YearLines$Order", "empty", "()V"⟩, 2), (⟨"YearLines$Order", "ask", "(LYearLines$House;I)V"⟩, 2), (⟨"YearLines$Order", "chain", "()V"⟩, 2), (⟨"YearLines", "housesAbove", "(I)I"⟩, 11), (⟨"YearLines", "dateOf", "(I)I"⟩, 11), (⟨"YearLines$Order", "lowestFree", "(I)I"⟩, 2), (⟨"YearLines", "maySeem", "(II)Z"⟩, 11), (⟨"YearLinesModel", "reads", "()Z"⟩, 25), (⟨"YearLinesModel", "take", "()V"⟩, 25), (⟨"YearLinesModel", "readsSlack", "()Z"⟩, 25), (⟨"YearLinesModel", "isNumber", "(II)Z"⟩, 25), (⟨"YearLinesModel", "readsEnd", "()Z"⟩, 25), (⟨"YearLinesModel", "readsHouse", "()Z"⟩, 25), (⟨"YearLinesModel", "isEvent", "()Z"⟩, 25)]
theorem lw_r2 : ∀ q ∈ lw_privs_2, lw_okq q := List.forall_mem_cons.mpr ⟨lw_p16, List.forall_mem_cons.mpr ⟨lw_p17, List.forall_mem_cons.mpr ⟨lw_p18, List.forall_mem_cons.mpr ⟨lw_p19, List.forall_mem_cons.mpr ⟨lw_p20, List.forall_mem_cons.mpr ⟨lw_p21, List.forall_mem_cons.mpr ⟨lw_p22, List.forall_mem_cons.mpr ⟨lw_p23, List.forall_mem_cons.mpr ⟨lw_p24, List.forall_mem_cons.mpr ⟨lw_p25, List.forall_mem_cons.mpr ⟨lw_p26, List.forall_mem_cons.mpr ⟨lw_p27, List.forall_mem_cons.mpr ⟨lw_p28, List.forall_mem_cons.mpr ⟨lw_p29, List.forall_mem_cons.mpr ⟨lw_p30, List.forall_mem_cons.mpr ⟨lw_p31, fun _ h => absurd h List.not_mem_nil⟩⟩⟩⟩⟩⟩⟩⟩⟩⟩⟩⟩⟩⟩⟩⟩
theorem lw_p32 : lw_okq (⟨"YearLinesModel", "isHouse", "(I)Z"⟩, 25) := ⟨⟨by decide +kernel, by decide +kernel⟩, List.mem_of_getElem? (i := 575) (by decide +kernel), List.mem_of_getElem? (i := 713) (by decide +kernel), List.mem_of_getElem? (i := 714) (by decide +kernel)⟩
theorem lw_p33 : lw_okq (⟨"YearLinesModel", "spans", "(II)I"⟩, 25) := ⟨⟨by decide +kernel, by decide +kernel⟩, List.mem_of_getElem? (i := 575) (by decide +kernel), List.mem_of_getElem? (i := 719) (by decide +kernel), List.mem_of_getElem? (i := 720) (by decide +kernel)⟩
theorem lw_p34 : lw_okq (⟨"YearLinesModel", "both", "(II)I"⟩, 25) := ⟨⟨by decide +kernel, by decide +kernel⟩, List.mem_of_getElem? (i := 575) (by decide +kernel), List.mem_of_getElem? (i := 723) (by decide +kernel), List.mem_of_getElem? (i := 724) (by decide +kernel)⟩
theorem lw_p35 : lw_okq (⟨"YearLinesModel", "counts", "(II)Z"⟩, 25) := ⟨⟨by decide +kernel, by decide +kernel⟩, List.mem_of_getElem? (i := 575) (by decide +kernel), List.mem_of_getElem? (i := 727) (by decide +kernel), List.mem_of_getElem? (i := 728) (by decide +kernel)⟩
theorem lw_p36 : lw_okq (⟨"YearLinesModel", "isEntry", "(II)Z"⟩, 25) := ⟨⟨by decide +kernel, by decide +kernel⟩, List.mem_of_getElem? (i := 575) (by decide +kernel), List.mem_of_getElem? (i := 731) (by decide +kernel), List.mem_of_getElem? (i := 732) (by decide +kernel)⟩
theorem lw_p37 : lw_okq (⟨"YearLinesModel", "yearIn", "(II)I"⟩, 25) := ⟨⟨by decide +kernel, by decide +kernel⟩, List.mem_of_getElem? (i := 575) (by decide +kernel), List.mem_of_getElem? (i := 738) (by decide +kernel), List.mem_of_getElem? (i := 739) (by decide +kernel)⟩
theorem lw_p38 : lw_okq (⟨"YearLinesModel", "spanEnd", "(II)I"⟩, 25) := ⟨⟨by decide +kernel, by decide +kernel⟩, List.mem_of_getElem? (i := 575) (by decide +kernel), List.mem_of_getElem? (i := 742) (by decide +kernel), List.mem_of_getElem? (i := 743) (by decide +kernel)⟩
theorem lw_p39 : lw_okq (⟨"YearLinesModel", "shiftOf", "(I)I"⟩, 25) := ⟨⟨by decide +kernel, by decide +kernel⟩, List.mem_of_getElem? (i := 575) (by decide +kernel), List.mem_of_getElem? (i := 751) (by decide +kernel), List.mem_of_getElem? (i := 752) (by decide +kernel)⟩
theorem lw_p40 : lw_okq (⟨"YearLinesModel", "agreed", "(IZ)I"⟩, 25) := ⟨⟨by decide +kernel, by decide +kernel⟩, List.mem_of_getElem? (i := 575) (by decide +kernel), List.mem_of_getElem? (i := 758) (by decide +kernel), List.mem_of_getElem? (i := 759) (by decide +kernel)⟩
theorem lw_p41 : lw_okq (⟨"YearLinesModel", "measured", "(II)I"⟩, 25) := ⟨⟨by decide +kernel, by decide +kernel⟩, List.mem_of_getElem? (i := 575) (by decide +kernel), List.mem_of_getElem? (i := 767) (by decide +kernel), List.mem_of_getElem? (i := 768) (by decide +kernel)⟩
theorem lw_p42 : lw_okq (⟨"YearLinesModel", "sizeOf", "(I)I"⟩, 25) := ⟨⟨by decide +kernel, by decide +kernel⟩, List.mem_of_getElem? (i := 575) (by decide +kernel), List.mem_of_getElem? (i := 771) (by decide +kernel), List.mem_of_getElem? (i := 772) (by decide +kernel)⟩
theorem lw_p43 : lw_okq (⟨"YearLinesModel", "aloneIn", "(I)I"⟩, 25) := ⟨⟨by decide +kernel, by decide +kernel⟩, List.mem_of_getElem? (i := 575) (by decide +kernel), List.mem_of_getElem? (i := 778) (by decide +kernel), List.mem_of_getElem? (i := 779) (by decide +kernel)⟩
theorem lw_p44 : lw_okq (⟨"YearLinesModel", "housesOf", "(I)I"⟩, 25) := ⟨⟨by decide +kernel, by decide +kernel⟩, List.mem_of_getElem? (i := 575) (by decide +kernel), List.mem_of_getElem? (i := 782) (by decide +kernel), List.mem_of_getElem? (i := 783) (by decide +kernel)⟩
theorem lw_p45 : lw_okq (⟨"YearLinesModel", "knotsIn", "(I)I"⟩, 25) := ⟨⟨by decide +kernel, by decide +kernel⟩, List.mem_of_getElem? (i := 575) (by decide +kernel), List.mem_of_getElem? (i := 786) (by decide +kernel), List.mem_of_getElem? (i := 787) (by decide +kernel)⟩
theorem lw_p46 : lw_okq (⟨"YearLinesModel", "knots", "()I"⟩, 25) := ⟨⟨by decide +kernel, by decide +kernel⟩, List.mem_of_getElem? (i := 575) (by decide +kernel), List.mem_of_getElem? (i := 790) (by decide +kernel), List.mem_of_getElem? (i := 791) (by decide +kernel)⟩
theorem lw_p47 : lw_okq (⟨"YearLinesModel", "laysChains", "()V"⟩, 25) := ⟨⟨by decide +kernel, by decide +kernel⟩, List.mem_of_getElem? (i := 575) (by decide +kernel), List.mem_of_getElem? (i := 794) (by decide +kernel), List.mem_of_getElem? (i := 795) (by decide +kernel)⟩
def lw_privs_3 : List (MethodName × Nat) := [(⟨"YearLinesModel", "isHouse", "(I)Z"⟩, 25), (⟨"YearLinesModel", "spans", "(II)I"⟩, 25), (⟨"YearLinesModel", "both", "(II)I"⟩, 25), (⟨"YearLinesModel", "counts", "(II)Z"⟩, 25), (⟨"YearLinesModel", "isEntry", "(II)Z"⟩, 25), (⟨"YearLinesModel", "yearIn", "(II)I"⟩, 25), (⟨"YearLinesModel", "spanEnd", "(II)I"⟩, 25), (⟨"YearLinesModel", "shiftOf", "(I)I"⟩, 25), (⟨"YearLinesModel", "agreed", "(IZ)I"⟩, 25), (⟨"YearLinesModel", "measured", "(II)I"⟩, 25), (⟨"YearLinesModel", "sizeOf", "(I)I"⟩, 25), (⟨"YearLinesModel", "aloneIn", "(I)I"⟩, 25), (⟨"YearLinesModel", "housesOf", "(I)I"⟩, 25), (⟨"YearLinesModel", "knotsIn", "(I)I"⟩, 25), (⟨"YearLinesModel", "knots", "()I"⟩, 25), (⟨"YearLinesModel", "laysChains", "()V"⟩, 25)]
theorem lw_r3 : ∀ q ∈ lw_privs_3, lw_okq q := List.forall_mem_cons.mpr ⟨lw_p32, List.forall_mem_cons.mpr ⟨lw_p33, List.forall_mem_cons.mpr ⟨lw_p34, List.forall_mem_cons.mpr ⟨lw_p35, List.forall_mem_cons.mpr ⟨lw_p36, List.forall_mem_cons.mpr ⟨lw_p37, List.forall_mem_cons.mpr ⟨lw_p38, List.forall_mem_cons.mpr ⟨lw_p39, List.forall_mem_cons.mpr ⟨lw_p40, List.forall_mem_cons.mpr ⟨lw_p41, List.forall_mem_cons.mpr ⟨lw_p42, List.forall_mem_cons.mpr ⟨lw_p43, List.forall_mem_cons.mpr ⟨lw_p44, List.forall_mem_cons.mpr ⟨lw_p45, List.forall_mem_cons.mpr ⟨lw_p46, List.forall_mem_cons.mpr ⟨lw_p47, fun _ h => absurd h List.not_mem_nil⟩⟩⟩⟩⟩⟩⟩⟩⟩⟩⟩⟩⟩⟩⟩⟩
theorem lw_p48 : lw_okq (⟨"YearLinesModel", "aheadOf", "(I)I"⟩, 25) := ⟨⟨by decide +kernel, by decide +kernel⟩, List.mem_of_getElem? (i := 575) (by decide +kernel), List.mem_of_getElem? (i := 798) (by decide +kernel), List.mem_of_getElem? (i := 799) (by decide +kernel)⟩
theorem lw_p49 : lw_okq (⟨"YearLinesModel", "minds", "()V"⟩, 25) := ⟨⟨by decide +kernel, by decide +kernel⟩, List.mem_of_getElem? (i := 575) (by decide +kernel), List.mem_of_getElem? (i := 836) (by decide +kernel), List.mem_of_getElem? (i := 837) (by decide +kernel)⟩
theorem lw_p50 : lw_okq (⟨"YearLinesModel", "copy", "(II)V"⟩, 25) := ⟨⟨by decide +kernel, by decide +kernel⟩, List.mem_of_getElem? (i := 575) (by decide +kernel), List.mem_of_getElem? (i := 840) (by decide +kernel), List.mem_of_getElem? (i := 841) (by decide +kernel)⟩
theorem lw_p51 : lw_okq (⟨"YearLinesModel", "isUnseen", "(II)Z"⟩, 25) := ⟨⟨by decide +kernel, by decide +kernel⟩, List.mem_of_getElem? (i := 575) (by decide +kernel), List.mem_of_getElem? (i := 871) (by decide +kernel), List.mem_of_getElem? (i := 872) (by decide +kernel)⟩
theorem lw_p52 : lw_okq (⟨"YearLinesModel", "entries", "()I"⟩, 25) := ⟨⟨by decide +kernel, by decide +kernel⟩, List.mem_of_getElem? (i := 575) (by decide +kernel), List.mem_of_getElem? (i := 887) (by decide +kernel), List.mem_of_getElem? (i := 888) (by decide +kernel)⟩
theorem lw_p53 : lw_okq (⟨"YearLinesModel", "events", "()I"⟩, 25) := ⟨⟨by decide +kernel, by decide +kernel⟩, List.mem_of_getElem? (i := 575) (by decide +kernel), List.mem_of_getElem? (i := 891) (by decide +kernel), List.mem_of_getElem? (i := 892) (by decide +kernel)⟩
def lw_privs_4 : List (MethodName × Nat) := [(⟨"YearLinesModel", "aheadOf", "(I)I"⟩, 25), (⟨"YearLinesModel", "minds", "()V"⟩, 25), (⟨"YearLinesModel", "copy", "(II)V"⟩, 25), (⟨"YearLinesModel", "isUnseen", "(II)Z"⟩, 25), (⟨"YearLinesModel", "entries", "()I"⟩, 25), (⟨"YearLinesModel", "events", "()I"⟩, 25)]
theorem lw_r4 : ∀ q ∈ lw_privs_4, lw_okq q := List.forall_mem_cons.mpr ⟨lw_p48, List.forall_mem_cons.mpr ⟨lw_p49, List.forall_mem_cons.mpr ⟨lw_p50, List.forall_mem_cons.mpr ⟨lw_p51, List.forall_mem_cons.mpr ⟨lw_p52, List.forall_mem_cons.mpr ⟨lw_p53, fun _ h => absurd h List.not_mem_nil⟩⟩⟩⟩⟩⟩
def lw_privs : List (MethodName × Nat) := lw_privs_1 ++ (lw_privs_2 ++ (lw_privs_3 ++ (lw_privs_4)))
def lw_tbl : List Cond := k2_sels lw_privs ++ tables_1
theorem lw_privs_ok : ∀ q ∈ lw_privs, lw_okq q := by
  show ∀ q ∈ lw_privs_1 ++ (lw_privs_2 ++ (lw_privs_3 ++ (lw_privs_4))), lw_okq q
  exact List.forall_mem_append.mpr ⟨lw_r1, List.forall_mem_append.mpr ⟨lw_r2, List.forall_mem_append.mpr ⟨lw_r3, lw_r4⟩⟩⟩
end
section
/-! ===== BEGIN words of one list among another's, by their places ===== -/
theorem goodIn_r {big : List Cond} (ws : List Cond) (ps : List Nat) (hp : ws = ps.filterMap (fun i => big[i]?)) (h : ws.all goodWord = true) : GoodIn big ws := by
  intro w hw
  have h1 := List.all_eq_true.mp h w hw
  rw [hp] at hw
  obtain ⟨i, -, hi⟩ := List.mem_filterMap.mp hw
  have hm : w ∈ big := by first | exact List.mem_of_getElem? hi | exact List.getElem?_mem hi
  exact ⟨hm, good_of_word h1⟩
theorem goodIn_app {big a b : List Cond} (ha : GoodIn big a) (hb : GoodIn big b) : GoodIn big (a ++ b) := fun w h => (List.mem_append.mp h).elim (ha w) (hb w)
theorem goodIn_ca {big a b : List Cond} {c : Cond} (ha : GoodIn big (c :: a)) (hb : GoodIn big b) : GoodIn big (c :: (a ++ b)) := fun w h => (List.mem_cons.mp h).elim (fun e => ha w (List.mem_cons.mpr (Or.inl e))) (fun h => (List.mem_append.mp h).elim (fun h => ha w (List.mem_cons.mpr (Or.inr h))) (hb w))
theorem goodIn_sub {big ws : List Cond} (hm : ∀ w ∈ ws, w ∈ big) (h : ws.all goodWord = true) : GoodIn big ws := fun w hw => ⟨hm w hw, good_of_word (List.all_eq_true.mp h w hw)⟩
/-! ===== END ===== -/

/-! ===== BEGIN printed: names, fields, word lists, decode rows ===== -/
def RX0 : String := "YearLines$Chronicle"
def TX0 : u_T := fun k => match k with
  | 0 => ("YearLines$Chronicle", "all", "[LYearLines$House;", true)
  | 1 => ("YearLines$Chronicle", "size", "I", false)
  | _ => ("YearLines$Chronicle", "slack", "I", false)
def tyX0 : Nat → FieldType := fun k => match k with
  | 0 => .array (.object "YearLines$House")
  | 1 => .int
  | _ => .int
abbrev wsX00 : List Cond := u_ws RX0 TX0 3
theorem nmX0 : ∀ a, a < 3 → ∀ b, b < 3 → a ≠ b → (TX0 a).2.1 ≠ (TX0 b).2.1 := by decide +kernel
theorem tyX0_ok : ∀ k, k < 3 → parseFieldDescriptor (TX0 k).2.2.1 = some (tyX0 k) := by decide +kernel
abbrev cX0_init : ByteArray := prog_2_method_1_code
def yX0_init : MethodName := ⟨RX0, "<init>", "()V"⟩
abbrev cX0_empty : ByteArray := prog_2_method_2_code
def yX0_empty : MethodName := ⟨RX0, "empty", "()V"⟩
abbrev cX0_copy : ByteArray := prog_2_method_3_code
def yX0_copy : MethodName := ⟨RX0, "copy", "(LYearLines$Chronicle;)V"⟩
abbrev cX0_hasHouse : ByteArray := prog_2_method_4_code
def yX0_hasHouse : MethodName := ⟨RX0, "hasHouse", "(I)Z"⟩
abbrev cX0_hasEntry : ByteArray := prog_2_method_5_code
def yX0_hasEntry : MethodName := ⟨RX0, "hasEntry", "(II)Z"⟩
abbrev cX0_latest : ByteArray := prog_2_method_6_code
def yX0_latest : MethodName := ⟨RX0, "latest", "()LYearLines$House;"⟩
abbrev cX0_entriesLeft : ByteArray := prog_2_method_7_code
def yX0_entriesLeft : MethodName := ⟨RX0, "entriesLeft", "()I"⟩
abbrev cX0_eventBits : ByteArray := prog_2_method_8_code
def yX0_eventBits : MethodName := ⟨RX0, "eventBits", "()I"⟩
abbrev cX0_housesThatHave : ByteArray := prog_2_method_9_code
def yX0_housesThatHave : MethodName := ⟨RX0, "housesThatHave", "(I)I"⟩
def RX1 : String := "YearLines$Deeds"
def TX1 : u_T := fun k => match k with
  | 0 => ("YearLines$Deeds", "size", "I", false)
  | 1 => ("YearLines$Deeds", "kinds", "[I", true)
  | 2 => ("YearLines$Deeds", "places", "[I", true)
  | 3 => ("YearLines$Deeds", "entries", "[I", true)
  | _ => ("YearLines$Deeds", "olds", "[I", true)
def tyX1 : Nat → FieldType := fun k => match k with
  | 0 => .int
  | 1 => .array .int
  | 2 => .array .int
  | 3 => .array .int
  | _ => .array .int
abbrev wsX10 : List Cond := u_ws RX1 TX1 5
theorem nmX1 : ∀ a, a < 5 → ∀ b, b < 5 → a ≠ b → (TX1 a).2.1 ≠ (TX1 b).2.1 := by decide +kernel
theorem tyX1_ok : ∀ k, k < 5 → parseFieldDescriptor (TX1 k).2.2.1 = some (tyX1 k) := by decide +kernel
abbrev cX1_init : ByteArray := prog_3_method_1_code
def yX1_init : MethodName := ⟨RX1, "<init>", "()V"⟩
abbrev cX1_add : ByteArray := prog_3_method_2_code
def yX1_add : MethodName := ⟨RX1, "add", "(IIII)V"⟩
abbrev cX1_loseOldest : ByteArray := prog_3_method_3_code
def yX1_loseOldest : MethodName := ⟨RX1, "loseOldest", "()V"⟩
abbrev cX1_takeBack : ByteArray := prog_3_method_4_code
def yX1_takeBack : MethodName := ⟨RX1, "takeBack", "(LYearLines$Chronicle;)V"⟩
abbrev cX1_takeBackEntry : ByteArray := prog_3_method_5_code
def yX1_takeBackEntry : MethodName := ⟨RX1, "takeBackEntry", "(LYearLines$House;I)V"⟩
def RX2 : String := "YearLines$House"
def TX2 : u_T := fun k => match k with
  | 0 => ("YearLines$House", "events", "[I", true)
  | 1 => ("YearLines$House", "years", "[I", true)
  | 2 => ("YearLines$House", "size", "I", false)
  | _ => ("YearLines$House", "struckBits", "I", false)
def tyX2 : Nat → FieldType := fun k => match k with
  | 0 => .array .int
  | 1 => .array .int
  | 2 => .int
  | _ => .int
abbrev wsX20 : List Cond := u_ws RX2 TX2 4
theorem nmX2 : ∀ a, a < 4 → ∀ b, b < 4 → a ≠ b → (TX2 a).2.1 ≠ (TX2 b).2.1 := by decide +kernel
theorem tyX2_ok : ∀ k, k < 4 → parseFieldDescriptor (TX2 k).2.2.1 = some (tyX2 k) := by decide +kernel
abbrev cX2_init : ByteArray := prog_4_method_1_code
def yX2_init : MethodName := ⟨RX2, "<init>", "()V"⟩
abbrev cX2_empty : ByteArray := prog_4_method_2_code
def yX2_empty : MethodName := ⟨RX2, "empty", "()V"⟩
abbrev cX2_copy : ByteArray := prog_4_method_3_code
def yX2_copy : MethodName := ⟨RX2, "copy", "(LYearLines$House;)V"⟩
abbrev cX2_add : ByteArray := prog_4_method_4_code
def yX2_add : MethodName := ⟨RX2, "add", "(II)Z"⟩
abbrev cX2_isStruck : ByteArray := prog_4_method_5_code
def yX2_isStruck : MethodName := ⟨RX2, "isStruck", "(I)Z"⟩
abbrev cX2_turn : ByteArray := prog_4_method_6_code
def yX2_turn : MethodName := ⟨RX2, "turn", "(I)V"⟩
abbrev cX2_mayTell : ByteArray := prog_4_method_7_code
def yX2_mayTell : MethodName := ⟨RX2, "mayTell", "(II)Z"⟩
abbrev cX2_entriesLeft : ByteArray := prog_4_method_8_code
def yX2_entriesLeft : MethodName := ⟨RX2, "entriesLeft", "()I"⟩
abbrev cX2_eventBits : ByteArray := prog_4_method_9_code
def yX2_eventBits : MethodName := ⟨RX2, "eventBits", "()I"⟩
abbrev cX2_placeOf : ByteArray := prog_4_method_10_code
def yX2_placeOf : MethodName := ⟨RX2, "placeOf", "(I)I"⟩
def RX3 : String := "YearLines$Order"
def TX3 : u_T := fun k => match k with
  | 0 => ("YearLines$Order", "ahead", "[I", true)
  | _ => ("YearLines$Order", "chains", "[I", true)
def tyX3 : Nat → FieldType := fun k => match k with
  | 0 => .array .int
  | _ => .array .int
abbrev wsX30 : List Cond := u_ws RX3 TX3 2
theorem nmX3 : ∀ a, a < 2 → ∀ b, b < 2 → a ≠ b → (TX3 a).2.1 ≠ (TX3 b).2.1 := by decide +kernel
theorem tyX3_ok : ∀ k, k < 2 → parseFieldDescriptor (TX3 k).2.2.1 = some (tyX3 k) := by decide +kernel
abbrev cX3_init : ByteArray := prog_5_method_1_code
def yX3_init : MethodName := ⟨RX3, "<init>", "()V"⟩
abbrev cX3_look : ByteArray := prog_5_method_2_code
def yX3_look : MethodName := ⟨RX3, "look", "(LYearLines$Chronicle;I)V"⟩
abbrev cX3_lookStruck : ByteArray := prog_5_method_3_code
def yX3_lookStruck : MethodName := ⟨RX3, "lookStruck", "(LYearLines$Chronicle;II)V"⟩
abbrev cX3_empty : ByteArray := prog_5_method_4_code
def yX3_empty : MethodName := ⟨RX3, "empty", "()V"⟩
abbrev cX3_ask : ByteArray := prog_5_method_5_code
def yX3_ask : MethodName := ⟨RX3, "ask", "(LYearLines$House;I)V"⟩
abbrev cX3_chain : ByteArray := prog_5_method_6_code
def yX3_chain : MethodName := ⟨RX3, "chain", "()V"⟩
abbrev cX3_knots : ByteArray := prog_5_method_7_code
def yX3_knots : MethodName := ⟨RX3, "knots", "()I"⟩
abbrev cX3_inLine : ByteArray := prog_5_method_8_code
def yX3_inLine : MethodName := ⟨RX3, "inLine", "(II)I"⟩
abbrev cX3_lowestFree : ByteArray := prog_5_method_9_code
def yX3_lowestFree : MethodName := ⟨RX3, "lowestFree", "(I)I"⟩
def RX4 : String := "YearLines$Pair"
def TX4 : u_T := fun k => match k with
  | 0 => ("YearLines$Pair", "events", "[I", true)
  | 1 => ("YearLines$Pair", "offsets", "[I", true)
  | _ => ("YearLines$Pair", "size", "I", false)
def tyX4 : Nat → FieldType := fun k => match k with
  | 0 => .array .int
  | 1 => .array .int
  | _ => .int
abbrev wsX40 : List Cond := u_ws RX4 TX4 3
theorem nmX4 : ∀ a, a < 3 → ∀ b, b < 3 → a ≠ b → (TX4 a).2.1 ≠ (TX4 b).2.1 := by decide +kernel
theorem tyX4_ok : ∀ k, k < 3 → parseFieldDescriptor (TX4 k).2.2.1 = some (tyX4 k) := by decide +kernel
abbrev cX4_init : ByteArray := prog_6_method_1_code
def yX4_init : MethodName := ⟨RX4, "<init>", "()V"⟩
abbrev cX4_join : ByteArray := prog_6_method_2_code
def yX4_join : MethodName := ⟨RX4, "join", "(LYearLines$House;LYearLines$House;)V"⟩
abbrev cX4_spanEnd : ByteArray := prog_6_method_3_code
def yX4_spanEnd : MethodName := ⟨RX4, "spanEnd", "(II)I"⟩
abbrev cX4_spans : ByteArray := prog_6_method_4_code
def yX4_spans : MethodName := ⟨RX4, "spans", "(I)I"⟩
abbrev cX4_spanStart : ByteArray := prog_6_method_5_code
def yX4_spanStart : MethodName := ⟨RX4, "spanStart", "(II)I"⟩
abbrev cX4_leastOffset : ByteArray := prog_6_method_6_code
def yX4_leastOffset : MethodName := ⟨RX4, "leastOffset", "(II)I"⟩
abbrev cX4_commonestOffset : ByteArray := prog_6_method_7_code
def yX4_commonestOffset : MethodName := ⟨RX4, "commonestOffset", "()I"⟩
abbrev cX4_isNearer : ByteArray := prog_6_method_8_code
def yX4_isNearer : MethodName := ⟨RX4, "isNearer", "(II)Z"⟩
abbrev cX4_eventsWith : ByteArray := prog_6_method_9_code
def yX4_eventsWith : MethodName := ⟨RX4, "eventsWith", "(I)I"⟩
abbrev cX4_eventBits : ByteArray := prog_6_method_10_code
def yX4_eventBits : MethodName := ⟨RX4, "eventBits", "()I"⟩
def RX5 : String := "YearLines$Reader"
def TX5 : u_T := fun k => match k with
  | 0 => ("YearLines$Reader", "size", "I", false)
  | 1 => ("YearLines$Reader", "letters", "[I", true)
  | 2 => ("YearLines$Reader", "at", "I", false)
  | 3 => ("YearLines$Reader", "token", "I", false)
  | 4 => ("YearLines$Reader", "place", "I", false)
  | 5 => ("YearLines$Reader", "value", "I", false)
  | 6 => ("YearLines$Reader", "state", "I", false)
  | 7 => ("YearLines$Reader", "items", "I", false)
  | 8 => ("YearLines$Reader", "eventTold", "I", false)
  | _ => ("YearLines$Reader", "slackTold", "Z", false)
def tyX5 : Nat → FieldType := fun k => match k with
  | 0 => .int
  | 1 => .array .int
  | 2 => .int
  | 3 => .int
  | 4 => .int
  | 5 => .int
  | 6 => .int
  | 7 => .int
  | 8 => .int
  | _ => .boolean
abbrev wsX50 : List Cond := u_ws RX5 TX5 10
theorem nmX5 : ∀ a, a < 10 → ∀ b, b < 10 → a ≠ b → (TX5 a).2.1 ≠ (TX5 b).2.1 := by decide +kernel
theorem tyX5_ok : ∀ k, k < 10 → parseFieldDescriptor (TX5 k).2.2.1 = some (tyX5 k) := by decide +kernel
abbrev cX5_init : ByteArray := prog_7_method_1_code
def yX5_init : MethodName := ⟨RX5, "<init>", "()V"⟩
abbrev cX5_put : ByteArray := prog_7_method_2_code
def yX5_put : MethodName := ⟨RX5, "put", "(I)Z"⟩
abbrev cX5_read : ByteArray := prog_7_method_3_code
def yX5_read : MethodName := ⟨RX5, "read", "(LYearLines$Chronicle;)I"⟩
abbrev cX5_take : ByteArray := prog_7_method_4_code
def yX5_take : MethodName := ⟨RX5, "take", "(LYearLines$Chronicle;)Z"⟩
abbrev cX5_takeSlackSign : ByteArray := prog_7_method_5_code
def yX5_takeSlackSign : MethodName := ⟨RX5, "takeSlackSign", "()Z"⟩
abbrev cX5_takeSlack : ByteArray := prog_7_method_6_code
def yX5_takeSlack : MethodName := ⟨RX5, "takeSlack", "(LYearLines$Chronicle;)Z"⟩
abbrev cX5_takeHouseSign : ByteArray := prog_7_method_7_code
def yX5_takeHouseSign : MethodName := ⟨RX5, "takeHouseSign", "(LYearLines$Chronicle;)Z"⟩
abbrev cX5_takeEvent : ByteArray := prog_7_method_8_code
def yX5_takeEvent : MethodName := ⟨RX5, "takeEvent", "(LYearLines$Chronicle;)Z"⟩
abbrev cX5_takeYear : ByteArray := prog_7_method_9_code
def yX5_takeYear : MethodName := ⟨RX5, "takeYear", "(LYearLines$Chronicle;)Z"⟩
abbrev cX5_takeStop : ByteArray := prog_7_method_10_code
def yX5_takeStop : MethodName := ⟨RX5, "takeStop", "()Z"⟩
abbrev cX5_advance : ByteArray := prog_7_method_11_code
def yX5_advance : MethodName := ⟨RX5, "advance", "()V"⟩
abbrev cX5_isFigure : ByteArray := prog_7_method_12_code
def yX5_isFigure : MethodName := ⟨RX5, "isFigure", "(I)Z"⟩
abbrev cX5_signOf : ByteArray := prog_7_method_13_code
def yX5_signOf : MethodName := ⟨RX5, "signOf", "(I)I"⟩
abbrev cX5_takeNumber : ByteArray := prog_7_method_14_code
def yX5_takeNumber : MethodName := ⟨RX5, "takeNumber", "()V"⟩
def RX6 : String := "YearLines"
def TX6 : u_T := fun k => match k with
  | 0 => ("YearLines", "reader", "LYearLines$Reader;", true)
  | 1 => ("YearLines", "now", "LYearLines$Chronicle;", true)
  | 2 => ("YearLines", "draft", "LYearLines$Chronicle;", true)
  | 3 => ("YearLines", "images", "[LYearLines$Chronicle;", true)
  | 4 => ("YearLines", "imagesKept", "I", false)
  | 5 => ("YearLines", "deeds", "LYearLines$Deeds;", true)
  | 6 => ("YearLines", "pair", "LYearLines$Pair;", true)
  | 7 => ("YearLines", "order", "LYearLines$Order;", true)
  | 8 => ("YearLines", "measures", "[I", true)
  | 9 => ("YearLines", "seen", "[I", true)
  | _ => ("YearLines", "seenSize", "I", false)
def tyX6 : Nat → FieldType := fun k => match k with
  | 0 => .object "YearLines$Reader"
  | 1 => .object "YearLines$Chronicle"
  | 2 => .object "YearLines$Chronicle"
  | 3 => .array (.object "YearLines$Chronicle")
  | 4 => .int
  | 5 => .object "YearLines$Deeds"
  | 6 => .object "YearLines$Pair"
  | 7 => .object "YearLines$Order"
  | 8 => .array .int
  | 9 => .array .int
  | _ => .int
abbrev wsX60 : List Cond := u_ws RX6 TX6 11
theorem nmX6 : ∀ a, a < 11 → ∀ b, b < 11 → a ≠ b → (TX6 a).2.1 ≠ (TX6 b).2.1 := by decide +kernel
theorem tyX6_ok : ∀ k, k < 11 → parseFieldDescriptor (TX6 k).2.2.1 = some (tyX6 k) := by decide +kernel
abbrev cX6_init : ByteArray := prog_1_method_1_code
def yX6_init : MethodName := ⟨RX6, "<init>", "()V"⟩
abbrev cX6_type : ByteArray := prog_1_method_2_code
def yX6_type : MethodName := ⟨RX6, "type", "(I)I"⟩
abbrev cX6_clear : ByteArray := prog_1_method_3_code
def yX6_clear : MethodName := ⟨RX6, "clear", "()I"⟩
abbrev cX6_houses : ByteArray := prog_1_method_4_code
def yX6_houses : MethodName := ⟨RX6, "houses", "()I"⟩
abbrev cX6_entry : ByteArray := prog_1_method_5_code
def yX6_entry : MethodName := ⟨RX6, "entry", "(III)I"⟩
abbrev cX6_strikes : ByteArray := prog_1_method_6_code
def yX6_strikes : MethodName := ⟨RX6, "strikes", "(II)I"⟩
abbrev cX6_tells : ByteArray := prog_1_method_7_code
def yX6_tells : MethodName := ⟨RX6, "tells", "(III)I"⟩
abbrev cX6_slacks : ByteArray := prog_1_method_8_code
def yX6_slacks : MethodName := ⟨RX6, "slacks", "(I)I"⟩
abbrev cX6_undo : ByteArray := prog_1_method_9_code
def yX6_undo : MethodName := ⟨RX6, "undo", "()I"⟩
abbrev cX6_span : ByteArray := prog_1_method_10_code
def yX6_span : MethodName := ⟨RX6, "span", "(IIII)I"⟩
abbrev cX6_shift : ByteArray := prog_1_method_11_code
def yX6_shift : MethodName := ⟨RX6, "shift", "(II)I"⟩
abbrev cX6_measure : ByteArray := prog_1_method_12_code
def yX6_measure : MethodName := ⟨RX6, "measure", "(II)I"⟩
abbrev cX6_rank : ByteArray := prog_1_method_13_code
def yX6_rank : MethodName := ⟨RX6, "rank", "(II)I"⟩
abbrev cX6_event : ByteArray := prog_1_method_14_code
def yX6_event : MethodName := ⟨RX6, "event", "(II)I"⟩
abbrev cX6_date : ByteArray := prog_1_method_15_code
def yX6_date : MethodName := ⟨RX6, "date", "(I)I"⟩
abbrev cX6_late : ByteArray := prog_1_method_16_code
def yX6_late : MethodName := ⟨RX6, "late", "(II)I"⟩
abbrev cX6_line : ByteArray := prog_1_method_17_code
def yX6_line : MethodName := ⟨RX6, "line", "(I)I"⟩
abbrev cX6_without : ByteArray := prog_1_method_18_code
def yX6_without : MethodName := ⟨RX6, "without", "()I"⟩
abbrev cX6_sees : ByteArray := prog_1_method_19_code
def yX6_sees : MethodName := ⟨RX6, "sees", "(I)I"⟩
abbrev cX6_forget : ByteArray := prog_1_method_20_code
def yX6_forget : MethodName := ⟨RX6, "forget", "()I"⟩
abbrev cX6_unseen : ByteArray := prog_1_method_21_code
def yX6_unseen : MethodName := ⟨RX6, "unseen", "(I)I"⟩
abbrev cX6_keep : ByteArray := prog_1_method_22_code
def yX6_keep : MethodName := ⟨RX6, "keep", "(I)I"⟩
abbrev cX6_back : ByteArray := prog_1_method_23_code
def yX6_back : MethodName := ⟨RX6, "back", "(I)I"⟩
abbrev cX6_count : ByteArray := prog_1_method_24_code
def yX6_count : MethodName := ⟨RX6, "count", "(I)I"⟩
abbrev cX6_isEvent : ByteArray := prog_1_method_25_code
def yX6_isEvent : MethodName := ⟨RX6, "isEvent", "(I)Z"⟩
abbrev cX6_knotsNow : ByteArray := prog_1_method_26_code
def yX6_knotsNow : MethodName := ⟨RX6, "knotsNow", "()I"⟩
abbrev cX6_shiftOf : ByteArray := prog_1_method_27_code
def yX6_shiftOf : MethodName := ⟨RX6, "shiftOf", "(I)I"⟩
abbrev cX6_agreedOf : ByteArray := prog_1_method_28_code
def yX6_agreedOf : MethodName := ⟨RX6, "agreedOf", "(I)I"⟩
abbrev cX6_againstOf : ByteArray := prog_1_method_29_code
def yX6_againstOf : MethodName := ⟨RX6, "againstOf", "(I)I"⟩
abbrev cX6_measureOf : ByteArray := prog_1_method_30_code
def yX6_measureOf : MethodName := ⟨RX6, "measureOf", "(II)I"⟩
abbrev cX6_spansByFirst : ByteArray := prog_1_method_31_code
def yX6_spansByFirst : MethodName := ⟨RX6, "spansByFirst", "(I)I"⟩
abbrev cX6_eventsOfNoOther : ByteArray := prog_1_method_32_code
def yX6_eventsOfNoOther : MethodName := ⟨RX6, "eventsOfNoOther", "(I)I"⟩
abbrev cX6_housesAbove : ByteArray := prog_1_method_33_code
def yX6_housesAbove : MethodName := ⟨RX6, "housesAbove", "(I)I"⟩
abbrev cX6_dateOf : ByteArray := prog_1_method_34_code
def yX6_dateOf : MethodName := ⟨RX6, "dateOf", "(I)I"⟩
abbrev cX6_maySeem : ByteArray := prog_1_method_35_code
def yX6_maySeem : MethodName := ⟨RX6, "maySeem", "(II)Z"⟩
def RX7 : String := "YearLinesModel"
def TX7 : u_T := fun k => match k with
  | 0 => ("YearLinesModel", "w", "[I", true)
  | 1 => ("YearLinesModel", "isKept", "[Z", true)
  | 2 => ("YearLinesModel", "undos", "I", false)
  | 3 => ("YearLinesModel", "seenKnots", "[I", true)
  | 4 => ("YearLinesModel", "seen", "I", false)
  | 5 => ("YearLinesModel", "text", "[I", true)
  | 6 => ("YearLinesModel", "letters", "I", false)
  | 7 => ("YearLinesModel", "houses", "I", false)
  | 8 => ("YearLinesModel", "size", "[I", true)
  | 9 => ("YearLinesModel", "event", "[I", true)
  | 10 => ("YearLinesModel", "here", "I", false)
  | 11 => ("YearLinesModel", "begin", "I", false)
  | 12 => ("YearLinesModel", "token", "I", false)
  | 13 => ("YearLinesModel", "items", "I", false)
  | 14 => ("YearLinesModel", "newSlack", "I", false)
  | 15 => ("YearLinesModel", "newHouses", "I", false)
  | 16 => ("YearLinesModel", "newSize", "[I", true)
  | 17 => ("YearLinesModel", "newEvent", "[I", true)
  | 18 => ("YearLinesModel", "newYear", "[I", true)
  | 19 => ("YearLinesModel", "leftOut", "I", false)
  | 20 => ("YearLinesModel", "housesOut", "I", false)
  | 21 => ("YearLinesModel", "chain", "[I", true)
  | 22 => ("YearLinesModel", "bothEvent", "[I", true)
  | 23 => ("YearLinesModel", "bothOffset", "[I", true)
  | _ => ("YearLinesModel", "spanLow", "I", false)
def tyX7 : Nat → FieldType := fun k => match k with
  | 0 => .array .int
  | 1 => .array .boolean
  | 2 => .int
  | 3 => .array .int
  | 4 => .int
  | 5 => .array .int
  | 6 => .int
  | 7 => .int
  | 8 => .array .int
  | 9 => .array .int
  | 10 => .int
  | 11 => .int
  | 12 => .int
  | 13 => .int
  | 14 => .int
  | 15 => .int
  | 16 => .array .int
  | 17 => .array .int
  | 18 => .array .int
  | 19 => .int
  | 20 => .int
  | 21 => .array .int
  | 22 => .array .int
  | 23 => .array .int
  | _ => .int
abbrev wsX70 : List Cond := u_ws RX7 TX7 25
theorem nmX7 : ∀ a, a < 25 → ∀ b, b < 25 → a ≠ b → (TX7 a).2.1 ≠ (TX7 b).2.1 := by decide +kernel
theorem tyX7_ok : ∀ k, k < 25 → parseFieldDescriptor (TX7 k).2.2.1 = some (tyX7 k) := by decide +kernel
abbrev cX7_init : ByteArray := prog_9_method_1_code
def yX7_init : MethodName := ⟨RX7, "<init>", "()V"⟩
abbrev cX7_in : ByteArray := prog_9_method_3_code
def yX7_in : MethodName := ⟨RX7, "in", "(JJJ)Z"⟩
abbrev cX7_has : ByteArray := prog_9_method_4_code
def yX7_has : MethodName := ⟨RX7, "has", "(II)Z"⟩
abbrev cX7_ones : ByteArray := prog_9_method_5_code
def yX7_ones : MethodName := ⟨RX7, "ones", "(I)I"⟩
abbrev cX7_copy : ByteArray := prog_9_method_6_code
def yX7_copy : MethodName := ⟨RX7, "copy", "(II)V"⟩
abbrev cX7_minds : ByteArray := prog_9_method_7_code
def yX7_minds : MethodName := ⟨RX7, "minds", "()V"⟩
abbrev cX7_isDigit : ByteArray := prog_9_method_8_code
def yX7_isDigit : MethodName := ⟨RX7, "isDigit", "(I)Z"⟩
abbrev cX7_take : ByteArray := prog_9_method_9_code
def yX7_take : MethodName := ⟨RX7, "take", "()V"⟩
abbrev cX7_isNumber : ByteArray := prog_9_method_10_code
def yX7_isNumber : MethodName := ⟨RX7, "isNumber", "(II)Z"⟩
abbrev cX7_isEvent : ByteArray := prog_9_method_11_code
def yX7_isEvent : MethodName := ⟨RX7, "isEvent", "()Z"⟩
abbrev cX7_readsEnd : ByteArray := prog_9_method_12_code
def yX7_readsEnd : MethodName := ⟨RX7, "readsEnd", "()Z"⟩
abbrev cX7_readsSlack : ByteArray := prog_9_method_13_code
def yX7_readsSlack : MethodName := ⟨RX7, "readsSlack", "()Z"⟩
abbrev cX7_readsHouse : ByteArray := prog_9_method_14_code
def yX7_readsHouse : MethodName := ⟨RX7, "readsHouse", "()Z"⟩
abbrev cX7_reads : ByteArray := prog_9_method_15_code
def yX7_reads : MethodName := ⟨RX7, "reads", "()Z"⟩
abbrev cX7_type : ByteArray := prog_9_method_16_code
def yX7_type : MethodName := ⟨RX7, "type", "(I)I"⟩
abbrev cX7_clear : ByteArray := prog_9_method_17_code
def yX7_clear : MethodName := ⟨RX7, "clear", "()I"⟩
abbrev cX7_houses : ByteArray := prog_9_method_18_code
def yX7_houses : MethodName := ⟨RX7, "houses", "()I"⟩
abbrev cX7_isHouse : ByteArray := prog_9_method_19_code
def yX7_isHouse : MethodName := ⟨RX7, "isHouse", "(I)Z"⟩
abbrev cX7_isEntry : ByteArray := prog_9_method_20_code
def yX7_isEntry : MethodName := ⟨RX7, "isEntry", "(II)Z"⟩
abbrev cX7_counts : ByteArray := prog_9_method_21_code
def yX7_counts : MethodName := ⟨RX7, "counts", "(II)Z"⟩
abbrev cX7_yearIn : ByteArray := prog_9_method_22_code
def yX7_yearIn : MethodName := ⟨RX7, "yearIn", "(II)I"⟩
abbrev cX7_housesOf : ByteArray := prog_9_method_23_code
def yX7_housesOf : MethodName := ⟨RX7, "housesOf", "(I)I"⟩
abbrev cX7_sizeOf : ByteArray := prog_9_method_24_code
def yX7_sizeOf : MethodName := ⟨RX7, "sizeOf", "(I)I"⟩
abbrev cX7_aheadOf : ByteArray := prog_9_method_25_code
def yX7_aheadOf : MethodName := ⟨RX7, "aheadOf", "(I)I"⟩
abbrev cX7_laysChains : ByteArray := prog_9_method_26_code
def yX7_laysChains : MethodName := ⟨RX7, "laysChains", "()V"⟩
abbrev cX7_knots : ByteArray := prog_9_method_27_code
def yX7_knots : MethodName := ⟨RX7, "knots", "()I"⟩
abbrev cX7_both : ByteArray := prog_9_method_28_code
def yX7_both : MethodName := ⟨RX7, "both", "(II)I"⟩
abbrev cX7_spanEnd : ByteArray := prog_9_method_29_code
def yX7_spanEnd : MethodName := ⟨RX7, "spanEnd", "(II)I"⟩
abbrev cX7_spans : ByteArray := prog_9_method_30_code
def yX7_spans : MethodName := ⟨RX7, "spans", "(II)I"⟩
abbrev cX7_span : ByteArray := prog_9_method_31_code
def yX7_span : MethodName := ⟨RX7, "span", "(IIII)I"⟩
abbrev cX7_plain : ByteArray := prog_9_method_32_code
def yX7_plain : MethodName := ⟨RX7, "plain", "(I)I"⟩
abbrev cX7_shiftOf : ByteArray := prog_9_method_33_code
def yX7_shiftOf : MethodName := ⟨RX7, "shiftOf", "(I)I"⟩
abbrev cX7_agreed : ByteArray := prog_9_method_34_code
def yX7_agreed : MethodName := ⟨RX7, "agreed", "(IZ)I"⟩
abbrev cX7_shift : ByteArray := prog_9_method_35_code
def yX7_shift : MethodName := ⟨RX7, "shift", "(II)I"⟩
abbrev cX7_aloneIn : ByteArray := prog_9_method_36_code
def yX7_aloneIn : MethodName := ⟨RX7, "aloneIn", "(I)I"⟩
abbrev cX7_knotsIn : ByteArray := prog_9_method_37_code
def yX7_knotsIn : MethodName := ⟨RX7, "knotsIn", "(I)I"⟩
abbrev cX7_measured : ByteArray := prog_9_method_38_code
def yX7_measured : MethodName := ⟨RX7, "measured", "(II)I"⟩
abbrev cX7_measure : ByteArray := prog_9_method_39_code
def yX7_measure : MethodName := ⟨RX7, "measure", "(II)I"⟩
abbrev cX7_rank : ByteArray := prog_9_method_40_code
def yX7_rank : MethodName := ⟨RX7, "rank", "(II)I"⟩
abbrev cX7_event : ByteArray := prog_9_method_41_code
def yX7_event : MethodName := ⟨RX7, "event", "(II)I"⟩
abbrev cX7_date : ByteArray := prog_9_method_42_code
def yX7_date : MethodName := ⟨RX7, "date", "(I)I"⟩
abbrev cX7_late : ByteArray := prog_9_method_43_code
def yX7_late : MethodName := ⟨RX7, "late", "(II)I"⟩
abbrev cX7_line : ByteArray := prog_9_method_44_code
def yX7_line : MethodName := ⟨RX7, "line", "(I)I"⟩
abbrev cX7_without : ByteArray := prog_9_method_45_code
def yX7_without : MethodName := ⟨RX7, "without", "()I"⟩
abbrev cX7_entry : ByteArray := prog_9_method_46_code
def yX7_entry : MethodName := ⟨RX7, "entry", "(III)I"⟩
abbrev cX7_strikes : ByteArray := prog_9_method_47_code
def yX7_strikes : MethodName := ⟨RX7, "strikes", "(II)I"⟩
abbrev cX7_tells : ByteArray := prog_9_method_48_code
def yX7_tells : MethodName := ⟨RX7, "tells", "(III)I"⟩
abbrev cX7_slacks : ByteArray := prog_9_method_49_code
def yX7_slacks : MethodName := ⟨RX7, "slacks", "(I)I"⟩
abbrev cX7_undo : ByteArray := prog_9_method_50_code
def yX7_undo : MethodName := ⟨RX7, "undo", "()I"⟩
abbrev cX7_sees : ByteArray := prog_9_method_51_code
def yX7_sees : MethodName := ⟨RX7, "sees", "(I)I"⟩
abbrev cX7_forget : ByteArray := prog_9_method_52_code
def yX7_forget : MethodName := ⟨RX7, "forget", "()I"⟩
abbrev cX7_isUnseen : ByteArray := prog_9_method_53_code
def yX7_isUnseen : MethodName := ⟨RX7, "isUnseen", "(II)Z"⟩
abbrev cX7_unseen : ByteArray := prog_9_method_54_code
def yX7_unseen : MethodName := ⟨RX7, "unseen", "(I)I"⟩
abbrev cX7_keep : ByteArray := prog_9_method_55_code
def yX7_keep : MethodName := ⟨RX7, "keep", "(I)I"⟩
abbrev cX7_back : ByteArray := prog_9_method_56_code
def yX7_back : MethodName := ⟨RX7, "back", "(I)I"⟩
abbrev cX7_entries : ByteArray := prog_9_method_57_code
def yX7_entries : MethodName := ⟨RX7, "entries", "()I"⟩
abbrev cX7_events : ByteArray := prog_9_method_58_code
def yX7_events : MethodName := ⟨RX7, "events", "()I"⟩
abbrev cX7_count : ByteArray := prog_9_method_59_code
def yX7_count : MethodName := ⟨RX7, "count", "(I)I"⟩
def RJ6 : String := "java/lang/Integer"
def TJ6 : u_T := fun k => match k with
  | _ => ("", "", "", false)
def tyJ6 : Nat → FieldType := fun k => match k with
  | _ => .int
abbrev wsJ60 : List Cond := u_ws RJ6 TJ6 0
theorem nmJ6 : ∀ a, a < 0 → ∀ b, b < 0 → a ≠ b → (TJ6 a).2.1 ≠ (TJ6 b).2.1 := by decide +kernel
theorem tyJ6_ok : ∀ k, k < 0 → parseFieldDescriptor (TJ6 k).2.2.1 = some (tyJ6 k) := by decide +kernel
abbrev cJ6_bitCount_0f7a4 : ByteArray := prog_10_method_49_code
def yJ6_bitCount_0f7a4 : MethodName := ⟨RJ6, "bitCount", "(I)I"⟩
def RJ9 : String := "java/lang/Math"
def TJ9 : u_T := fun k => match k with
  | _ => ("", "", "", false)
def tyJ9 : Nat → FieldType := fun k => match k with
  | _ => .int
abbrev wsJ90 : List Cond := u_ws RJ9 TJ9 0
theorem nmJ9 : ∀ a, a < 0 → ∀ b, b < 0 → a ≠ b → (TJ9 a).2.1 ≠ (TJ9 b).2.1 := by decide +kernel
theorem tyJ9_ok : ∀ k, k < 0 → parseFieldDescriptor (TJ9 k).2.2.1 = some (tyJ9 k) := by decide +kernel
abbrev cJ9_abs_0f7a4 : ByteArray := prog_11_method_59_code
def yJ9_abs_0f7a4 : MethodName := ⟨RJ9, "abs", "(I)I"⟩
abbrev cJ9_max_7cf53 : ByteArray := prog_11_method_65_code
def yJ9_max_7cf53 : MethodName := ⟨RJ9, "max", "(II)I"⟩
abbrev cJ9_min_7cf53 : ByteArray := prog_11_method_69_code
def yJ9_min_7cf53 : MethodName := ⟨RJ9, "min", "(II)I"⟩
def RL : String := "YearLinesLaw"
abbrev cL_law : ByteArray := code
def yL_law : MethodName := ⟨RL, "law", "([I)Z"⟩
abbrev vwCl : List vw_C := [(RX0, TX0, 3), (RX1, TX1, 5), (RX2, TX2, 4), (RX3, TX3, 2), (RX4, TX4, 3), (RX5, TX5, 10), (RX6, TX6, 11), (RX7, TX7, 25)]
end
section
/-! The flat memory: every object and array of the class (or of the reference) has a number; what it holds are ints, by number and slot; references are fixed by the shape. Contracts and rows over it. -/
def tbl : List Cond := lw_tbl.filter goodWord
theorem tb {i : Nat} {w : Cond} (h : lw_tbl[i]? = some w) (g : goodWord w = true) : w ∈ tbl := List.mem_filter.mpr ⟨List.mem_of_getElem? h, g⟩
theorem tbl_ok : ∀ w ∈ tbl, (w.onTables && w.keeps) = true ∨ ∃ ty, w = .arrayClass ty := fun w h => good_of_word (List.mem_filter.mp h).2
theorem tbl_sub : ∀ w ∈ tbl, w ∈ lw_tbl := fun w h => (List.mem_filter.mp h).1
theorem tbl_GI {ws : List Cond} (h : ∀ w ∈ ws, w ∈ tbl) : GoodIn tbl ws := fun w hw => ⟨h w hw, tbl_ok w (h w hw)⟩
theorem tbl_cons {w : Cond} (h : w ∈ tbl) : GoodIn tbl (w :: tbl) := tbl_GI (fun x hx => (List.mem_cons.mp hx).elim (fun e => e ▸ h) id)

abbrev Mem : Type := Nat → Nat → Int32
abbrev Shp : Type := (Nat × List (Option Nat)) ⊕ (Nat × Nat × (Nat → Nat))
abbrev Gl : Type := (Nat → ClassId) × (Nat → Nat → Nat) × (Nat → ClassId) × (Nat → Nat)
abbrev Wd : Type := Nat × (Nat → Shp)
abbrev gD (G : Gl) : va_G := (G.1, G.2.1)
abbrev gA (G : Gl) : Nat → Nat := G.2.2.2
def mup (σ : Mem) (k j : Nat) (v : Int32) : Mem := fun a => if a = k then upd (σ k) j v else σ a
def ffs (ad : Nat → Nat) (rs : List (Option Nat)) (f : Nat → Int32) : List Value := rs.mapIdx (fun j r => match r with | none => Value.int (f j) | some k => Value.ref (ad k))
def fcell (G : Gl) (s : Shp) (f : Nat → Int32) : va_E := match s with
  | .inl (ci, rs) => .inr (ci, ffs (gA G) rs f)
  | .inr (kd, n, tg) => .inl (G.2.2.1 kd, n, if kd < 2 then .inl f else .inr (.inr (.inr (.inr (fun i => some (gA G (tg i)))))))
def fw (G : Gl) (w : Wd) (σ : Mem) : va_W := (List.range w.1).map (fun k => (gA G k, fcell G (w.2 k) (σ k)))
def ftys (G : Gl) : List (ClassId × FieldType) := [(G.2.2.1 0, .int), (G.2.2.1 1, .boolean), (G.2.2.1 2, .object "YearLines$House"), (G.2.2.1 3, .object "YearLines$Chronicle")]
def FK (G : Gl) (U : State) : Prop := va_K (gD G) vwCl (ftys G) U
def FI (G : Gl) (w : Wd) : Prop := ∀ i j, i < w.1 → j < w.1 → gA G i = gA G j → i = j
def FA (G : Gl) (w : Wd) : Nat → Prop := fun q => ∃ k, k < w.1 ∧ q = gA G k
def FH (G : Gl) (w : Wd) (H0 H : Heap) (locs : List Loc) (σ : Mem) : Prop := va_P (gD G) vwCl (fw G w σ) H ∧ va_S (FA G w) H0 H locs
def SH (w : Wd) (k : Nat) (s : Shp) : Prop := k < w.1 ∧ w.2 k = s

theorem fw_get {G : Gl} {w : Wd} {σ : Mem} {k : Nat} (hk : k < w.1) : (fw G w σ)[k]? = some (gA G k, fcell G (w.2 k) (σ k)) := by
  simp [fw, List.getElem?_map, List.getElem?_range hk]
theorem fw_some {G : Gl} {w : Wd} {σ : Mem} {k : Nat} {q : Nat × va_E} (h : (fw G w σ)[k]? = some q) : k < w.1 ∧ q.1 = gA G k := by
  have hk : k < w.1 := by
    have := (List.getElem?_eq_some_iff.mp h).1
    simpa [fw] using this
  rw [fw_get hk] at h
  cases h
  exact ⟨hk, rfl⟩
theorem fw_set {G : Gl} {w : Wd} {σ : Mem} {k j : Nat} {v : Int32} (hk : k < w.1) : (fw G w σ).set k (gA G k, fcell G (w.2 k) (upd (σ k) j v)) = fw G w (mup σ k j v) := by
  apply List.ext_getElem?
  intro i
  by_cases hi : i = k
  · subst hi
    rw [List.getElem?_set_self (by simpa [fw] using hk), fw_get hk]
    simp [mup]
  · rw [List.getElem?_set_ne (Ne.symm hi)]
    by_cases h : i < w.1
    · rw [fw_get h, fw_get h]
      simp [mup, hi]
    · rw [List.getElem?_eq_none (by simpa [fw] using h), List.getElem?_eq_none (by simpa [fw] using h)]
theorem fw_D {G : Gl} {w : Wd} {σ : Mem} (hI : FI G w) : va_D (FA G w) (fw G w σ) := by
  refine ⟨fun i j p q hi hj h => ?_, fun k q hk => ?_⟩
  · obtain ⟨a1, a2⟩ := fw_some hi
    obtain ⟨b1, b2⟩ := fw_some hj
    exact hI i j a1 b1 (by rw [← a2, ← b2]; exact h)
  · obtain ⟨a1, a2⟩ := fw_some hk
    exact ⟨k, a1, a2⟩
theorem ffs_int {ad : Nat → Nat} {rs : List (Option Nat)} {f : Nat → Int32} {j : Nat} (h : rs[j]? = some none) : (ffs ad rs f)[j]? = some (.int (f j)) := by
  simp [ffs, List.getElem?_mapIdx, h]
theorem ffs_ref {ad : Nat → Nat} {rs : List (Option Nat)} {f : Nat → Int32} {j k : Nat} (h : rs[j]? = some (some k)) : (ffs ad rs f)[j]? = some (.ref (ad k)) := by
  simp [ffs, List.getElem?_mapIdx, h]
theorem ffs_set {ad : Nat → Nat} {rs : List (Option Nat)} {f : Nat → Int32} {j : Nat} {v : Int32} (h : rs[j]? = some none) : (ffs ad rs f).set j (.int v) = ffs ad rs (upd f j v) := by
  have hl : j < rs.length := (List.getElem?_eq_some_iff.mp h).1
  apply List.ext_getElem?
  intro i
  by_cases hi : i = j
  · subst hi
    rw [List.getElem?_set_self (by simpa [ffs] using hl), ffs_int h]
    simp [upd]
  · rw [List.getElem?_set_ne (Ne.symm hi)]
    simp only [ffs, List.getElem?_mapIdx]
    cases hr : rs[i]? with
    | none => rfl
    | some r => cases r <;> simp [upd, hi]
theorem ffs_len {ad : Nat → Nat} {rs : List (Option Nat)} {f : Nat → Int32} : (ffs ad rs f).length = rs.length := by simp [ffs]

def CX (p : Program) (s : State) (m : MethodId) (args : Array Value) (own : String) (G : Gl) (w : Wd) : Prop :=
  p.tables.exec = Jvm.exec ∧ s.vm.findClass own = some m.cls ∧ (∀ x ∈ tbl, x.before args s = true) ∧ FK G s ∧ FI G w
def MX (p : Program) (s : State) (m : MethodId) (args : Array Value) (meth : Method) (c : Code) (own : String) (G : Gl) (w : Wd) (cc : ByteArray) (nL : Nat) (ret : Option FieldType) : Prop :=
  CX p s m args own G w ∧ c.code = cc ∧ c.maxLocals = nL ∧ meth.sig.returnType = ret ∧ meth.locks = false
def FQ (G : Gl) (w : Wd) (σ' : Mem) (v : Option Value) : Array Value → State → Outcome → State → Prop := fun _ st oc t => oc = .returned v ∧ (va_P (gD G) vwCl (fw G w σ') t.heap ∧ FK G t) ∧ va_F (FA G w) st t
def FP (G : Gl) (w : Wd) (as : List Value) (σ : Mem) : Array Value → State → Prop := fun a U => a = as.toArray ∧ va_P (gD G) vwCl (fw G w σ) U.heap ∧ FK G U
def Ct (l : Launch) (G : Gl) (w : Wd) (y : MethodName) (bytes : ByteArray) (maxL : Nat) (ret : Option FieldType) (rm : Room) (as : List Value) (σ : Mem) (v : Option Value) (σ' : Mem) : Prop :=
  Met l y (Cond.code y bytes maxL ret :: tbl) rm (FP G w as σ) (FQ G w σ' v) 0 0 (FA G w)
abbrev WG (p : Program) (l : Launch) (e : Env) (R : Room) (s : State) (m : MethodId) (args : Array Value) (below : List Frame) (meth : Method) (c : Code) (G : Gl) (w : Wd) (v : Option Value) (σ' : Mem) (H : Heap) (locs : List Loc) (pc : Nat) (ls : Array Slot) (st : List Value) : Prop :=
  W p l e R s m args below meth c H locs 0 0 (MQ below (FQ G w σ' v) args s 0 0 (FA G w)) (F0 m pc ls st)
theorem FP_blind {G : Gl} {w : Wd} {as : List Value} {σ : Mem} : FrameBlind (FP G w as σ) := fun a U g mk q => ⟨q.1, q.2.1, va_K.moved (u := U) (U := U.calling g mk a) (Vm.Alike.refl U.vm) q.2.2⟩

theorem fl_start {l : Launch} {G : Gl} {w : Wd} {y : MethodName} {bytes : ByteArray} {maxL : Nat} {ret : Option FieldType} {rm : Room} {as : List Value} {σ σ' : Mem} {v : Option Value} (hI : FI G w) (hy : plainName y.cls = true) (hn : (lg_sl as).length ≤ maxL)
    (body : ∀ (p : Program) (e : Env) (s : State) (m : MethodId) (below : List Frame) (meth : Method) (c : Code), MX p s m as.toArray meth c y.cls G w bytes maxL ret → FH G w s.heap s.heap [] σ → ∀ ls : Array Slot, lv_has ls maxL (lv_args 0 as) → WG p l e rm s m as.toArray below meth c G w v σ' s.heap [] 0 ls []) :
    Ct l G w y bytes maxL ret rm as σ v σ' := by
  refine Met.ofW (cc := bytes) (maxL := maxL) (ret := ret) hy rfl ?_
  intro p e s m args below meth c s₁ B hml hv
  obtain ⟨rfl, hP, hK⟩ := hv
  have hts := atoms_spec (ws := Cond.code y bytes maxL ret :: tbl) B.pre
  rw [lg_entry_eq]
  exact body p e s m below meth c ⟨⟨B.exec, findClass_of_methodNamed B.named, fun x hx => hts x (List.mem_cons_of_mem _ hx), hK, hI⟩, B.bytes, hml, B.returns, B.notSynchronized⟩ ⟨hP, va_S.rf⟩ _ (lv_entry as hn)

section FL
variable {p : Program} {l : Launch} {e : Env} {R : Room} {s : State} {m : MethodId} {args : Array Value} {below : List Frame} {meth : Method} {c : Code} {H H0 : Heap} {locs : List Loc} {cells slots : Nat} {Q : State → Prop}
variable {cc : ByteArray} {pc : Nat} {ls : Array Slot} {rest : List Value} {G : Gl} {w : Wd} {σ : Mem} {own : String} {k ci j index N n kd : Nat} {C : String} {T : u_T} {rs : List (Option Nat)} {tg : Nat → Nat}
theorem fl_geti (X : CX p s m args own G w) (hb : c.code = cc) (hF : FH G w H0 H locs σ) (hs : SH w k (.inl (ci, rs))) (hc : vwCl[ci]? = some (C, T, N)) (hj : j < N) (hin : ∀ x ∈ u_ws C T N, x ∈ tbl) (hl : Cond.fieldLink own index (T j).1 (T j).2.1 (T j).2.2.1 ∈ tbl) (hv : rs[j]? = some none) (hdg : decode cc pc = .ok (.getfield index, 3))
    (kk : W p l e R s m args below meth c H locs cells slots Q (F0 m (pc + 3) ls (.int (σ k j) :: rest))) : W p l e R s m args below meth c H locs cells slots Q (F0 m pc ls (.ref (gA G k) :: rest)) :=
  va_get X.1 hb X.2.2.1 hin X.2.1 X.2.2.2.1 hF.1 k (fs := ffs (gA G) rs (σ k)) (ci := ci) (by rw [fw_get hs.1, hs.2]; rfl) hc j hj (X.2.2.1 _ hl) (fun _ h => h) (ffs_int hv) hdg kk
theorem fl_getr {k2 : Nat} (X : CX p s m args own G w) (hb : c.code = cc) (hF : FH G w H0 H locs σ) (hs : SH w k (.inl (ci, rs))) (hc : vwCl[ci]? = some (C, T, N)) (hj : j < N) (hin : ∀ x ∈ u_ws C T N, x ∈ tbl) (hl : Cond.fieldLink own index (T j).1 (T j).2.1 (T j).2.2.1 ∈ tbl) (hv : rs[j]? = some (some k2)) (hdg : decode cc pc = .ok (.getfield index, 3))
    (kk : W p l e R s m args below meth c H locs cells slots Q (F0 m (pc + 3) ls (.ref (gA G k2) :: rest))) : W p l e R s m args below meth c H locs cells slots Q (F0 m pc ls (.ref (gA G k) :: rest)) :=
  va_get X.1 hb X.2.2.1 hin X.2.1 X.2.2.2.1 hF.1 k (fs := ffs (gA G) rs (σ k)) (ci := ci) (by rw [fw_get hs.1, hs.2]; rfl) hc j hj (X.2.2.1 _ hl) (fun _ h => h) (ffs_ref hv) hdg kk
theorem fl_puti {v : Int32} {ty : FieldType} (X : CX p s m args own G w) (hb : c.code = cc) (hF : FH G w H0 H locs σ) (hs : SH w k (.inl (ci, rs))) (hc : vwCl[ci]? = some (C, T, N)) (hj : j < N) (hin : ∀ x ∈ u_ws C T N, x ∈ tbl) (ty0 : Nat → FieldType) (hty : ∀ k, k < N → parseFieldDescriptor (T k).2.2.1 = some (ty0 k)) (hnm : ∀ a, a < N → ∀ b, b < N → a ≠ b → (T a).2.1 ≠ (T b).2.1) (hl : Cond.fieldLink own index (T j).1 (T j).2.1 (T j).2.2.1 ∈ tbl) (hfin : (T j).2.2.2 = false) (hd : parseFieldDescriptor (T j).2.2.1 = some ty) (hnr : narrow ty (.int v) = .int v) (hfit : fits ty (.int v) = true) (hv : rs[j]? = some none) (hdg : decode cc pc = .ok (.putfield index, 3))
    (kk : ∀ (H1 : Heap) (locs1 : List Loc), FH G w H0 H1 locs1 (mup σ k j v) → W p l e R s m args below meth c H1 locs1 cells slots Q (F0 m (pc + 3) ls rest)) : W p l e R s m args below meth c H locs cells slots Q (F0 m pc ls (.int v :: .ref (gA G k) :: rest)) := by
  have hg : (fw G w σ)[k]? = some (gA G k, .inr (ci, ffs (gA G) rs (σ k))) := by rw [fw_get hs.1, hs.2]; rfl
  refine va_put X.1 hb X.2.2.1 hin ty0 hty hnm X.2.1 X.2.2.2.1 hF.1 (fw_D X.2.2.2.2) hF.2 k hg hc j hj (X.2.2.1 _ hl) (fun _ h => h) hfin hd hnr hfit (by rw [ffs_len]; exact (List.getElem?_eq_some_iff.mp hv).1) hdg (fun H1 locs1 hP1 _ hS1 => kk H1 locs1 ⟨?_, hS1⟩)
  rw [ffs_set hv] at hP1
  rw [← fw_set hs.1, hs.2]
  exact hP1
theorem fl_iald (X : CX p s m args own G w) (hb : c.code = cc) (hF : FH G w H0 H locs σ) (hs : SH w k (.inr (0, n, tg))) {i : Int32} (hi : ¬ (i < 0 ∨ n ≤ i.toNatClampNeg)) (hdg : decode cc pc = .ok (.iaload, 1))
    (kk : W p l e R s m args below meth c H locs cells slots Q (F0 m (pc + 1) ls (.int (σ k i.toNatClampNeg) :: rest))) : W p l e R s m args below meth c H locs cells slots Q (F0 m pc ls (.int i :: .ref (gA G k) :: rest)) :=
  va_iald X.1 hb X.2.2.2.1 hF.1 k 0 (n := n) (f := σ k) (by rw [fw_get hs.1, hs.2]; rfl) rfl hi hdg kk
theorem fl_zald (X : CX p s m args own G w) (hb : c.code = cc) (hF : FH G w H0 H locs σ) (hs : SH w k (.inr (1, n, tg))) {i : Int32} (hi : ¬ (i < 0 ∨ n ≤ i.toNatClampNeg)) (hdg : decode cc pc = .ok (.baload, 1))
    (kk : W p l e R s m args below meth c H locs cells slots Q (F0 m (pc + 1) ls (.int (σ k i.toNatClampNeg) :: rest))) : W p l e R s m args below meth c H locs cells slots Q (F0 m pc ls (.int i :: .ref (gA G k) :: rest)) :=
  va_zald X.1 hb X.2.2.2.1 hF.1 k 1 (n := n) (f := σ k) (by rw [fw_get hs.1, hs.2]; rfl) rfl hi hdg kk
theorem fl_aaldH (X : CX p s m args own G w) (hb : c.code = cc) (hF : FH G w H0 H locs σ) (hs : SH w k (.inr (2, n, tg))) {i : Int32} (hi : ¬ (i < 0 ∨ n ≤ i.toNatClampNeg)) (hdg : decode cc pc = .ok (.aaload, 1))
    (kk : W p l e R s m args below meth c H locs cells slots Q (F0 m (pc + 1) ls (.ref (gA G (tg i.toNatClampNeg)) :: rest))) : W p l e R s m args below meth c H locs cells slots Q (F0 m pc ls (.int i :: .ref (gA G k) :: rest)) :=
  va_aldq X.1 hb X.2.2.2.1 hF.1 k 2 (n := n) (f := fun i => some (gA G (tg i))) (by rw [fw_get hs.1, hs.2]; rfl) rfl hi hdg kk
theorem fl_aaldC (X : CX p s m args own G w) (hb : c.code = cc) (hF : FH G w H0 H locs σ) (hs : SH w k (.inr (3, n, tg))) {i : Int32} (hi : ¬ (i < 0 ∨ n ≤ i.toNatClampNeg)) (hdg : decode cc pc = .ok (.aaload, 1))
    (kk : W p l e R s m args below meth c H locs cells slots Q (F0 m (pc + 1) ls (.ref (gA G (tg i.toNatClampNeg)) :: rest))) : W p l e R s m args below meth c H locs cells slots Q (F0 m pc ls (.int i :: .ref (gA G k) :: rest)) :=
  va_aldq X.1 hb X.2.2.2.1 hF.1 k 3 (n := n) (f := fun i => some (gA G (tg i))) (by rw [fw_get hs.1, hs.2]; rfl) rfl hi hdg kk
theorem fl_iast (X : CX p s m args own G w) (hb : c.code = cc) (hF : FH G w H0 H locs σ) (hs : SH w k (.inr (0, n, tg))) {i x : Int32} (hi : ¬ (i < 0 ∨ n ≤ i.toNatClampNeg)) (hdg : decode cc pc = .ok (.iastore, 1))
    (kk : ∀ (H1 : Heap) (locs1 : List Loc), FH G w H0 H1 locs1 (mup σ k i.toNatClampNeg x) → W p l e R s m args below meth c H1 locs1 cells slots Q (F0 m (pc + 1) ls rest)) : W p l e R s m args below meth c H locs cells slots Q (F0 m pc ls (.int x :: .int i :: .ref (gA G k) :: rest)) := by
  refine va_iast X.1 hb X.2.2.2.1 hF.1 (fw_D X.2.2.2.2) hF.2 k 0 (n := n) (f := σ k) (cA := G.2.2.1 0) (by rw [fw_get hs.1, hs.2]; rfl) rfl hi hdg (fun H1 locs1 hP1 _ hS1 => kk H1 locs1 ⟨?_, hS1⟩)
  rw [← fw_set hs.1, hs.2]
  exact hP1
theorem fl_zast (X : CX p s m args own G w) (hb : c.code = cc) (hF : FH G w H0 H locs σ) (hs : SH w k (.inr (1, n, tg))) {i x : Int32} (hi : ¬ (i < 0 ∨ n ≤ i.toNatClampNeg)) (hx : vp_nar .boolean x = x) (hdg : decode cc pc = .ok (.bastore, 1))
    (kk : ∀ (H1 : Heap) (locs1 : List Loc), FH G w H0 H1 locs1 (mup σ k i.toNatClampNeg x) → W p l e R s m args below meth c H1 locs1 cells slots Q (F0 m (pc + 1) ls rest)) : W p l e R s m args below meth c H locs cells slots Q (F0 m pc ls (.int x :: .int i :: .ref (gA G k) :: rest)) := by
  refine va_zast X.1 hb X.2.2.2.1 hF.1 (fw_D X.2.2.2.2) hF.2 k 1 (n := n) (f := σ k) (cA := G.2.2.1 1) (by rw [fw_get hs.1, hs.2]; rfl) rfl hi hdg (fun H1 locs1 hP1 _ hS1 => kk H1 locs1 ⟨?_, hS1⟩)
  rw [hx] at hP1
  rw [← fw_set hs.1, hs.2]
  exact hP1
theorem fl_iret {v : Int32} (X : CX p s m args own G w) (hb : c.code = cc) (hr : meth.sig.returnType = some .int) (hlk : meth.locks = false) (hF : FH G w s.heap H locs σ) (hdg : decode cc pc = .ok (.ireturn, 1)) : WG p l e R s m args below meth c G w (some (.int v)) σ H locs pc ls [.int v] :=
  W.iret X.1 hb hr (fun t ht hW => ⟨rfl, ⟨by rw [ht]; exact hF.1, va_K.moved hW.alike X.2.2.2.1⟩, hF.2.F ht⟩) hF.2.2.2 hdg (hlocks := hlk)
theorem fl_zret {v : Int32} (X : CX p s m args own G w) (hb : c.code = cc) (hr : meth.sig.returnType = some .boolean) (hlk : meth.locks = false) (hF : FH G w s.heap H locs σ) (hv : v = 0 ∨ v = 1) (hdg : decode cc pc = .ok (.ireturn, 1)) : WG p l e R s m args below meth c G w (some (.int v)) σ H locs pc ls [.int v] :=
  W.zret X.1 hb hr (by rcases hv with rfl | rfl <;> rfl) (fun t ht hW => ⟨rfl, ⟨by rw [ht]; exact hF.1, va_K.moved hW.alike X.2.2.2.1⟩, hF.2.F ht⟩) hF.2.2.2 hdg (hlocks := hlk)
theorem fl_vret (X : CX p s m args own G w) (hb : c.code = cc) (hr : meth.sig.returnType = none) (hlk : meth.locks = false) (hF : FH G w s.heap H locs σ) (hdg : decode cc pc = .ok (.return_, 1)) : WG p l e R s m args below meth c G w none σ H locs pc ls [] :=
  W.vret X.1 hb hr (fun t ht hW => ⟨rfl, ⟨by rw [ht]; exact hF.1, va_K.moved hW.alike X.2.2.2.1⟩, hF.2.F ht⟩) hF.2.2.2 hdg (hlocks := hlk)
theorem fl_aret {o : String} (X : CX p s m args own G w) (hb : c.code = cc) (hr : meth.sig.returnType = some (.object o)) (hlk : meth.locks = false) (hF : FH G w s.heap H locs σ) (hdg : decode cc pc = .ok (.areturn, 1)) : WG p l e R s m args below meth c G w (some (.ref (gA G k))) σ H locs pc ls [.ref (gA G k)] :=
  W.aret X.1 hb hr (Or.inl ⟨_, rfl⟩) (Or.inr ⟨_, rfl⟩) (fun t ht hW => ⟨rfl, ⟨by rw [ht]; exact hF.1, va_K.moved hW.alike X.2.2.2.1⟩, hF.2.F ht⟩) hF.2.2.2 hdg (hlocks := hlk)
variable {y : MethodName} {bytes : ByteArray} {maxL nL : Nat} {ret : Option FieldType} {rm : Room} {As st0 : List Value} {v : Option Value} {σ' : Mem} {a : Array Value}
theorem fl_call (hr : va_Run p l e R s m args below meth c H locs cells slots 0 0 (F0 m pc ls st0) rest (FQ G w σ' v a) (FA G w)) (hF : FH G w H0 H locs σ)
    (kk : ∀ (H1 : Heap) (locs1 : List Loc), FH G w H0 H1 locs1 σ' → W p l e R s m args below meth c H1 locs1 cells slots Q (F0 m (pc + 3) ls (v.toList ++ rest))) : W p l e R s m args below meth c H locs cells slots Q (F0 m pc ls st0) := by
  intro T hT X
  obtain ⟨v', st₀, t, T', L, h0, X', hL, e1, e2, ⟨hv, ⟨hP, hK⟩, hz, hk⟩, st⟩ := hr T hT X
  cases hv
  rw [h0] at hz hk
  have hS := hF.2
  obtain ⟨t2, a1, b1⟩ := kk T'.heap (locs ++ L) ⟨by rw [e1]; exact hP, Nat.le_trans hS.1 (by rw [e1]; exact hz), fun q h1 h2 => by rw [e1, hk q (Nat.lt_of_lt_of_le h1 hS.1) h2]; exact hS.2.1 q h1 h2, fun q hq => by
      rcases List.mem_append.mp hq with h | h
      · exact hS.2.2 q h
      · exact hL q h⟩ T' rfl X'
  exact ⟨t2, st t2 a1, b1⟩
theorem fl_callV (X : CX p s m args own G w) (hb : c.code = cc) (hml : c.maxLocals = nL) (hF : FH G w H0 H locs σ) (hM : Ct l G w y bytes maxL ret rm (.ref (gA G k) :: As) σ v σ') (hs : SH w k (.inl (ci, rs))) (hc : vwCl[ci]? = some (C, T, N))
    (h1 : Cond.methodLink own index y ∈ tbl) (h2 : Cond.instanceMethod y ∈ tbl) (h3 : Cond.selects C y y ∈ tbl) (h4 : Cond.initialized y.cls ∈ tbl) (h5 : Cond.code y bytes maxL ret ∈ tbl)
    (hd : y.cls ≠ "java/lang/invoke/MethodHandle" ∧ y.cls ≠ "java/lang/invoke/VarHandle" ∧ (parseMethodDescriptor y.desc).map (fun d => d.parameters.length) = some n) (hrc : rm.cells = 0) (hrs : rm.slots = 0) (hR : rm.frames + 1 ≤ R.frames ∧ 8 + (maxL + 11) + rm.locals ≤ R.locals) (hf : cells ≤ R.cells ∧ slots ≤ R.slots)
    (hn : As.length = n) (hl : ls.size = nL) (hst : st0 = As.reverse ++ .ref (gA G k) :: rest) (hW : (rest.map fun v => v.category).sum ≤ 8) (hdg : decode cc pc = .ok (.invokevirtual index, 3))
    (kk : ∀ (H1 : Heap) (locs1 : List Loc), FH G w H0 H1 locs1 σ' → W p l e R s m args below meth c H1 locs1 cells slots Q (F0 m (pc + 3) ls (v.toList ++ rest))) : W p l e R s m args below meth c H locs cells slots Q (F0 m pc ls st0) :=
  fl_call (va_runV (Ts := tbl) (C := C) (b := gA G k) (As := As) (rest := rest) ⟨X.1, hb, hml, X.2.1, X.2.2.1⟩ hM ⟨callB_of n X.2.2.1 (tbl_cons h5) rfl hrc hrs (X.2.2.1 _ h4) (X.2.2.1 _ h1) hd hR, X.2.2.1 _ h2, X.2.2.1 _ h3⟩
    ⟨FP_blind, va_recv X.2.2.2.1 hF.1 hc (q0 := k) (fs := ffs (gA G) rs (σ k)) (by rw [fw_get hs.1, hs.2]; rfl), fun U hU hW => ⟨rfl, by rw [hU]; exact hF.1, va_K.moved hW.alike X.2.2.2.1⟩⟩ rfl hn hl hst (lv_room hW) hdg hf) hF kk
theorem fl_callS (X : CX p s m args own G w) (hb : c.code = cc) (hml : c.maxLocals = nL) (hF : FH G w H0 H locs σ) (hM : Ct l G w y bytes maxL ret rm As σ v σ')
    (h1 : Cond.methodLink own index y ∈ tbl) (h2 : Cond.static y ∈ tbl) (h4 : Cond.initialized y.cls ∈ tbl) (h5 : Cond.code y bytes maxL ret ∈ tbl)
    (hd : y.cls ≠ "java/lang/invoke/MethodHandle" ∧ y.cls ≠ "java/lang/invoke/VarHandle" ∧ (parseMethodDescriptor y.desc).map (fun d => d.parameters.length) = some n) (hrc : rm.cells = 0) (hrs : rm.slots = 0) (hR : rm.frames + 1 ≤ R.frames ∧ 8 + (maxL + 11) + rm.locals ≤ R.locals) (hf : cells ≤ R.cells ∧ slots ≤ R.slots)
    (hn : As.length = n) (hl : ls.size = nL) (hst : st0 = As.reverse ++ rest) (hW : (rest.map fun v => v.category).sum ≤ 8) (hdg : decode cc pc = .ok (.invokestatic index, 3))
    (kk : ∀ (H1 : Heap) (locs1 : List Loc), FH G w H0 H1 locs1 σ' → W p l e R s m args below meth c H1 locs1 cells slots Q (F0 m (pc + 3) ls (v.toList ++ rest))) : W p l e R s m args below meth c H locs cells slots Q (F0 m pc ls st0) :=
  fl_call (va_runS (Ts := tbl) (As := As) (rest := rest) ⟨X.1, hb, hml, X.2.1, X.2.2.1⟩ hM ⟨callB_of n X.2.2.1 (tbl_cons h5) rfl hrc hrs (X.2.2.1 _ h4) (X.2.2.1 _ h1) hd hR, X.2.2.1 _ h2⟩
    ⟨FP_blind, fun U hU hW => ⟨rfl, by rw [hU]; exact hF.1, va_K.moved hW.alike X.2.2.2.1⟩⟩ rfl hn hl hst (lv_room hW) hdg hf) hF kk
end FL
/-! what a pure picture of a method may be: nothing where the machine would throw -/
def grd {α : Type} (q : Prop) [Decidable q] (x : Option α) : Option α := if q then x else none
def bi {α : Type} (x : Option Int32) (k : Int32 → Option α) : Option α := match x with | none => none | some r => k r
def bk {α : Type} (x : Option Nat) (k : Nat → Option α) : Option α := match x with | none => none | some r => k r
def bv {α : Type} (x : Option Mem) (k : Mem → Option α) : Option α := match x with | none => none | some r => k r
def bm {α : Type} (x : Option (Int32 × Mem)) (k : Int32 → Mem → Option α) : Option α := match x with | none => none | some r => k r.1 r.2
theorem grd_some {α : Type} {q : Prop} [Decidable q] {x : Option α} {r : α} (h : grd q x = some r) : q ∧ x = some r := by
  unfold grd at h
  split at h
  · exact ⟨by assumption, h⟩
  · cases h
theorem bi_some {α : Type} {x : Option Int32} {k : Int32 → Option α} {r : α} (h : bi x k = some r) : ∃ z, x = some z ∧ k z = some r := by
  cases x with
  | none => cases h
  | some z => exact ⟨z, rfl, h⟩
theorem bk_some {α : Type} {x : Option Nat} {k : Nat → Option α} {r : α} (h : bk x k = some r) : ∃ z, x = some z ∧ k z = some r := by
  cases x with
  | none => cases h
  | some z => exact ⟨z, rfl, h⟩
theorem bv_some {α : Type} {x : Option Mem} {k : Mem → Option α} {r : α} (h : bv x k = some r) : ∃ z, x = some z ∧ k z = some r := by
  cases x with
  | none => cases h
  | some z => exact ⟨z, rfl, h⟩
theorem bm_some {α : Type} {x : Option (Int32 × Mem)} {k : Int32 → Mem → Option α} {r : α} (h : bm x k = some r) : ∃ z τ, x = some (z, τ) ∧ k z τ = some r := by
  cases x with
  | none => cases h
  | some z => exact ⟨z.1, z.2, rfl, h⟩
def FU : Nat := 1000
end
