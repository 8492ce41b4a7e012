theorem dX0_init_0 : decode cX0_init 0 = .ok (.aload_n 0, 1) := by decide +kernel
theorem dX0_init_1 : decode cX0_init 1 = .ok (.invokespecial 3, 3) := by decide +kernel
theorem dX0_init_4 : decode cX0_init 4 = .ok (.aload_n 0, 1) := by decide +kernel
theorem dX0_init_5 : decode cX0_init 5 = .ok (.iconst 4, 1) := by decide +kernel
theorem dX0_init_6 : decode cX0_init 6 = .ok (.anewarray 9, 3) := by decide +kernel
theorem dX0_init_9 : decode cX0_init 9 = .ok (.putfield 11, 3) := by decide +kernel
theorem dX0_init_12 : decode cX0_init 12 = .ok (.iconst 0, 1) := by decide +kernel
theorem dX0_init_13 : decode cX0_init 13 = .ok (.istore_n 1, 1) := by decide +kernel
theorem dX0_init_14 : decode cX0_init 14 = .ok (.iload_n 1, 1) := by decide +kernel
theorem dX0_init_15 : decode cX0_init 15 = .ok (.iconst 4, 1) := by decide +kernel
theorem dX0_init_16 : decode cX0_init 16 = .ok (.if_icmp .ge 22, 3) := by decide +kernel
theorem dX0_init_19 : decode cX0_init 19 = .ok (.aload_n 0, 1) := by decide +kernel
theorem dX0_init_20 : decode cX0_init 20 = .ok (.getfield 11, 3) := by decide +kernel
theorem dX0_init_23 : decode cX0_init 23 = .ok (.iload_n 1, 1) := by decide +kernel
theorem dX0_init_24 : decode cX0_init 24 = .ok (.new 9, 3) := by decide +kernel
theorem dX0_init_27 : decode cX0_init 27 = .ok (.dup, 1) := by decide +kernel
theorem dX0_init_28 : decode cX0_init 28 = .ok (.invokespecial 17, 3) := by decide +kernel
theorem dX0_init_31 : decode cX0_init 31 = .ok (.aastore, 1) := by decide +kernel
theorem dX0_init_32 : decode cX0_init 32 = .ok (.iinc 1 1, 3) := by decide +kernel
theorem dX0_init_35 : decode cX0_init 35 = .ok (.goto (-21), 3) := by decide +kernel
theorem dX0_init_38 : decode cX0_init 38 = .ok (.aload_n 0, 1) := by decide +kernel
theorem dX0_init_39 : decode cX0_init 39 = .ok (.iconst 0, 1) := by decide +kernel
theorem dX0_init_40 : decode cX0_init 40 = .ok (.putfield 18, 3) := by decide +kernel
theorem dX0_init_43 : decode cX0_init 43 = .ok (.aload_n 0, 1) := by decide +kernel
theorem dX0_init_44 : decode cX0_init 44 = .ok (.iconst 0, 1) := by decide +kernel
theorem dX0_init_45 : decode cX0_init 45 = .ok (.putfield 22, 3) := by decide +kernel
theorem dX0_init_48 : decode cX0_init 48 = .ok (.return_, 1) := by decide +kernel
theorem dX0_empty_0 : decode cX0_empty 0 = .ok (.iconst 0, 1) := by decide +kernel
theorem dX0_empty_1 : decode cX0_empty 1 = .ok (.istore_n 1, 1) := by decide +kernel
theorem dX0_empty_2 : decode cX0_empty 2 = .ok (.iload_n 1, 1) := by decide +kernel
theorem dX0_empty_3 : decode cX0_empty 3 = .ok (.iconst 4, 1) := by decide +kernel
theorem dX0_empty_4 : decode cX0_empty 4 = .ok (.if_icmp .ge 18, 3) := by decide +kernel
theorem dX0_empty_7 : decode cX0_empty 7 = .ok (.aload_n 0, 1) := by decide +kernel
theorem dX0_empty_8 : decode cX0_empty 8 = .ok (.getfield 11, 3) := by decide +kernel
theorem dX0_empty_11 : decode cX0_empty 11 = .ok (.iload_n 1, 1) := by decide +kernel
theorem dX0_empty_12 : decode cX0_empty 12 = .ok (.aaload, 1) := by decide +kernel
theorem dX0_empty_13 : decode cX0_empty 13 = .ok (.invokevirtual 25, 3) := by decide +kernel
theorem dX0_empty_16 : decode cX0_empty 16 = .ok (.iinc 1 1, 3) := by decide +kernel
theorem dX0_empty_19 : decode cX0_empty 19 = .ok (.goto (-17), 3) := by decide +kernel
theorem dX0_empty_22 : decode cX0_empty 22 = .ok (.aload_n 0, 1) := by decide +kernel
theorem dX0_empty_23 : decode cX0_empty 23 = .ok (.iconst 0, 1) := by decide +kernel
theorem dX0_empty_24 : decode cX0_empty 24 = .ok (.putfield 18, 3) := by decide +kernel
theorem dX0_empty_27 : decode cX0_empty 27 = .ok (.aload_n 0, 1) := by decide +kernel
theorem dX0_empty_28 : decode cX0_empty 28 = .ok (.iconst 0, 1) := by decide +kernel
theorem dX0_empty_29 : decode cX0_empty 29 = .ok (.putfield 22, 3) := by decide +kernel
theorem dX0_empty_32 : decode cX0_empty 32 = .ok (.return_, 1) := by decide +kernel
theorem dX0_copy_0 : decode cX0_copy 0 = .ok (.iconst 0, 1) := by decide +kernel
theorem dX0_copy_1 : decode cX0_copy 1 = .ok (.istore_n 2, 1) := by decide +kernel
theorem dX0_copy_2 : decode cX0_copy 2 = .ok (.iload_n 2, 1) := by decide +kernel
theorem dX0_copy_3 : decode cX0_copy 3 = .ok (.iconst 4, 1) := by decide +kernel
theorem dX0_copy_4 : decode cX0_copy 4 = .ok (.if_icmp .ge 24, 3) := by decide +kernel
theorem dX0_copy_7 : decode cX0_copy 7 = .ok (.aload_n 0, 1) := by decide +kernel
theorem dX0_copy_8 : decode cX0_copy 8 = .ok (.getfield 11, 3) := by decide +kernel
theorem dX0_copy_11 : decode cX0_copy 11 = .ok (.iload_n 2, 1) := by decide +kernel
theorem dX0_copy_12 : decode cX0_copy 12 = .ok (.aaload, 1) := by decide +kernel
theorem dX0_copy_13 : decode cX0_copy 13 = .ok (.aload_n 1, 1) := by decide +kernel
theorem dX0_copy_14 : decode cX0_copy 14 = .ok (.getfield 11, 3) := by decide +kernel
theorem dX0_copy_17 : decode cX0_copy 17 = .ok (.iload_n 2, 1) := by decide +kernel
theorem dX0_copy_18 : decode cX0_copy 18 = .ok (.aaload, 1) := by decide +kernel
theorem dX0_copy_19 : decode cX0_copy 19 = .ok (.invokevirtual 28, 3) := by decide +kernel
theorem dX0_copy_22 : decode cX0_copy 22 = .ok (.iinc 2 1, 3) := by decide +kernel
theorem dX0_copy_25 : decode cX0_copy 25 = .ok (.goto (-23), 3) := by decide +kernel
theorem dX0_copy_28 : decode cX0_copy 28 = .ok (.aload_n 0, 1) := by decide +kernel
theorem dX0_copy_29 : decode cX0_copy 29 = .ok (.aload_n 1, 1) := by decide +kernel
theorem dX0_copy_30 : decode cX0_copy 30 = .ok (.getfield 18, 3) := by decide +kernel
theorem dX0_copy_33 : decode cX0_copy 33 = .ok (.putfield 18, 3) := by decide +kernel
theorem dX0_copy_36 : decode cX0_copy 36 = .ok (.aload_n 0, 1) := by decide +kernel
theorem dX0_copy_37 : decode cX0_copy 37 = .ok (.aload_n 1, 1) := by decide +kernel
theorem dX0_copy_38 : decode cX0_copy 38 = .ok (.getfield 22, 3) := by decide +kernel
theorem dX0_copy_41 : decode cX0_copy 41 = .ok (.putfield 22, 3) := by decide +kernel
theorem dX0_copy_44 : decode cX0_copy 44 = .ok (.return_, 1) := by decide +kernel
theorem dX0_hasHouse_0 : decode cX0_hasHouse 0 = .ok (.iload_n 1, 1) := by decide +kernel
theorem dX0_hasHouse_1 : decode cX0_hasHouse 1 = .ok (.ifCond .lt 15, 3) := by decide +kernel
theorem dX0_hasHouse_4 : decode cX0_hasHouse 4 = .ok (.iload_n 1, 1) := by decide +kernel
theorem dX0_hasHouse_5 : decode cX0_hasHouse 5 = .ok (.aload_n 0, 1) := by decide +kernel
theorem dX0_hasHouse_6 : decode cX0_hasHouse 6 = .ok (.getfield 18, 3) := by decide +kernel
theorem dX0_hasHouse_9 : decode cX0_hasHouse 9 = .ok (.if_icmp .ge 7, 3) := by decide +kernel
theorem dX0_hasHouse_12 : decode cX0_hasHouse 12 = .ok (.iconst 1, 1) := by decide +kernel
theorem dX0_hasHouse_13 : decode cX0_hasHouse 13 = .ok (.goto 4, 3) := by decide +kernel
theorem dX0_hasHouse_16 : decode cX0_hasHouse 16 = .ok (.iconst 0, 1) := by decide +kernel
theorem dX0_hasHouse_17 : decode cX0_hasHouse 17 = .ok (.ireturn, 1) := by decide +kernel
theorem dX0_hasEntry_0 : decode cX0_hasEntry 0 = .ok (.aload_n 0, 1) := by decide +kernel
theorem dX0_hasEntry_1 : decode cX0_hasEntry 1 = .ok (.iload_n 1, 1) := by decide +kernel
theorem dX0_hasEntry_2 : decode cX0_hasEntry 2 = .ok (.invokevirtual 32, 3) := by decide +kernel
theorem dX0_hasEntry_5 : decode cX0_hasEntry 5 = .ok (.ifCond .eq 24, 3) := by decide +kernel
theorem dX0_hasEntry_8 : decode cX0_hasEntry 8 = .ok (.iload_n 2, 1) := by decide +kernel
theorem dX0_hasEntry_9 : decode cX0_hasEntry 9 = .ok (.ifCond .lt 20, 3) := by decide +kernel
theorem dX0_hasEntry_12 : decode cX0_hasEntry 12 = .ok (.iload_n 2, 1) := by decide +kernel
theorem dX0_hasEntry_13 : decode cX0_hasEntry 13 = .ok (.aload_n 0, 1) := by decide +kernel
theorem dX0_hasEntry_14 : decode cX0_hasEntry 14 = .ok (.getfield 11, 3) := by decide +kernel
theorem dX0_hasEntry_17 : decode cX0_hasEntry 17 = .ok (.iload_n 1, 1) := by decide +kernel
theorem dX0_hasEntry_18 : decode cX0_hasEntry 18 = .ok (.aaload, 1) := by decide +kernel
theorem dX0_hasEntry_19 : decode cX0_hasEntry 19 = .ok (.getfield 36, 3) := by decide +kernel
theorem dX0_hasEntry_22 : decode cX0_hasEntry 22 = .ok (.if_icmp .ge 7, 3) := by decide +kernel
theorem dX0_hasEntry_25 : decode cX0_hasEntry 25 = .ok (.iconst 1, 1) := by decide +kernel
theorem dX0_hasEntry_26 : decode cX0_hasEntry 26 = .ok (.goto 4, 3) := by decide +kernel
theorem dX0_hasEntry_29 : decode cX0_hasEntry 29 = .ok (.iconst 0, 1) := by decide +kernel
theorem dX0_hasEntry_30 : decode cX0_hasEntry 30 = .ok (.ireturn, 1) := by decide +kernel
theorem dX0_latest_0 : decode cX0_latest 0 = .ok (.aload_n 0, 1) := by decide +kernel
theorem dX0_latest_1 : decode cX0_latest 1 = .ok (.getfield 11, 3) := by decide +kernel
theorem dX0_latest_4 : decode cX0_latest 4 = .ok (.aload_n 0, 1) := by decide +kernel
theorem dX0_latest_5 : decode cX0_latest 5 = .ok (.getfield 18, 3) := by decide +kernel
theorem dX0_latest_8 : decode cX0_latest 8 = .ok (.ifCond .le 12, 3) := by decide +kernel
theorem dX0_latest_11 : decode cX0_latest 11 = .ok (.aload_n 0, 1) := by decide +kernel
theorem dX0_latest_12 : decode cX0_latest 12 = .ok (.getfield 18, 3) := by decide +kernel
theorem dX0_latest_15 : decode cX0_latest 15 = .ok (.iconst 1, 1) := by decide +kernel
theorem dX0_latest_16 : decode cX0_latest 16 = .ok (.isub, 1) := by decide +kernel
theorem dX0_latest_17 : decode cX0_latest 17 = .ok (.goto 4, 3) := by decide +kernel
theorem dX0_latest_20 : decode cX0_latest 20 = .ok (.iconst 0, 1) := by decide +kernel
theorem dX0_latest_21 : decode cX0_latest 21 = .ok (.aaload, 1) := by decide +kernel
theorem dX0_latest_22 : decode cX0_latest 22 = .ok (.areturn, 1) := by decide +kernel
theorem dX0_entriesLeft_0 : decode cX0_entriesLeft 0 = .ok (.iconst 0, 1) := by decide +kernel
theorem dX0_entriesLeft_1 : decode cX0_entriesLeft 1 = .ok (.istore_n 1, 1) := by decide +kernel
theorem dX0_entriesLeft_2 : decode cX0_entriesLeft 2 = .ok (.iconst 0, 1) := by decide +kernel
theorem dX0_entriesLeft_3 : decode cX0_entriesLeft 3 = .ok (.istore_n 2, 1) := by decide +kernel
theorem dX0_entriesLeft_4 : decode cX0_entriesLeft 4 = .ok (.iload_n 2, 1) := by decide +kernel
theorem dX0_entriesLeft_5 : decode cX0_entriesLeft 5 = .ok (.aload_n 0, 1) := by decide +kernel
theorem dX0_entriesLeft_6 : decode cX0_entriesLeft 6 = .ok (.getfield 18, 3) := by decide +kernel
theorem dX0_entriesLeft_9 : decode cX0_entriesLeft 9 = .ok (.if_icmp .ge 21, 3) := by decide +kernel
theorem dX0_entriesLeft_12 : decode cX0_entriesLeft 12 = .ok (.iload_n 1, 1) := by decide +kernel
theorem dX0_entriesLeft_13 : decode cX0_entriesLeft 13 = .ok (.aload_n 0, 1) := by decide +kernel
theorem dX0_entriesLeft_14 : decode cX0_entriesLeft 14 = .ok (.getfield 11, 3) := by decide +kernel
theorem dX0_entriesLeft_17 : decode cX0_entriesLeft 17 = .ok (.iload_n 2, 1) := by decide +kernel
theorem dX0_entriesLeft_18 : decode cX0_entriesLeft 18 = .ok (.aaload, 1) := by decide +kernel
theorem dX0_entriesLeft_19 : decode cX0_entriesLeft 19 = .ok (.invokevirtual 37, 3) := by decide +kernel
theorem dX0_entriesLeft_22 : decode cX0_entriesLeft 22 = .ok (.iadd, 1) := by decide +kernel
theorem dX0_entriesLeft_23 : decode cX0_entriesLeft 23 = .ok (.istore_n 1, 1) := by decide +kernel
theorem dX0_entriesLeft_24 : decode cX0_entriesLeft 24 = .ok (.iinc 2 1, 3) := by decide +kernel
theorem dX0_entriesLeft_27 : decode cX0_entriesLeft 27 = .ok (.goto (-23), 3) := by decide +kernel
theorem dX0_entriesLeft_30 : decode cX0_entriesLeft 30 = .ok (.iload_n 1, 1) := by decide +kernel
theorem dX0_entriesLeft_31 : decode cX0_entriesLeft 31 = .ok (.ireturn, 1) := by decide +kernel
theorem dX0_eventBits_0 : decode cX0_eventBits 0 = .ok (.iconst 0, 1) := by decide +kernel
theorem dX0_eventBits_1 : decode cX0_eventBits 1 = .ok (.istore_n 1, 1) := by decide +kernel
theorem dX0_eventBits_2 : decode cX0_eventBits 2 = .ok (.iconst 0, 1) := by decide +kernel
theorem dX0_eventBits_3 : decode cX0_eventBits 3 = .ok (.istore_n 2, 1) := by decide +kernel
theorem dX0_eventBits_4 : decode cX0_eventBits 4 = .ok (.iload_n 2, 1) := by decide +kernel
theorem dX0_eventBits_5 : decode cX0_eventBits 5 = .ok (.aload_n 0, 1) := by decide +kernel
theorem dX0_eventBits_6 : decode cX0_eventBits 6 = .ok (.getfield 18, 3) := by decide +kernel
theorem dX0_eventBits_9 : decode cX0_eventBits 9 = .ok (.if_icmp .ge 21, 3) := by decide +kernel
theorem dX0_eventBits_12 : decode cX0_eventBits 12 = .ok (.iload_n 1, 1) := by decide +kernel
theorem dX0_eventBits_13 : decode cX0_eventBits 13 = .ok (.aload_n 0, 1) := by decide +kernel
theorem dX0_eventBits_14 : decode cX0_eventBits 14 = .ok (.getfield 11, 3) := by decide +kernel
theorem dX0_eventBits_17 : decode cX0_eventBits 17 = .ok (.iload_n 2, 1) := by decide +kernel
theorem dX0_eventBits_18 : decode cX0_eventBits 18 = .ok (.aaload, 1) := by decide +kernel
theorem dX0_eventBits_19 : decode cX0_eventBits 19 = .ok (.invokevirtual 41, 3) := by decide +kernel
theorem dX0_eventBits_22 : decode cX0_eventBits 22 = .ok (.ior, 1) := by decide +kernel
theorem dX0_eventBits_23 : decode cX0_eventBits 23 = .ok (.istore_n 1, 1) := by decide +kernel
theorem dX0_eventBits_24 : decode cX0_eventBits 24 = .ok (.iinc 2 1, 3) := by decide +kernel
theorem dX0_eventBits_27 : decode cX0_eventBits 27 = .ok (.goto (-23), 3) := by decide +kernel
theorem dX0_eventBits_30 : decode cX0_eventBits 30 = .ok (.iload_n 1, 1) := by decide +kernel
theorem dX0_eventBits_31 : decode cX0_eventBits 31 = .ok (.ireturn, 1) := by decide +kernel
theorem dX0_housesThatHave_0 : decode cX0_housesThatHave 0 = .ok (.iconst 0, 1) := by decide +kernel
theorem dX0_housesThatHave_1 : decode cX0_housesThatHave 1 = .ok (.istore_n 2, 1) := by decide +kernel
theorem dX0_housesThatHave_2 : decode cX0_housesThatHave 2 = .ok (.iconst 0, 1) := by decide +kernel
theorem dX0_housesThatHave_3 : decode cX0_housesThatHave 3 = .ok (.istore_n 3, 1) := by decide +kernel
theorem dX0_housesThatHave_4 : decode cX0_housesThatHave 4 = .ok (.iload_n 3, 1) := by decide +kernel
theorem dX0_housesThatHave_5 : decode cX0_housesThatHave 5 = .ok (.aload_n 0, 1) := by decide +kernel
theorem dX0_housesThatHave_6 : decode cX0_housesThatHave 6 = .ok (.getfield 18, 3) := by decide +kernel
theorem dX0_housesThatHave_9 : decode cX0_housesThatHave 9 = .ok (.if_icmp .ge 28, 3) := by decide +kernel
theorem dX0_housesThatHave_12 : decode cX0_housesThatHave 12 = .ok (.aload_n 0, 1) := by decide +kernel
theorem dX0_housesThatHave_13 : decode cX0_housesThatHave 13 = .ok (.getfield 11, 3) := by decide +kernel
theorem dX0_housesThatHave_16 : decode cX0_housesThatHave 16 = .ok (.iload_n 3, 1) := by decide +kernel
theorem dX0_housesThatHave_17 : decode cX0_housesThatHave 17 = .ok (.aaload, 1) := by decide +kernel
theorem dX0_housesThatHave_18 : decode cX0_housesThatHave 18 = .ok (.iload_n 1, 1) := by decide +kernel
theorem dX0_housesThatHave_19 : decode cX0_housesThatHave 19 = .ok (.invokevirtual 44, 3) := by decide +kernel
theorem dX0_housesThatHave_22 : decode cX0_housesThatHave 22 = .ok (.ifCond .lt 9, 3) := by decide +kernel
theorem dX0_housesThatHave_25 : decode cX0_housesThatHave 25 = .ok (.iload_n 2, 1) := by decide +kernel
theorem dX0_housesThatHave_26 : decode cX0_housesThatHave 26 = .ok (.iconst 1, 1) := by decide +kernel
theorem dX0_housesThatHave_27 : decode cX0_housesThatHave 27 = .ok (.iload_n 3, 1) := by decide +kernel
theorem dX0_housesThatHave_28 : decode cX0_housesThatHave 28 = .ok (.ishl, 1) := by decide +kernel
theorem dX0_housesThatHave_29 : decode cX0_housesThatHave 29 = .ok (.ior, 1) := by decide +kernel
theorem dX0_housesThatHave_30 : decode cX0_housesThatHave 30 = .ok (.istore_n 2, 1) := by decide +kernel
theorem dX0_housesThatHave_31 : decode cX0_housesThatHave 31 = .ok (.iinc 3 1, 3) := by decide +kernel
theorem dX0_housesThatHave_34 : decode cX0_housesThatHave 34 = .ok (.goto (-30), 3) := by decide +kernel
theorem dX0_housesThatHave_37 : decode cX0_housesThatHave 37 = .ok (.iload_n 2, 1) := by decide +kernel
theorem dX0_housesThatHave_38 : decode cX0_housesThatHave 38 = .ok (.ireturn, 1) := by decide +kernel
theorem dX1_init_0 : decode cX1_init 0 = .ok (.aload_n 0, 1) := by decide +kernel
theorem dX1_init_1 : decode cX1_init 1 = .ok (.invokespecial 3, 3) := by decide +kernel
theorem dX1_init_4 : decode cX1_init 4 = .ok (.aload_n 0, 1) := by decide +kernel
theorem dX1_init_5 : decode cX1_init 5 = .ok (.iconst 0, 1) := by decide +kernel
theorem dX1_init_6 : decode cX1_init 6 = .ok (.putfield 9, 3) := by decide +kernel
theorem dX1_init_9 : decode cX1_init 9 = .ok (.aload_n 0, 1) := by decide +kernel
theorem dX1_init_10 : decode cX1_init 10 = .ok (.bipush 10, 2) := by decide +kernel
theorem dX1_init_12 : decode cX1_init 12 = .ok (.newarray .int, 2) := by decide +kernel
theorem dX1_init_14 : decode cX1_init 14 = .ok (.putfield 15, 3) := by decide +kernel
theorem dX1_init_17 : decode cX1_init 17 = .ok (.aload_n 0, 1) := by decide +kernel
theorem dX1_init_18 : decode cX1_init 18 = .ok (.bipush 10, 2) := by decide +kernel
theorem dX1_init_20 : decode cX1_init 20 = .ok (.newarray .int, 2) := by decide +kernel
theorem dX1_init_22 : decode cX1_init 22 = .ok (.putfield 19, 3) := by decide +kernel
theorem dX1_init_25 : decode cX1_init 25 = .ok (.aload_n 0, 1) := by decide +kernel
theorem dX1_init_26 : decode cX1_init 26 = .ok (.bipush 10, 2) := by decide +kernel
theorem dX1_init_28 : decode cX1_init 28 = .ok (.newarray .int, 2) := by decide +kernel
theorem dX1_init_30 : decode cX1_init 30 = .ok (.putfield 22, 3) := by decide +kernel
theorem dX1_init_33 : decode cX1_init 33 = .ok (.aload_n 0, 1) := by decide +kernel
theorem dX1_init_34 : decode cX1_init 34 = .ok (.bipush 10, 2) := by decide +kernel
theorem dX1_init_36 : decode cX1_init 36 = .ok (.newarray .int, 2) := by decide +kernel
theorem dX1_init_38 : decode cX1_init 38 = .ok (.putfield 25, 3) := by decide +kernel
theorem dX1_init_41 : decode cX1_init 41 = .ok (.return_, 1) := by decide +kernel
theorem dX1_add_0 : decode cX1_add 0 = .ok (.aload_n 0, 1) := by decide +kernel
theorem dX1_add_1 : decode cX1_add 1 = .ok (.getfield 9, 3) := by decide +kernel
theorem dX1_add_4 : decode cX1_add 4 = .ok (.bipush 10, 2) := by decide +kernel
theorem dX1_add_6 : decode cX1_add 6 = .ok (.if_icmp .lt 7, 3) := by decide +kernel
theorem dX1_add_9 : decode cX1_add 9 = .ok (.aload_n 0, 1) := by decide +kernel
theorem dX1_add_10 : decode cX1_add 10 = .ok (.invokevirtual 28, 3) := by decide +kernel
theorem dX1_add_13 : decode cX1_add 13 = .ok (.aload_n 0, 1) := by decide +kernel
theorem dX1_add_14 : decode cX1_add 14 = .ok (.getfield 15, 3) := by decide +kernel
theorem dX1_add_17 : decode cX1_add 17 = .ok (.aload_n 0, 1) := by decide +kernel
theorem dX1_add_18 : decode cX1_add 18 = .ok (.getfield 9, 3) := by decide +kernel
theorem dX1_add_21 : decode cX1_add 21 = .ok (.iload_n 1, 1) := by decide +kernel
theorem dX1_add_22 : decode cX1_add 22 = .ok (.iastore, 1) := by decide +kernel
theorem dX1_add_23 : decode cX1_add 23 = .ok (.aload_n 0, 1) := by decide +kernel
theorem dX1_add_24 : decode cX1_add 24 = .ok (.getfield 19, 3) := by decide +kernel
theorem dX1_add_27 : decode cX1_add 27 = .ok (.aload_n 0, 1) := by decide +kernel
theorem dX1_add_28 : decode cX1_add 28 = .ok (.getfield 9, 3) := by decide +kernel
theorem dX1_add_31 : decode cX1_add 31 = .ok (.iload_n 2, 1) := by decide +kernel
theorem dX1_add_32 : decode cX1_add 32 = .ok (.iastore, 1) := by decide +kernel
theorem dX1_add_33 : decode cX1_add 33 = .ok (.aload_n 0, 1) := by decide +kernel
theorem dX1_add_34 : decode cX1_add 34 = .ok (.getfield 22, 3) := by decide +kernel
theorem dX1_add_37 : decode cX1_add 37 = .ok (.aload_n 0, 1) := by decide +kernel
theorem dX1_add_38 : decode cX1_add 38 = .ok (.getfield 9, 3) := by decide +kernel
theorem dX1_add_41 : decode cX1_add 41 = .ok (.iload_n 3, 1) := by decide +kernel
theorem dX1_add_42 : decode cX1_add 42 = .ok (.iastore, 1) := by decide +kernel
theorem dX1_add_43 : decode cX1_add 43 = .ok (.aload_n 0, 1) := by decide +kernel
theorem dX1_add_44 : decode cX1_add 44 = .ok (.getfield 25, 3) := by decide +kernel
theorem dX1_add_47 : decode cX1_add 47 = .ok (.aload_n 0, 1) := by decide +kernel
theorem dX1_add_48 : decode cX1_add 48 = .ok (.getfield 9, 3) := by decide +kernel
theorem dX1_add_51 : decode cX1_add 51 = .ok (.iload 4, 2) := by decide +kernel
theorem dX1_add_53 : decode cX1_add 53 = .ok (.iastore, 1) := by decide +kernel
theorem dX1_add_54 : decode cX1_add 54 = .ok (.aload_n 0, 1) := by decide +kernel
theorem dX1_add_55 : decode cX1_add 55 = .ok (.dup, 1) := by decide +kernel
theorem dX1_add_56 : decode cX1_add 56 = .ok (.getfield 9, 3) := by decide +kernel
theorem dX1_add_59 : decode cX1_add 59 = .ok (.iconst 1, 1) := by decide +kernel
theorem dX1_add_60 : decode cX1_add 60 = .ok (.iadd, 1) := by decide +kernel
theorem dX1_add_61 : decode cX1_add 61 = .ok (.putfield 9, 3) := by decide +kernel
theorem dX1_add_64 : decode cX1_add 64 = .ok (.return_, 1) := by decide +kernel
theorem dX1_loseOldest_0 : decode cX1_loseOldest 0 = .ok (.iconst 1, 1) := by decide +kernel
theorem dX1_loseOldest_1 : decode cX1_loseOldest 1 = .ok (.istore_n 1, 1) := by decide +kernel
theorem dX1_loseOldest_2 : decode cX1_loseOldest 2 = .ok (.iload_n 1, 1) := by decide +kernel
theorem dX1_loseOldest_3 : decode cX1_loseOldest 3 = .ok (.bipush 10, 2) := by decide +kernel
theorem dX1_loseOldest_5 : decode cX1_loseOldest 5 = .ok (.if_icmp .ge 65, 3) := by decide +kernel
theorem dX1_loseOldest_8 : decode cX1_loseOldest 8 = .ok (.aload_n 0, 1) := by decide +kernel
theorem dX1_loseOldest_9 : decode cX1_loseOldest 9 = .ok (.getfield 15, 3) := by decide +kernel
theorem dX1_loseOldest_12 : decode cX1_loseOldest 12 = .ok (.iload_n 1, 1) := by decide +kernel
theorem dX1_loseOldest_13 : decode cX1_loseOldest 13 = .ok (.iconst 1, 1) := by decide +kernel
theorem dX1_loseOldest_14 : decode cX1_loseOldest 14 = .ok (.isub, 1) := by decide +kernel
theorem dX1_loseOldest_15 : decode cX1_loseOldest 15 = .ok (.aload_n 0, 1) := by decide +kernel
theorem dX1_loseOldest_16 : decode cX1_loseOldest 16 = .ok (.getfield 15, 3) := by decide +kernel
theorem dX1_loseOldest_19 : decode cX1_loseOldest 19 = .ok (.iload_n 1, 1) := by decide +kernel
theorem dX1_loseOldest_20 : decode cX1_loseOldest 20 = .ok (.iaload, 1) := by decide +kernel
theorem dX1_loseOldest_21 : decode cX1_loseOldest 21 = .ok (.iastore, 1) := by decide +kernel
theorem dX1_loseOldest_22 : decode cX1_loseOldest 22 = .ok (.aload_n 0, 1) := by decide +kernel
theorem dX1_loseOldest_23 : decode cX1_loseOldest 23 = .ok (.getfield 19, 3) := by decide +kernel
theorem dX1_loseOldest_26 : decode cX1_loseOldest 26 = .ok (.iload_n 1, 1) := by decide +kernel
theorem dX1_loseOldest_27 : decode cX1_loseOldest 27 = .ok (.iconst 1, 1) := by decide +kernel
theorem dX1_loseOldest_28 : decode cX1_loseOldest 28 = .ok (.isub, 1) := by decide +kernel
theorem dX1_loseOldest_29 : decode cX1_loseOldest 29 = .ok (.aload_n 0, 1) := by decide +kernel
theorem dX1_loseOldest_30 : decode cX1_loseOldest 30 = .ok (.getfield 19, 3) := by decide +kernel
theorem dX1_loseOldest_33 : decode cX1_loseOldest 33 = .ok (.iload_n 1, 1) := by decide +kernel
theorem dX1_loseOldest_34 : decode cX1_loseOldest 34 = .ok (.iaload, 1) := by decide +kernel
theorem dX1_loseOldest_35 : decode cX1_loseOldest 35 = .ok (.iastore, 1) := by decide +kernel
theorem dX1_loseOldest_36 : decode cX1_loseOldest 36 = .ok (.aload_n 0, 1) := by decide +kernel
theorem dX1_loseOldest_37 : decode cX1_loseOldest 37 = .ok (.getfield 22, 3) := by decide +kernel
theorem dX1_loseOldest_40 : decode cX1_loseOldest 40 = .ok (.iload_n 1, 1) := by decide +kernel
theorem dX1_loseOldest_41 : decode cX1_loseOldest 41 = .ok (.iconst 1, 1) := by decide +kernel
theorem dX1_loseOldest_42 : decode cX1_loseOldest 42 = .ok (.isub, 1) := by decide +kernel
theorem dX1_loseOldest_43 : decode cX1_loseOldest 43 = .ok (.aload_n 0, 1) := by decide +kernel
theorem dX1_loseOldest_44 : decode cX1_loseOldest 44 = .ok (.getfield 22, 3) := by decide +kernel
theorem dX1_loseOldest_47 : decode cX1_loseOldest 47 = .ok (.iload_n 1, 1) := by decide +kernel
theorem dX1_loseOldest_48 : decode cX1_loseOldest 48 = .ok (.iaload, 1) := by decide +kernel
theorem dX1_loseOldest_49 : decode cX1_loseOldest 49 = .ok (.iastore, 1) := by decide +kernel
theorem dX1_loseOldest_50 : decode cX1_loseOldest 50 = .ok (.aload_n 0, 1) := by decide +kernel
theorem dX1_loseOldest_51 : decode cX1_loseOldest 51 = .ok (.getfield 25, 3) := by decide +kernel
theorem dX1_loseOldest_54 : decode cX1_loseOldest 54 = .ok (.iload_n 1, 1) := by decide +kernel
theorem dX1_loseOldest_55 : decode cX1_loseOldest 55 = .ok (.iconst 1, 1) := by decide +kernel
theorem dX1_loseOldest_56 : decode cX1_loseOldest 56 = .ok (.isub, 1) := by decide +kernel
theorem dX1_loseOldest_57 : decode cX1_loseOldest 57 = .ok (.aload_n 0, 1) := by decide +kernel
theorem dX1_loseOldest_58 : decode cX1_loseOldest 58 = .ok (.getfield 25, 3) := by decide +kernel
theorem dX1_loseOldest_61 : decode cX1_loseOldest 61 = .ok (.iload_n 1, 1) := by decide +kernel
theorem dX1_loseOldest_62 : decode cX1_loseOldest 62 = .ok (.iaload, 1) := by decide +kernel
theorem dX1_loseOldest_63 : decode cX1_loseOldest 63 = .ok (.iastore, 1) := by decide +kernel
theorem dX1_loseOldest_64 : decode cX1_loseOldest 64 = .ok (.iinc 1 1, 3) := by decide +kernel
theorem dX1_loseOldest_67 : decode cX1_loseOldest 67 = .ok (.goto (-65), 3) := by decide +kernel
theorem dX1_loseOldest_70 : decode cX1_loseOldest 70 = .ok (.aload_n 0, 1) := by decide +kernel
theorem dX1_loseOldest_71 : decode cX1_loseOldest 71 = .ok (.bipush 9, 2) := by decide +kernel
theorem dX1_loseOldest_73 : decode cX1_loseOldest 73 = .ok (.putfield 9, 3) := by decide +kernel
theorem dX1_loseOldest_76 : decode cX1_loseOldest 76 = .ok (.return_, 1) := by decide +kernel
theorem dX1_takeBack_0 : decode cX1_takeBack 0 = .ok (.aload_n 0, 1) := by decide +kernel
theorem dX1_takeBack_1 : decode cX1_takeBack 1 = .ok (.getfield 9, 3) := by decide +kernel
theorem dX1_takeBack_4 : decode cX1_takeBack 4 = .ok (.ifCond .gt 4, 3) := by decide +kernel
theorem dX1_takeBack_7 : decode cX1_takeBack 7 = .ok (.return_, 1) := by decide +kernel
theorem dX1_takeBack_8 : decode cX1_takeBack 8 = .ok (.aload_n 0, 1) := by decide +kernel
theorem dX1_takeBack_9 : decode cX1_takeBack 9 = .ok (.dup, 1) := by decide +kernel
theorem dX1_takeBack_10 : decode cX1_takeBack 10 = .ok (.getfield 9, 3) := by decide +kernel
theorem dX1_takeBack_13 : decode cX1_takeBack 13 = .ok (.iconst 1, 1) := by decide +kernel
theorem dX1_takeBack_14 : decode cX1_takeBack 14 = .ok (.isub, 1) := by decide +kernel
theorem dX1_takeBack_15 : decode cX1_takeBack 15 = .ok (.putfield 9, 3) := by decide +kernel
theorem dX1_takeBack_18 : decode cX1_takeBack 18 = .ok (.aload_n 0, 1) := by decide +kernel
theorem dX1_takeBack_19 : decode cX1_takeBack 19 = .ok (.getfield 19, 3) := by decide +kernel
theorem dX1_takeBack_22 : decode cX1_takeBack 22 = .ok (.aload_n 0, 1) := by decide +kernel
theorem dX1_takeBack_23 : decode cX1_takeBack 23 = .ok (.getfield 9, 3) := by decide +kernel
theorem dX1_takeBack_26 : decode cX1_takeBack 26 = .ok (.iaload, 1) := by decide +kernel
theorem dX1_takeBack_27 : decode cX1_takeBack 27 = .ok (.istore_n 2, 1) := by decide +kernel
theorem dX1_takeBack_28 : decode cX1_takeBack 28 = .ok (.aload_n 0, 1) := by decide +kernel
theorem dX1_takeBack_29 : decode cX1_takeBack 29 = .ok (.getfield 22, 3) := by decide +kernel
theorem dX1_takeBack_32 : decode cX1_takeBack 32 = .ok (.aload_n 0, 1) := by decide +kernel
theorem dX1_takeBack_33 : decode cX1_takeBack 33 = .ok (.getfield 9, 3) := by decide +kernel
theorem dX1_takeBack_36 : decode cX1_takeBack 36 = .ok (.iaload, 1) := by decide +kernel
theorem dX1_takeBack_37 : decode cX1_takeBack 37 = .ok (.istore_n 3, 1) := by decide +kernel
theorem dX1_takeBack_38 : decode cX1_takeBack 38 = .ok (.aload_n 0, 1) := by decide +kernel
theorem dX1_takeBack_39 : decode cX1_takeBack 39 = .ok (.getfield 15, 3) := by decide +kernel
theorem dX1_takeBack_42 : decode cX1_takeBack 42 = .ok (.aload_n 0, 1) := by decide +kernel
theorem dX1_takeBack_43 : decode cX1_takeBack 43 = .ok (.getfield 9, 3) := by decide +kernel
theorem dX1_takeBack_46 : decode cX1_takeBack 46 = .ok (.iaload, 1) := by decide +kernel
theorem dX1_takeBack_47 : decode cX1_takeBack 47 = .ok (.iconst 2, 1) := by decide +kernel
theorem dX1_takeBack_48 : decode cX1_takeBack 48 = .ok (.if_icmp .ne 19, 3) := by decide +kernel
theorem dX1_takeBack_51 : decode cX1_takeBack 51 = .ok (.aload_n 1, 1) := by decide +kernel
theorem dX1_takeBack_52 : decode cX1_takeBack 52 = .ok (.aload_n 0, 1) := by decide +kernel
theorem dX1_takeBack_53 : decode cX1_takeBack 53 = .ok (.getfield 25, 3) := by decide +kernel
theorem dX1_takeBack_56 : decode cX1_takeBack 56 = .ok (.aload_n 0, 1) := by decide +kernel
theorem dX1_takeBack_57 : decode cX1_takeBack 57 = .ok (.getfield 9, 3) := by decide +kernel
theorem dX1_takeBack_60 : decode cX1_takeBack 60 = .ok (.iaload, 1) := by decide +kernel
theorem dX1_takeBack_61 : decode cX1_takeBack 61 = .ok (.putfield 31, 3) := by decide +kernel
theorem dX1_takeBack_64 : decode cX1_takeBack 64 = .ok (.goto 23, 3) := by decide +kernel
theorem dX1_takeBack_67 : decode cX1_takeBack 67 = .ok (.aload_n 1, 1) := by decide +kernel
theorem dX1_takeBack_68 : decode cX1_takeBack 68 = .ok (.iload_n 2, 1) := by decide +kernel
theorem dX1_takeBack_69 : decode cX1_takeBack 69 = .ok (.iload_n 3, 1) := by decide +kernel
theorem dX1_takeBack_70 : decode cX1_takeBack 70 = .ok (.invokevirtual 36, 3) := by decide +kernel
theorem dX1_takeBack_73 : decode cX1_takeBack 73 = .ok (.ifCond .eq 14, 3) := by decide +kernel
theorem dX1_takeBack_76 : decode cX1_takeBack 76 = .ok (.aload_n 0, 1) := by decide +kernel
theorem dX1_takeBack_77 : decode cX1_takeBack 77 = .ok (.aload_n 1, 1) := by decide +kernel
theorem dX1_takeBack_78 : decode cX1_takeBack 78 = .ok (.getfield 40, 3) := by decide +kernel
theorem dX1_takeBack_81 : decode cX1_takeBack 81 = .ok (.iload_n 2, 1) := by decide +kernel
theorem dX1_takeBack_82 : decode cX1_takeBack 82 = .ok (.aaload, 1) := by decide +kernel
theorem dX1_takeBack_83 : decode cX1_takeBack 83 = .ok (.iload_n 3, 1) := by decide +kernel
theorem dX1_takeBack_84 : decode cX1_takeBack 84 = .ok (.invokevirtual 44, 3) := by decide +kernel
theorem dX1_takeBack_87 : decode cX1_takeBack 87 = .ok (.return_, 1) := by decide +kernel
theorem dX1_takeBackEntry_0 : decode cX1_takeBackEntry 0 = .ok (.aload_n 0, 1) := by decide +kernel
theorem dX1_takeBackEntry_1 : decode cX1_takeBackEntry 1 = .ok (.getfield 15, 3) := by decide +kernel
theorem dX1_takeBackEntry_4 : decode cX1_takeBackEntry 4 = .ok (.aload_n 0, 1) := by decide +kernel
theorem dX1_takeBackEntry_5 : decode cX1_takeBackEntry 5 = .ok (.getfield 9, 3) := by decide +kernel
theorem dX1_takeBackEntry_8 : decode cX1_takeBackEntry 8 = .ok (.iaload, 1) := by decide +kernel
theorem dX1_takeBackEntry_9 : decode cX1_takeBackEntry 9 = .ok (.ifCond .ne 11, 3) := by decide +kernel
theorem dX1_takeBackEntry_12 : decode cX1_takeBackEntry 12 = .ok (.aload_n 1, 1) := by decide +kernel
theorem dX1_takeBackEntry_13 : decode cX1_takeBackEntry 13 = .ok (.iload_n 2, 1) := by decide +kernel
theorem dX1_takeBackEntry_14 : decode cX1_takeBackEntry 14 = .ok (.invokevirtual 48, 3) := by decide +kernel
theorem dX1_takeBackEntry_17 : decode cX1_takeBackEntry 17 = .ok (.goto 18, 3) := by decide +kernel
theorem dX1_takeBackEntry_20 : decode cX1_takeBackEntry 20 = .ok (.aload_n 1, 1) := by decide +kernel
theorem dX1_takeBackEntry_21 : decode cX1_takeBackEntry 21 = .ok (.getfield 54, 3) := by decide +kernel
theorem dX1_takeBackEntry_24 : decode cX1_takeBackEntry 24 = .ok (.iload_n 2, 1) := by decide +kernel
theorem dX1_takeBackEntry_25 : decode cX1_takeBackEntry 25 = .ok (.aload_n 0, 1) := by decide +kernel
theorem dX1_takeBackEntry_26 : decode cX1_takeBackEntry 26 = .ok (.getfield 25, 3) := by decide +kernel
theorem dX1_takeBackEntry_29 : decode cX1_takeBackEntry 29 = .ok (.aload_n 0, 1) := by decide +kernel
theorem dX1_takeBackEntry_30 : decode cX1_takeBackEntry 30 = .ok (.getfield 9, 3) := by decide +kernel
theorem dX1_takeBackEntry_33 : decode cX1_takeBackEntry 33 = .ok (.iaload, 1) := by decide +kernel
theorem dX1_takeBackEntry_34 : decode cX1_takeBackEntry 34 = .ok (.iastore, 1) := by decide +kernel
theorem dX1_takeBackEntry_35 : decode cX1_takeBackEntry 35 = .ok (.return_, 1) := by decide +kernel
theorem dX2_init_0 : decode cX2_init 0 = .ok (.aload_n 0, 1) := by decide +kernel
theorem dX2_init_1 : decode cX2_init 1 = .ok (.invokespecial 3, 3) := by decide +kernel
theorem dX2_init_4 : decode cX2_init 4 = .ok (.aload_n 0, 1) := by decide +kernel
theorem dX2_init_5 : decode cX2_init 5 = .ok (.bipush 6, 2) := by decide +kernel
theorem dX2_init_7 : decode cX2_init 7 = .ok (.newarray .int, 2) := by decide +kernel
theorem dX2_init_9 : decode cX2_init 9 = .ok (.putfield 9, 3) := by decide +kernel
theorem dX2_init_12 : decode cX2_init 12 = .ok (.aload_n 0, 1) := by decide +kernel
theorem dX2_init_13 : decode cX2_init 13 = .ok (.bipush 6, 2) := by decide +kernel
theorem dX2_init_15 : decode cX2_init 15 = .ok (.newarray .int, 2) := by decide +kernel
theorem dX2_init_17 : decode cX2_init 17 = .ok (.putfield 15, 3) := by decide +kernel
theorem dX2_init_20 : decode cX2_init 20 = .ok (.aload_n 0, 1) := by decide +kernel
theorem dX2_init_21 : decode cX2_init 21 = .ok (.iconst 0, 1) := by decide +kernel
theorem dX2_init_22 : decode cX2_init 22 = .ok (.putfield 18, 3) := by decide +kernel
theorem dX2_init_25 : decode cX2_init 25 = .ok (.aload_n 0, 1) := by decide +kernel
theorem dX2_init_26 : decode cX2_init 26 = .ok (.iconst 0, 1) := by decide +kernel
theorem dX2_init_27 : decode cX2_init 27 = .ok (.putfield 22, 3) := by decide +kernel
theorem dX2_init_30 : decode cX2_init 30 = .ok (.return_, 1) := by decide +kernel
theorem dX2_empty_0 : decode cX2_empty 0 = .ok (.aload_n 0, 1) := by decide +kernel
theorem dX2_empty_1 : decode cX2_empty 1 = .ok (.iconst 0, 1) := by decide +kernel
theorem dX2_empty_2 : decode cX2_empty 2 = .ok (.putfield 18, 3) := by decide +kernel
theorem dX2_empty_5 : decode cX2_empty 5 = .ok (.aload_n 0, 1) := by decide +kernel
theorem dX2_empty_6 : decode cX2_empty 6 = .ok (.iconst 0, 1) := by decide +kernel
theorem dX2_empty_7 : decode cX2_empty 7 = .ok (.putfield 22, 3) := by decide +kernel
theorem dX2_empty_10 : decode cX2_empty 10 = .ok (.return_, 1) := by decide +kernel
theorem dX2_copy_0 : decode cX2_copy 0 = .ok (.iconst 0, 1) := by decide +kernel
theorem dX2_copy_1 : decode cX2_copy 1 = .ok (.istore_n 2, 1) := by decide +kernel
theorem dX2_copy_2 : decode cX2_copy 2 = .ok (.iload_n 2, 1) := by decide +kernel
theorem dX2_copy_3 : decode cX2_copy 3 = .ok (.bipush 6, 2) := by decide +kernel
theorem dX2_copy_5 : decode cX2_copy 5 = .ok (.if_icmp .ge 33, 3) := by decide +kernel
theorem dX2_copy_8 : decode cX2_copy 8 = .ok (.aload_n 0, 1) := by decide +kernel
theorem dX2_copy_9 : decode cX2_copy 9 = .ok (.getfield 9, 3) := by decide +kernel
theorem dX2_copy_12 : decode cX2_copy 12 = .ok (.iload_n 2, 1) := by decide +kernel
theorem dX2_copy_13 : decode cX2_copy 13 = .ok (.aload_n 1, 1) := by decide +kernel
theorem dX2_copy_14 : decode cX2_copy 14 = .ok (.getfield 9, 3) := by decide +kernel
theorem dX2_copy_17 : decode cX2_copy 17 = .ok (.iload_n 2, 1) := by decide +kernel
theorem dX2_copy_18 : decode cX2_copy 18 = .ok (.iaload, 1) := by decide +kernel
theorem dX2_copy_19 : decode cX2_copy 19 = .ok (.iastore, 1) := by decide +kernel
theorem dX2_copy_20 : decode cX2_copy 20 = .ok (.aload_n 0, 1) := by decide +kernel
theorem dX2_copy_21 : decode cX2_copy 21 = .ok (.getfield 15, 3) := by decide +kernel
theorem dX2_copy_24 : decode cX2_copy 24 = .ok (.iload_n 2, 1) := by decide +kernel
theorem dX2_copy_25 : decode cX2_copy 25 = .ok (.aload_n 1, 1) := by decide +kernel
theorem dX2_copy_26 : decode cX2_copy 26 = .ok (.getfield 15, 3) := by decide +kernel
theorem dX2_copy_29 : decode cX2_copy 29 = .ok (.iload_n 2, 1) := by decide +kernel
theorem dX2_copy_30 : decode cX2_copy 30 = .ok (.iaload, 1) := by decide +kernel
theorem dX2_copy_31 : decode cX2_copy 31 = .ok (.iastore, 1) := by decide +kernel
theorem dX2_copy_32 : decode cX2_copy 32 = .ok (.iinc 2 1, 3) := by decide +kernel
theorem dX2_copy_35 : decode cX2_copy 35 = .ok (.goto (-33), 3) := by decide +kernel
theorem dX2_copy_38 : decode cX2_copy 38 = .ok (.aload_n 0, 1) := by decide +kernel
theorem dX2_copy_39 : decode cX2_copy 39 = .ok (.aload_n 1, 1) := by decide +kernel
theorem dX2_copy_40 : decode cX2_copy 40 = .ok (.getfield 18, 3) := by decide +kernel
theorem dX2_copy_43 : decode cX2_copy 43 = .ok (.putfield 18, 3) := by decide +kernel
theorem dX2_copy_46 : decode cX2_copy 46 = .ok (.aload_n 0, 1) := by decide +kernel
theorem dX2_copy_47 : decode cX2_copy 47 = .ok (.aload_n 1, 1) := by decide +kernel
theorem dX2_copy_48 : decode cX2_copy 48 = .ok (.getfield 22, 3) := by decide +kernel
theorem dX2_copy_51 : decode cX2_copy 51 = .ok (.putfield 22, 3) := by decide +kernel
theorem dX2_copy_54 : decode cX2_copy 54 = .ok (.return_, 1) := by decide +kernel
theorem dX2_add_0 : decode cX2_add 0 = .ok (.aload_n 0, 1) := by decide +kernel
theorem dX2_add_1 : decode cX2_add 1 = .ok (.getfield 18, 3) := by decide +kernel
theorem dX2_add_4 : decode cX2_add 4 = .ok (.bipush 6, 2) := by decide +kernel
theorem dX2_add_6 : decode cX2_add 6 = .ok (.if_icmp .lt 5, 3) := by decide +kernel
theorem dX2_add_9 : decode cX2_add 9 = .ok (.iconst 0, 1) := by decide +kernel
theorem dX2_add_10 : decode cX2_add 10 = .ok (.ireturn, 1) := by decide +kernel
theorem dX2_add_11 : decode cX2_add 11 = .ok (.aload_n 0, 1) := by decide +kernel
theorem dX2_add_12 : decode cX2_add 12 = .ok (.getfield 9, 3) := by decide +kernel
theorem dX2_add_15 : decode cX2_add 15 = .ok (.aload_n 0, 1) := by decide +kernel
theorem dX2_add_16 : decode cX2_add 16 = .ok (.getfield 18, 3) := by decide +kernel
theorem dX2_add_19 : decode cX2_add 19 = .ok (.iload_n 1, 1) := by decide +kernel
theorem dX2_add_20 : decode cX2_add 20 = .ok (.iastore, 1) := by decide +kernel
theorem dX2_add_21 : decode cX2_add 21 = .ok (.aload_n 0, 1) := by decide +kernel
theorem dX2_add_22 : decode cX2_add 22 = .ok (.getfield 15, 3) := by decide +kernel
theorem dX2_add_25 : decode cX2_add 25 = .ok (.aload_n 0, 1) := by decide +kernel
theorem dX2_add_26 : decode cX2_add 26 = .ok (.getfield 18, 3) := by decide +kernel
theorem dX2_add_29 : decode cX2_add 29 = .ok (.iload_n 2, 1) := by decide +kernel
theorem dX2_add_30 : decode cX2_add 30 = .ok (.iastore, 1) := by decide +kernel
theorem dX2_add_31 : decode cX2_add 31 = .ok (.aload_n 0, 1) := by decide +kernel
theorem dX2_add_32 : decode cX2_add 32 = .ok (.dup, 1) := by decide +kernel
theorem dX2_add_33 : decode cX2_add 33 = .ok (.getfield 18, 3) := by decide +kernel
theorem dX2_add_36 : decode cX2_add 36 = .ok (.iconst 1, 1) := by decide +kernel
theorem dX2_add_37 : decode cX2_add 37 = .ok (.iadd, 1) := by decide +kernel
theorem dX2_add_38 : decode cX2_add 38 = .ok (.putfield 18, 3) := by decide +kernel
theorem dX2_add_41 : decode cX2_add 41 = .ok (.iconst 1, 1) := by decide +kernel
theorem dX2_add_42 : decode cX2_add 42 = .ok (.ireturn, 1) := by decide +kernel
theorem dX2_isStruck_0 : decode cX2_isStruck 0 = .ok (.aload_n 0, 1) := by decide +kernel
theorem dX2_isStruck_1 : decode cX2_isStruck 1 = .ok (.getfield 22, 3) := by decide +kernel
theorem dX2_isStruck_4 : decode cX2_isStruck 4 = .ok (.iload_n 1, 1) := by decide +kernel
theorem dX2_isStruck_5 : decode cX2_isStruck 5 = .ok (.ishr, 1) := by decide +kernel
theorem dX2_isStruck_6 : decode cX2_isStruck 6 = .ok (.iconst 1, 1) := by decide +kernel
theorem dX2_isStruck_7 : decode cX2_isStruck 7 = .ok (.iand, 1) := by decide +kernel
theorem dX2_isStruck_8 : decode cX2_isStruck 8 = .ok (.ifCond .eq 7, 3) := by decide +kernel
theorem dX2_isStruck_11 : decode cX2_isStruck 11 = .ok (.iconst 1, 1) := by decide +kernel
theorem dX2_isStruck_12 : decode cX2_isStruck 12 = .ok (.goto 4, 3) := by decide +kernel
theorem dX2_isStruck_15 : decode cX2_isStruck 15 = .ok (.iconst 0, 1) := by decide +kernel
theorem dX2_isStruck_16 : decode cX2_isStruck 16 = .ok (.ireturn, 1) := by decide +kernel
theorem dX2_turn_0 : decode cX2_turn 0 = .ok (.aload_n 0, 1) := by decide +kernel
theorem dX2_turn_1 : decode cX2_turn 1 = .ok (.dup, 1) := by decide +kernel
theorem dX2_turn_2 : decode cX2_turn 2 = .ok (.getfield 22, 3) := by decide +kernel
theorem dX2_turn_5 : decode cX2_turn 5 = .ok (.iconst 1, 1) := by decide +kernel
theorem dX2_turn_6 : decode cX2_turn 6 = .ok (.iload_n 1, 1) := by decide +kernel
theorem dX2_turn_7 : decode cX2_turn 7 = .ok (.ishl, 1) := by decide +kernel
theorem dX2_turn_8 : decode cX2_turn 8 = .ok (.ixor, 1) := by decide +kernel
theorem dX2_turn_9 : decode cX2_turn 9 = .ok (.putfield 22, 3) := by decide +kernel
theorem dX2_turn_12 : decode cX2_turn 12 = .ok (.return_, 1) := by decide +kernel
theorem dX2_mayTell_0 : decode cX2_mayTell 0 = .ok (.iload_n 1, 1) := by decide +kernel
theorem dX2_mayTell_1 : decode cX2_mayTell 1 = .ok (.ifCond .le 15, 3) := by decide +kernel
theorem dX2_mayTell_4 : decode cX2_mayTell 4 = .ok (.iload_n 2, 1) := by decide +kernel
theorem dX2_mayTell_5 : decode cX2_mayTell 5 = .ok (.aload_n 0, 1) := by decide +kernel
theorem dX2_mayTell_6 : decode cX2_mayTell 6 = .ok (.getfield 15, 3) := by decide +kernel
theorem dX2_mayTell_9 : decode cX2_mayTell 9 = .ok (.iload_n 1, 1) := by decide +kernel
theorem dX2_mayTell_10 : decode cX2_mayTell 10 = .ok (.iconst 1, 1) := by decide +kernel
theorem dX2_mayTell_11 : decode cX2_mayTell 11 = .ok (.isub, 1) := by decide +kernel
theorem dX2_mayTell_12 : decode cX2_mayTell 12 = .ok (.iaload, 1) := by decide +kernel
theorem dX2_mayTell_13 : decode cX2_mayTell 13 = .ok (.if_icmp .lt 7, 3) := by decide +kernel
theorem dX2_mayTell_16 : decode cX2_mayTell 16 = .ok (.iconst 1, 1) := by decide +kernel
theorem dX2_mayTell_17 : decode cX2_mayTell 17 = .ok (.goto 4, 3) := by decide +kernel
theorem dX2_mayTell_20 : decode cX2_mayTell 20 = .ok (.iconst 0, 1) := by decide +kernel
theorem dX2_mayTell_21 : decode cX2_mayTell 21 = .ok (.istore_n 3, 1) := by decide +kernel
theorem dX2_mayTell_22 : decode cX2_mayTell 22 = .ok (.iload_n 1, 1) := by decide +kernel
theorem dX2_mayTell_23 : decode cX2_mayTell 23 = .ok (.iconst 1, 1) := by decide +kernel
theorem dX2_mayTell_24 : decode cX2_mayTell 24 = .ok (.iadd, 1) := by decide +kernel
theorem dX2_mayTell_25 : decode cX2_mayTell 25 = .ok (.aload_n 0, 1) := by decide +kernel
theorem dX2_mayTell_26 : decode cX2_mayTell 26 = .ok (.getfield 18, 3) := by decide +kernel
theorem dX2_mayTell_29 : decode cX2_mayTell 29 = .ok (.if_icmp .ge 15, 3) := by decide +kernel
theorem dX2_mayTell_32 : decode cX2_mayTell 32 = .ok (.iload_n 2, 1) := by decide +kernel
theorem dX2_mayTell_33 : decode cX2_mayTell 33 = .ok (.aload_n 0, 1) := by decide +kernel
theorem dX2_mayTell_34 : decode cX2_mayTell 34 = .ok (.getfield 15, 3) := by decide +kernel
theorem dX2_mayTell_37 : decode cX2_mayTell 37 = .ok (.iload_n 1, 1) := by decide +kernel
theorem dX2_mayTell_38 : decode cX2_mayTell 38 = .ok (.iconst 1, 1) := by decide +kernel
theorem dX2_mayTell_39 : decode cX2_mayTell 39 = .ok (.iadd, 1) := by decide +kernel
theorem dX2_mayTell_40 : decode cX2_mayTell 40 = .ok (.iaload, 1) := by decide +kernel
theorem dX2_mayTell_41 : decode cX2_mayTell 41 = .ok (.if_icmp .gt 7, 3) := by decide +kernel
theorem dX2_mayTell_44 : decode cX2_mayTell 44 = .ok (.iconst 1, 1) := by decide +kernel
theorem dX2_mayTell_45 : decode cX2_mayTell 45 = .ok (.goto 4, 3) := by decide +kernel
theorem dX2_mayTell_48 : decode cX2_mayTell 48 = .ok (.iconst 0, 1) := by decide +kernel
theorem dX2_mayTell_49 : decode cX2_mayTell 49 = .ok (.istore 4, 2) := by decide +kernel
theorem dX2_mayTell_51 : decode cX2_mayTell 51 = .ok (.iload_n 3, 1) := by decide +kernel
theorem dX2_mayTell_52 : decode cX2_mayTell 52 = .ok (.ifCond .eq 12, 3) := by decide +kernel
theorem dX2_mayTell_55 : decode cX2_mayTell 55 = .ok (.iload 4, 2) := by decide +kernel
theorem dX2_mayTell_57 : decode cX2_mayTell 57 = .ok (.ifCond .eq 7, 3) := by decide +kernel
theorem dX2_mayTell_60 : decode cX2_mayTell 60 = .ok (.iconst 1, 1) := by decide +kernel
theorem dX2_mayTell_61 : decode cX2_mayTell 61 = .ok (.goto 4, 3) := by decide +kernel
theorem dX2_mayTell_64 : decode cX2_mayTell 64 = .ok (.iconst 0, 1) := by decide +kernel
theorem dX2_mayTell_65 : decode cX2_mayTell 65 = .ok (.ireturn, 1) := by decide +kernel
theorem dX2_entriesLeft_0 : decode cX2_entriesLeft 0 = .ok (.aload_n 0, 1) := by decide +kernel
theorem dX2_entriesLeft_1 : decode cX2_entriesLeft 1 = .ok (.getfield 18, 3) := by decide +kernel
theorem dX2_entriesLeft_4 : decode cX2_entriesLeft 4 = .ok (.aload_n 0, 1) := by decide +kernel
theorem dX2_entriesLeft_5 : decode cX2_entriesLeft 5 = .ok (.getfield 22, 3) := by decide +kernel
theorem dX2_entriesLeft_8 : decode cX2_entriesLeft 8 = .ok (.invokestatic 25, 3) := by decide +kernel
theorem dX2_entriesLeft_11 : decode cX2_entriesLeft 11 = .ok (.isub, 1) := by decide +kernel
theorem dX2_entriesLeft_12 : decode cX2_entriesLeft 12 = .ok (.ireturn, 1) := by decide +kernel
theorem dX2_eventBits_0 : decode cX2_eventBits 0 = .ok (.iconst 0, 1) := by decide +kernel
theorem dX2_eventBits_1 : decode cX2_eventBits 1 = .ok (.istore_n 1, 1) := by decide +kernel
theorem dX2_eventBits_2 : decode cX2_eventBits 2 = .ok (.iconst 0, 1) := by decide +kernel
theorem dX2_eventBits_3 : decode cX2_eventBits 3 = .ok (.istore_n 2, 1) := by decide +kernel
theorem dX2_eventBits_4 : decode cX2_eventBits 4 = .ok (.iload_n 2, 1) := by decide +kernel
theorem dX2_eventBits_5 : decode cX2_eventBits 5 = .ok (.aload_n 0, 1) := by decide +kernel
theorem dX2_eventBits_6 : decode cX2_eventBits 6 = .ok (.getfield 18, 3) := by decide +kernel
theorem dX2_eventBits_9 : decode cX2_eventBits 9 = .ok (.if_icmp .ge 28, 3) := by decide +kernel
theorem dX2_eventBits_12 : decode cX2_eventBits 12 = .ok (.aload_n 0, 1) := by decide +kernel
theorem dX2_eventBits_13 : decode cX2_eventBits 13 = .ok (.iload_n 2, 1) := by decide +kernel
theorem dX2_eventBits_14 : decode cX2_eventBits 14 = .ok (.invokevirtual 31, 3) := by decide +kernel
theorem dX2_eventBits_17 : decode cX2_eventBits 17 = .ok (.ifCond .ne 14, 3) := by decide +kernel
theorem dX2_eventBits_20 : decode cX2_eventBits 20 = .ok (.iload_n 1, 1) := by decide +kernel
theorem dX2_eventBits_21 : decode cX2_eventBits 21 = .ok (.iconst 1, 1) := by decide +kernel
theorem dX2_eventBits_22 : decode cX2_eventBits 22 = .ok (.aload_n 0, 1) := by decide +kernel
theorem dX2_eventBits_23 : decode cX2_eventBits 23 = .ok (.getfield 9, 3) := by decide +kernel
theorem dX2_eventBits_26 : decode cX2_eventBits 26 = .ok (.iload_n 2, 1) := by decide +kernel
theorem dX2_eventBits_27 : decode cX2_eventBits 27 = .ok (.iaload, 1) := by decide +kernel
theorem dX2_eventBits_28 : decode cX2_eventBits 28 = .ok (.ishl, 1) := by decide +kernel
theorem dX2_eventBits_29 : decode cX2_eventBits 29 = .ok (.ior, 1) := by decide +kernel
theorem dX2_eventBits_30 : decode cX2_eventBits 30 = .ok (.istore_n 1, 1) := by decide +kernel
theorem dX2_eventBits_31 : decode cX2_eventBits 31 = .ok (.iinc 2 1, 3) := by decide +kernel
theorem dX2_eventBits_34 : decode cX2_eventBits 34 = .ok (.goto (-30), 3) := by decide +kernel
theorem dX2_eventBits_37 : decode cX2_eventBits 37 = .ok (.iload_n 1, 1) := by decide +kernel
theorem dX2_eventBits_38 : decode cX2_eventBits 38 = .ok (.ireturn, 1) := by decide +kernel
theorem dX2_placeOf_0 : decode cX2_placeOf 0 = .ok (.iconst 0, 1) := by decide +kernel
theorem dX2_placeOf_1 : decode cX2_placeOf 1 = .ok (.istore_n 2, 1) := by decide +kernel
theorem dX2_placeOf_2 : decode cX2_placeOf 2 = .ok (.iload_n 2, 1) := by decide +kernel
theorem dX2_placeOf_3 : decode cX2_placeOf 3 = .ok (.aload_n 0, 1) := by decide +kernel
theorem dX2_placeOf_4 : decode cX2_placeOf 4 = .ok (.getfield 18, 3) := by decide +kernel
theorem dX2_placeOf_7 : decode cX2_placeOf 7 = .ok (.if_icmp .ge 29, 3) := by decide +kernel
theorem dX2_placeOf_10 : decode cX2_placeOf 10 = .ok (.aload_n 0, 1) := by decide +kernel
theorem dX2_placeOf_11 : decode cX2_placeOf 11 = .ok (.getfield 9, 3) := by decide +kernel
theorem dX2_placeOf_14 : decode cX2_placeOf 14 = .ok (.iload_n 2, 1) := by decide +kernel
theorem dX2_placeOf_15 : decode cX2_placeOf 15 = .ok (.iaload, 1) := by decide +kernel
theorem dX2_placeOf_16 : decode cX2_placeOf 16 = .ok (.iload_n 1, 1) := by decide +kernel
theorem dX2_placeOf_17 : decode cX2_placeOf 17 = .ok (.if_icmp .ne 13, 3) := by decide +kernel
theorem dX2_placeOf_20 : decode cX2_placeOf 20 = .ok (.aload_n 0, 1) := by decide +kernel
theorem dX2_placeOf_21 : decode cX2_placeOf 21 = .ok (.iload_n 2, 1) := by decide +kernel
theorem dX2_placeOf_22 : decode cX2_placeOf 22 = .ok (.invokevirtual 31, 3) := by decide +kernel
theorem dX2_placeOf_25 : decode cX2_placeOf 25 = .ok (.ifCond .ne 5, 3) := by decide +kernel
theorem dX2_placeOf_28 : decode cX2_placeOf 28 = .ok (.iload_n 2, 1) := by decide +kernel
theorem dX2_placeOf_29 : decode cX2_placeOf 29 = .ok (.ireturn, 1) := by decide +kernel
theorem dX2_placeOf_30 : decode cX2_placeOf 30 = .ok (.iinc 2 1, 3) := by decide +kernel
theorem dX2_placeOf_33 : decode cX2_placeOf 33 = .ok (.goto (-31), 3) := by decide +kernel
theorem dX2_placeOf_36 : decode cX2_placeOf 36 = .ok (.iconst (-1), 1) := by decide +kernel
theorem dX2_placeOf_37 : decode cX2_placeOf 37 = .ok (.ireturn, 1) := by decide +kernel
theorem dX3_init_0 : decode cX3_init 0 = .ok (.aload_n 0, 1) := by decide +kernel
theorem dX3_init_1 : decode cX3_init 1 = .ok (.invokespecial 3, 3) := by decide +kernel
theorem dX3_init_4 : decode cX3_init 4 = .ok (.aload_n 0, 1) := by decide +kernel
theorem dX3_init_5 : decode cX3_init 5 = .ok (.bipush 8, 2) := by decide +kernel
theorem dX3_init_7 : decode cX3_init 7 = .ok (.newarray .int, 2) := by decide +kernel
theorem dX3_init_9 : decode cX3_init 9 = .ok (.putfield 9, 3) := by decide +kernel
theorem dX3_init_12 : decode cX3_init 12 = .ok (.aload_n 0, 1) := by decide +kernel
theorem dX3_init_13 : decode cX3_init 13 = .ok (.bipush 8, 2) := by decide +kernel
theorem dX3_init_15 : decode cX3_init 15 = .ok (.newarray .int, 2) := by decide +kernel
theorem dX3_init_17 : decode cX3_init 17 = .ok (.putfield 15, 3) := by decide +kernel
theorem dX3_init_20 : decode cX3_init 20 = .ok (.return_, 1) := by decide +kernel
theorem dX3_look_0 : decode cX3_look 0 = .ok (.aload_n 0, 1) := by decide +kernel
theorem dX3_look_1 : decode cX3_look 1 = .ok (.invokevirtual 18, 3) := by decide +kernel
theorem dX3_look_4 : decode cX3_look 4 = .ok (.iconst 0, 1) := by decide +kernel
theorem dX3_look_5 : decode cX3_look 5 = .ok (.istore_n 3, 1) := by decide +kernel
theorem dX3_look_6 : decode cX3_look 6 = .ok (.iload_n 3, 1) := by decide +kernel
theorem dX3_look_7 : decode cX3_look 7 = .ok (.aload_n 1, 1) := by decide +kernel
theorem dX3_look_8 : decode cX3_look 8 = .ok (.getfield 21, 3) := by decide +kernel
theorem dX3_look_11 : decode cX3_look 11 = .ok (.if_icmp .ge 36, 3) := by decide +kernel
theorem dX3_look_14 : decode cX3_look 14 = .ok (.iload_n 2, 1) := by decide +kernel
theorem dX3_look_15 : decode cX3_look 15 = .ok (.iload_n 3, 1) := by decide +kernel
theorem dX3_look_16 : decode cX3_look 16 = .ok (.ishr, 1) := by decide +kernel
theorem dX3_look_17 : decode cX3_look 17 = .ok (.iconst 1, 1) := by decide +kernel
theorem dX3_look_18 : decode cX3_look 18 = .ok (.iand, 1) := by decide +kernel
theorem dX3_look_19 : decode cX3_look 19 = .ok (.ifCond .ne 22, 3) := by decide +kernel
theorem dX3_look_22 : decode cX3_look 22 = .ok (.aload_n 0, 1) := by decide +kernel
theorem dX3_look_23 : decode cX3_look 23 = .ok (.aload_n 1, 1) := by decide +kernel
theorem dX3_look_24 : decode cX3_look 24 = .ok (.getfield 27, 3) := by decide +kernel
theorem dX3_look_27 : decode cX3_look 27 = .ok (.iload_n 3, 1) := by decide +kernel
theorem dX3_look_28 : decode cX3_look 28 = .ok (.aaload, 1) := by decide +kernel
theorem dX3_look_29 : decode cX3_look 29 = .ok (.aload_n 1, 1) := by decide +kernel
theorem dX3_look_30 : decode cX3_look 30 = .ok (.getfield 27, 3) := by decide +kernel
theorem dX3_look_33 : decode cX3_look 33 = .ok (.iload_n 3, 1) := by decide +kernel
theorem dX3_look_34 : decode cX3_look 34 = .ok (.aaload, 1) := by decide +kernel
theorem dX3_look_35 : decode cX3_look 35 = .ok (.getfield 31, 3) := by decide +kernel
theorem dX3_look_38 : decode cX3_look 38 = .ok (.invokevirtual 36, 3) := by decide +kernel
theorem dX3_look_41 : decode cX3_look 41 = .ok (.iinc 3 1, 3) := by decide +kernel
theorem dX3_look_44 : decode cX3_look 44 = .ok (.goto (-38), 3) := by decide +kernel
theorem dX3_look_47 : decode cX3_look 47 = .ok (.aload_n 0, 1) := by decide +kernel
theorem dX3_look_48 : decode cX3_look 48 = .ok (.invokevirtual 40, 3) := by decide +kernel
theorem dX3_look_51 : decode cX3_look 51 = .ok (.return_, 1) := by decide +kernel
theorem dX3_lookStruck_0 : decode cX3_lookStruck 0 = .ok (.aload_n 0, 1) := by decide +kernel
theorem dX3_lookStruck_1 : decode cX3_lookStruck 1 = .ok (.invokevirtual 18, 3) := by decide +kernel
theorem dX3_lookStruck_4 : decode cX3_lookStruck 4 = .ok (.iconst 0, 1) := by decide +kernel
theorem dX3_lookStruck_5 : decode cX3_lookStruck 5 = .ok (.istore 4, 2) := by decide +kernel
theorem dX3_lookStruck_7 : decode cX3_lookStruck 7 = .ok (.iload 4, 2) := by decide +kernel
theorem dX3_lookStruck_9 : decode cX3_lookStruck 9 = .ok (.aload_n 1, 1) := by decide +kernel
theorem dX3_lookStruck_10 : decode cX3_lookStruck 10 = .ok (.getfield 21, 3) := by decide +kernel
theorem dX3_lookStruck_13 : decode cX3_lookStruck 13 = .ok (.if_icmp .ge 48, 3) := by decide +kernel
theorem dX3_lookStruck_16 : decode cX3_lookStruck 16 = .ok (.iload 4, 2) := by decide +kernel
theorem dX3_lookStruck_18 : decode cX3_lookStruck 18 = .ok (.iload_n 2, 1) := by decide +kernel
theorem dX3_lookStruck_19 : decode cX3_lookStruck 19 = .ok (.if_icmp .ne 9, 3) := by decide +kernel
theorem dX3_lookStruck_22 : decode cX3_lookStruck 22 = .ok (.iconst 1, 1) := by decide +kernel
theorem dX3_lookStruck_23 : decode cX3_lookStruck 23 = .ok (.iload_n 3, 1) := by decide +kernel
theorem dX3_lookStruck_24 : decode cX3_lookStruck 24 = .ok (.ishl, 1) := by decide +kernel
theorem dX3_lookStruck_25 : decode cX3_lookStruck 25 = .ok (.goto 4, 3) := by decide +kernel
theorem dX3_lookStruck_28 : decode cX3_lookStruck 28 = .ok (.iconst 0, 1) := by decide +kernel
theorem dX3_lookStruck_29 : decode cX3_lookStruck 29 = .ok (.istore 5, 2) := by decide +kernel
theorem dX3_lookStruck_31 : decode cX3_lookStruck 31 = .ok (.aload_n 0, 1) := by decide +kernel
theorem dX3_lookStruck_32 : decode cX3_lookStruck 32 = .ok (.aload_n 1, 1) := by decide +kernel
theorem dX3_lookStruck_33 : decode cX3_lookStruck 33 = .ok (.getfield 27, 3) := by decide +kernel
theorem dX3_lookStruck_36 : decode cX3_lookStruck 36 = .ok (.iload 4, 2) := by decide +kernel
theorem dX3_lookStruck_38 : decode cX3_lookStruck 38 = .ok (.aaload, 1) := by decide +kernel
theorem dX3_lookStruck_39 : decode cX3_lookStruck 39 = .ok (.aload_n 1, 1) := by decide +kernel
theorem dX3_lookStruck_40 : decode cX3_lookStruck 40 = .ok (.getfield 27, 3) := by decide +kernel
theorem dX3_lookStruck_43 : decode cX3_lookStruck 43 = .ok (.iload 4, 2) := by decide +kernel
theorem dX3_lookStruck_45 : decode cX3_lookStruck 45 = .ok (.aaload, 1) := by decide +kernel
theorem dX3_lookStruck_46 : decode cX3_lookStruck 46 = .ok (.getfield 31, 3) := by decide +kernel
theorem dX3_lookStruck_49 : decode cX3_lookStruck 49 = .ok (.iload 5, 2) := by decide +kernel
theorem dX3_lookStruck_51 : decode cX3_lookStruck 51 = .ok (.ior, 1) := by decide +kernel
theorem dX3_lookStruck_52 : decode cX3_lookStruck 52 = .ok (.invokevirtual 36, 3) := by decide +kernel
theorem dX3_lookStruck_55 : decode cX3_lookStruck 55 = .ok (.iinc 4 1, 3) := by decide +kernel
theorem dX3_lookStruck_58 : decode cX3_lookStruck 58 = .ok (.goto (-51), 3) := by decide +kernel
theorem dX3_lookStruck_61 : decode cX3_lookStruck 61 = .ok (.aload_n 0, 1) := by decide +kernel
theorem dX3_lookStruck_62 : decode cX3_lookStruck 62 = .ok (.invokevirtual 40, 3) := by decide +kernel
theorem dX3_lookStruck_65 : decode cX3_lookStruck 65 = .ok (.return_, 1) := by decide +kernel
theorem dX3_empty_0 : decode cX3_empty 0 = .ok (.iconst 0, 1) := by decide +kernel
theorem dX3_empty_1 : decode cX3_empty 1 = .ok (.istore_n 1, 1) := by decide +kernel
theorem dX3_empty_2 : decode cX3_empty 2 = .ok (.iload_n 1, 1) := by decide +kernel
theorem dX3_empty_3 : decode cX3_empty 3 = .ok (.bipush 8, 2) := by decide +kernel
theorem dX3_empty_5 : decode cX3_empty 5 = .ok (.if_icmp .ge 16, 3) := by decide +kernel
theorem dX3_empty_8 : decode cX3_empty 8 = .ok (.aload_n 0, 1) := by decide +kernel
theorem dX3_empty_9 : decode cX3_empty 9 = .ok (.getfield 9, 3) := by decide +kernel
theorem dX3_empty_12 : decode cX3_empty 12 = .ok (.iload_n 1, 1) := by decide +kernel
theorem dX3_empty_13 : decode cX3_empty 13 = .ok (.iconst 0, 1) := by decide +kernel
theorem dX3_empty_14 : decode cX3_empty 14 = .ok (.iastore, 1) := by decide +kernel
theorem dX3_empty_15 : decode cX3_empty 15 = .ok (.iinc 1 1, 3) := by decide +kernel
theorem dX3_empty_18 : decode cX3_empty 18 = .ok (.goto (-16), 3) := by decide +kernel
theorem dX3_empty_21 : decode cX3_empty 21 = .ok (.return_, 1) := by decide +kernel
theorem dX3_ask_0 : decode cX3_ask 0 = .ok (.iconst 0, 1) := by decide +kernel
theorem dX3_ask_1 : decode cX3_ask 1 = .ok (.istore_n 3, 1) := by decide +kernel
theorem dX3_ask_2 : decode cX3_ask 2 = .ok (.iload_n 3, 1) := by decide +kernel
theorem dX3_ask_3 : decode cX3_ask 3 = .ok (.aload_n 1, 1) := by decide +kernel
theorem dX3_ask_4 : decode cX3_ask 4 = .ok (.getfield 43, 3) := by decide +kernel
theorem dX3_ask_7 : decode cX3_ask 7 = .ok (.if_icmp .ge 93, 3) := by decide +kernel
theorem dX3_ask_10 : decode cX3_ask 10 = .ok (.iload_n 3, 1) := by decide +kernel
theorem dX3_ask_11 : decode cX3_ask 11 = .ok (.iconst 1, 1) := by decide +kernel
theorem dX3_ask_12 : decode cX3_ask 12 = .ok (.iadd, 1) := by decide +kernel
theorem dX3_ask_13 : decode cX3_ask 13 = .ok (.istore 4, 2) := by decide +kernel
theorem dX3_ask_15 : decode cX3_ask 15 = .ok (.iload 4, 2) := by decide +kernel
theorem dX3_ask_17 : decode cX3_ask 17 = .ok (.aload_n 1, 1) := by decide +kernel
theorem dX3_ask_18 : decode cX3_ask 18 = .ok (.getfield 43, 3) := by decide +kernel
theorem dX3_ask_21 : decode cX3_ask 21 = .ok (.if_icmp .ge 73, 3) := by decide +kernel
theorem dX3_ask_24 : decode cX3_ask 24 = .ok (.iload_n 2, 1) := by decide +kernel
theorem dX3_ask_25 : decode cX3_ask 25 = .ok (.iload_n 3, 1) := by decide +kernel
theorem dX3_ask_26 : decode cX3_ask 26 = .ok (.ishr, 1) := by decide +kernel
theorem dX3_ask_27 : decode cX3_ask 27 = .ok (.iload_n 2, 1) := by decide +kernel
theorem dX3_ask_28 : decode cX3_ask 28 = .ok (.iload 4, 2) := by decide +kernel
theorem dX3_ask_30 : decode cX3_ask 30 = .ok (.ishr, 1) := by decide +kernel
theorem dX3_ask_31 : decode cX3_ask 31 = .ok (.ior, 1) := by decide +kernel
theorem dX3_ask_32 : decode cX3_ask 32 = .ok (.iconst 1, 1) := by decide +kernel
theorem dX3_ask_33 : decode cX3_ask 33 = .ok (.iand, 1) := by decide +kernel
theorem dX3_ask_34 : decode cX3_ask 34 = .ok (.ifCond .ne 7, 3) := by decide +kernel
theorem dX3_ask_37 : decode cX3_ask 37 = .ok (.iconst 1, 1) := by decide +kernel
theorem dX3_ask_38 : decode cX3_ask 38 = .ok (.goto 4, 3) := by decide +kernel
theorem dX3_ask_41 : decode cX3_ask 41 = .ok (.iconst 0, 1) := by decide +kernel
theorem dX3_ask_42 : decode cX3_ask 42 = .ok (.istore 5, 2) := by decide +kernel
theorem dX3_ask_44 : decode cX3_ask 44 = .ok (.iload 5, 2) := by decide +kernel
theorem dX3_ask_46 : decode cX3_ask 46 = .ok (.ifCond .eq 42, 3) := by decide +kernel
theorem dX3_ask_49 : decode cX3_ask 49 = .ok (.aload_n 1, 1) := by decide +kernel
theorem dX3_ask_50 : decode cX3_ask 50 = .ok (.getfield 44, 3) := by decide +kernel
theorem dX3_ask_53 : decode cX3_ask 53 = .ok (.iload_n 3, 1) := by decide +kernel
theorem dX3_ask_54 : decode cX3_ask 54 = .ok (.iaload, 1) := by decide +kernel
theorem dX3_ask_55 : decode cX3_ask 55 = .ok (.aload_n 1, 1) := by decide +kernel
theorem dX3_ask_56 : decode cX3_ask 56 = .ok (.getfield 44, 3) := by decide +kernel
theorem dX3_ask_59 : decode cX3_ask 59 = .ok (.iload 4, 2) := by decide +kernel
theorem dX3_ask_61 : decode cX3_ask 61 = .ok (.iaload, 1) := by decide +kernel
theorem dX3_ask_62 : decode cX3_ask 62 = .ok (.if_icmp .ge 26, 3) := by decide +kernel
theorem dX3_ask_65 : decode cX3_ask 65 = .ok (.aload_n 0, 1) := by decide +kernel
theorem dX3_ask_66 : decode cX3_ask 66 = .ok (.getfield 9, 3) := by decide +kernel
theorem dX3_ask_69 : decode cX3_ask 69 = .ok (.aload_n 1, 1) := by decide +kernel
theorem dX3_ask_70 : decode cX3_ask 70 = .ok (.getfield 47, 3) := by decide +kernel
theorem dX3_ask_73 : decode cX3_ask 73 = .ok (.iload_n 3, 1) := by decide +kernel
theorem dX3_ask_74 : decode cX3_ask 74 = .ok (.iaload, 1) := by decide +kernel
theorem dX3_ask_75 : decode cX3_ask 75 = .ok (.dup2, 1) := by decide +kernel
theorem dX3_ask_76 : decode cX3_ask 76 = .ok (.iaload, 1) := by decide +kernel
theorem dX3_ask_77 : decode cX3_ask 77 = .ok (.iconst 1, 1) := by decide +kernel
theorem dX3_ask_78 : decode cX3_ask 78 = .ok (.aload_n 1, 1) := by decide +kernel
theorem dX3_ask_79 : decode cX3_ask 79 = .ok (.getfield 47, 3) := by decide +kernel
theorem dX3_ask_82 : decode cX3_ask 82 = .ok (.iload 4, 2) := by decide +kernel
theorem dX3_ask_84 : decode cX3_ask 84 = .ok (.iaload, 1) := by decide +kernel
theorem dX3_ask_85 : decode cX3_ask 85 = .ok (.ishl, 1) := by decide +kernel
theorem dX3_ask_86 : decode cX3_ask 86 = .ok (.ior, 1) := by decide +kernel
theorem dX3_ask_87 : decode cX3_ask 87 = .ok (.iastore, 1) := by decide +kernel
theorem dX3_ask_88 : decode cX3_ask 88 = .ok (.iinc 4 1, 3) := by decide +kernel
theorem dX3_ask_91 : decode cX3_ask 91 = .ok (.goto (-76), 3) := by decide +kernel
theorem dX3_ask_94 : decode cX3_ask 94 = .ok (.iinc 3 1, 3) := by decide +kernel
theorem dX3_ask_97 : decode cX3_ask 97 = .ok (.goto (-95), 3) := by decide +kernel
theorem dX3_ask_100 : decode cX3_ask 100 = .ok (.return_, 1) := by decide +kernel
theorem dX3_chain_0 : decode cX3_chain 0 = .ok (.iconst 0, 1) := by decide +kernel
theorem dX3_chain_1 : decode cX3_chain 1 = .ok (.istore_n 1, 1) := by decide +kernel
theorem dX3_chain_2 : decode cX3_chain 2 = .ok (.iload_n 1, 1) := by decide +kernel
theorem dX3_chain_3 : decode cX3_chain 3 = .ok (.bipush 8, 2) := by decide +kernel
theorem dX3_chain_5 : decode cX3_chain 5 = .ok (.if_icmp .ge 21, 3) := by decide +kernel
theorem dX3_chain_8 : decode cX3_chain 8 = .ok (.aload_n 0, 1) := by decide +kernel
theorem dX3_chain_9 : decode cX3_chain 9 = .ok (.getfield 15, 3) := by decide +kernel
theorem dX3_chain_12 : decode cX3_chain 12 = .ok (.iload_n 1, 1) := by decide +kernel
theorem dX3_chain_13 : decode cX3_chain 13 = .ok (.aload_n 0, 1) := by decide +kernel
theorem dX3_chain_14 : decode cX3_chain 14 = .ok (.getfield 9, 3) := by decide +kernel
theorem dX3_chain_17 : decode cX3_chain 17 = .ok (.iload_n 1, 1) := by decide +kernel
theorem dX3_chain_18 : decode cX3_chain 18 = .ok (.iaload, 1) := by decide +kernel
theorem dX3_chain_19 : decode cX3_chain 19 = .ok (.iastore, 1) := by decide +kernel
theorem dX3_chain_20 : decode cX3_chain 20 = .ok (.iinc 1 1, 3) := by decide +kernel
theorem dX3_chain_23 : decode cX3_chain 23 = .ok (.goto (-21), 3) := by decide +kernel
theorem dX3_chain_26 : decode cX3_chain 26 = .ok (.iconst 0, 1) := by decide +kernel
theorem dX3_chain_27 : decode cX3_chain 27 = .ok (.istore_n 1, 1) := by decide +kernel
theorem dX3_chain_28 : decode cX3_chain 28 = .ok (.iload_n 1, 1) := by decide +kernel
theorem dX3_chain_29 : decode cX3_chain 29 = .ok (.bipush 8, 2) := by decide +kernel
theorem dX3_chain_31 : decode cX3_chain 31 = .ok (.if_icmp .ge 51, 3) := by decide +kernel
theorem dX3_chain_34 : decode cX3_chain 34 = .ok (.iconst 0, 1) := by decide +kernel
theorem dX3_chain_35 : decode cX3_chain 35 = .ok (.istore_n 2, 1) := by decide +kernel
theorem dX3_chain_36 : decode cX3_chain 36 = .ok (.iload_n 2, 1) := by decide +kernel
theorem dX3_chain_37 : decode cX3_chain 37 = .ok (.bipush 8, 2) := by decide +kernel
theorem dX3_chain_39 : decode cX3_chain 39 = .ok (.if_icmp .ge 37, 3) := by decide +kernel
theorem dX3_chain_42 : decode cX3_chain 42 = .ok (.aload_n 0, 1) := by decide +kernel
theorem dX3_chain_43 : decode cX3_chain 43 = .ok (.getfield 15, 3) := by decide +kernel
theorem dX3_chain_46 : decode cX3_chain 46 = .ok (.iload_n 2, 1) := by decide +kernel
theorem dX3_chain_47 : decode cX3_chain 47 = .ok (.iaload, 1) := by decide +kernel
theorem dX3_chain_48 : decode cX3_chain 48 = .ok (.iload_n 1, 1) := by decide +kernel
theorem dX3_chain_49 : decode cX3_chain 49 = .ok (.ishr, 1) := by decide +kernel
theorem dX3_chain_50 : decode cX3_chain 50 = .ok (.iconst 1, 1) := by decide +kernel
theorem dX3_chain_51 : decode cX3_chain 51 = .ok (.iand, 1) := by decide +kernel
theorem dX3_chain_52 : decode cX3_chain 52 = .ok (.ifCond .eq 18, 3) := by decide +kernel
theorem dX3_chain_55 : decode cX3_chain 55 = .ok (.aload_n 0, 1) := by decide +kernel
theorem dX3_chain_56 : decode cX3_chain 56 = .ok (.getfield 15, 3) := by decide +kernel
theorem dX3_chain_59 : decode cX3_chain 59 = .ok (.iload_n 2, 1) := by decide +kernel
theorem dX3_chain_60 : decode cX3_chain 60 = .ok (.dup2, 1) := by decide +kernel
theorem dX3_chain_61 : decode cX3_chain 61 = .ok (.iaload, 1) := by decide +kernel
theorem dX3_chain_62 : decode cX3_chain 62 = .ok (.aload_n 0, 1) := by decide +kernel
theorem dX3_chain_63 : decode cX3_chain 63 = .ok (.getfield 15, 3) := by decide +kernel
theorem dX3_chain_66 : decode cX3_chain 66 = .ok (.iload_n 1, 1) := by decide +kernel
theorem dX3_chain_67 : decode cX3_chain 67 = .ok (.iaload, 1) := by decide +kernel
theorem dX3_chain_68 : decode cX3_chain 68 = .ok (.ior, 1) := by decide +kernel
theorem dX3_chain_69 : decode cX3_chain 69 = .ok (.iastore, 1) := by decide +kernel
theorem dX3_chain_70 : decode cX3_chain 70 = .ok (.iinc 2 1, 3) := by decide +kernel
theorem dX3_chain_73 : decode cX3_chain 73 = .ok (.goto (-37), 3) := by decide +kernel
theorem dX3_chain_76 : decode cX3_chain 76 = .ok (.iinc 1 1, 3) := by decide +kernel
theorem dX3_chain_79 : decode cX3_chain 79 = .ok (.goto (-51), 3) := by decide +kernel
theorem dX3_chain_82 : decode cX3_chain 82 = .ok (.return_, 1) := by decide +kernel
theorem dX3_knots_0 : decode cX3_knots 0 = .ok (.iconst 0, 1) := by decide +kernel
theorem dX3_knots_1 : decode cX3_knots 1 = .ok (.istore_n 1, 1) := by decide +kernel
theorem dX3_knots_2 : decode cX3_knots 2 = .ok (.iconst 0, 1) := by decide +kernel
theorem dX3_knots_3 : decode cX3_knots 3 = .ok (.istore_n 2, 1) := by decide +kernel
theorem dX3_knots_4 : decode cX3_knots 4 = .ok (.iload_n 2, 1) := by decide +kernel
theorem dX3_knots_5 : decode cX3_knots 5 = .ok (.bipush 8, 2) := by decide +kernel
theorem dX3_knots_7 : decode cX3_knots 7 = .ok (.if_icmp .ge 22, 3) := by decide +kernel
theorem dX3_knots_10 : decode cX3_knots 10 = .ok (.iload_n 1, 1) := by decide +kernel
theorem dX3_knots_11 : decode cX3_knots 11 = .ok (.aload_n 0, 1) := by decide +kernel
theorem dX3_knots_12 : decode cX3_knots 12 = .ok (.getfield 15, 3) := by decide +kernel
theorem dX3_knots_15 : decode cX3_knots 15 = .ok (.iload_n 2, 1) := by decide +kernel
theorem dX3_knots_16 : decode cX3_knots 16 = .ok (.iaload, 1) := by decide +kernel
theorem dX3_knots_17 : decode cX3_knots 17 = .ok (.iconst 1, 1) := by decide +kernel
theorem dX3_knots_18 : decode cX3_knots 18 = .ok (.iload_n 2, 1) := by decide +kernel
theorem dX3_knots_19 : decode cX3_knots 19 = .ok (.ishl, 1) := by decide +kernel
theorem dX3_knots_20 : decode cX3_knots 20 = .ok (.iand, 1) := by decide +kernel
theorem dX3_knots_21 : decode cX3_knots 21 = .ok (.ior, 1) := by decide +kernel
theorem dX3_knots_22 : decode cX3_knots 22 = .ok (.istore_n 1, 1) := by decide +kernel
theorem dX3_knots_23 : decode cX3_knots 23 = .ok (.iinc 2 1, 3) := by decide +kernel
theorem dX3_knots_26 : decode cX3_knots 26 = .ok (.goto (-22), 3) := by decide +kernel
theorem dX3_knots_29 : decode cX3_knots 29 = .ok (.iload_n 1, 1) := by decide +kernel
theorem dX3_knots_30 : decode cX3_knots 30 = .ok (.ireturn, 1) := by decide +kernel
theorem dX3_inLine_0 : decode cX3_inLine 0 = .ok (.iload_n 1, 1) := by decide +kernel
theorem dX3_inLine_1 : decode cX3_inLine 1 = .ok (.istore_n 3, 1) := by decide +kernel
theorem dX3_inLine_2 : decode cX3_inLine 2 = .ok (.iconst 0, 1) := by decide +kernel
theorem dX3_inLine_3 : decode cX3_inLine 3 = .ok (.istore 4, 2) := by decide +kernel
theorem dX3_inLine_5 : decode cX3_inLine 5 = .ok (.iload 4, 2) := by decide +kernel
theorem dX3_inLine_7 : decode cX3_inLine 7 = .ok (.bipush 8, 2) := by decide +kernel
theorem dX3_inLine_9 : decode cX3_inLine 9 = .ok (.if_icmp .ge 46, 3) := by decide +kernel
theorem dX3_inLine_12 : decode cX3_inLine 12 = .ok (.iload_n 3, 1) := by decide +kernel
theorem dX3_inLine_13 : decode cX3_inLine 13 = .ok (.ifCond .eq 42, 3) := by decide +kernel
theorem dX3_inLine_16 : decode cX3_inLine 16 = .ok (.aload_n 0, 1) := by decide +kernel
theorem dX3_inLine_17 : decode cX3_inLine 17 = .ok (.iload_n 3, 1) := by decide +kernel
theorem dX3_inLine_18 : decode cX3_inLine 18 = .ok (.invokevirtual 50, 3) := by decide +kernel
theorem dX3_inLine_21 : decode cX3_inLine 21 = .ok (.istore 5, 2) := by decide +kernel
theorem dX3_inLine_23 : decode cX3_inLine 23 = .ok (.iload 5, 2) := by decide +kernel
theorem dX3_inLine_25 : decode cX3_inLine 25 = .ok (.ifCond .ge 6, 3) := by decide +kernel
theorem dX3_inLine_28 : decode cX3_inLine 28 = .ok (.bipush (-9), 2) := by decide +kernel
theorem dX3_inLine_30 : decode cX3_inLine 30 = .ok (.ireturn, 1) := by decide +kernel
theorem dX3_inLine_31 : decode cX3_inLine 31 = .ok (.iload 4, 2) := by decide +kernel
theorem dX3_inLine_33 : decode cX3_inLine 33 = .ok (.iload_n 2, 1) := by decide +kernel
theorem dX3_inLine_34 : decode cX3_inLine 34 = .ok (.if_icmp .ne 6, 3) := by decide +kernel
theorem dX3_inLine_37 : decode cX3_inLine 37 = .ok (.iload 5, 2) := by decide +kernel
theorem dX3_inLine_39 : decode cX3_inLine 39 = .ok (.ireturn, 1) := by decide +kernel
theorem dX3_inLine_40 : decode cX3_inLine 40 = .ok (.iload_n 3, 1) := by decide +kernel
theorem dX3_inLine_41 : decode cX3_inLine 41 = .ok (.iconst 1, 1) := by decide +kernel
theorem dX3_inLine_42 : decode cX3_inLine 42 = .ok (.iload 5, 2) := by decide +kernel
theorem dX3_inLine_44 : decode cX3_inLine 44 = .ok (.ishl, 1) := by decide +kernel
theorem dX3_inLine_45 : decode cX3_inLine 45 = .ok (.iconst (-1), 1) := by decide +kernel
theorem dX3_inLine_46 : decode cX3_inLine 46 = .ok (.ixor, 1) := by decide +kernel
theorem dX3_inLine_47 : decode cX3_inLine 47 = .ok (.iand, 1) := by decide +kernel
theorem dX3_inLine_48 : decode cX3_inLine 48 = .ok (.istore_n 3, 1) := by decide +kernel
theorem dX3_inLine_49 : decode cX3_inLine 49 = .ok (.iinc 4 1, 3) := by decide +kernel
theorem dX3_inLine_52 : decode cX3_inLine 52 = .ok (.goto (-47), 3) := by decide +kernel
theorem dX3_inLine_55 : decode cX3_inLine 55 = .ok (.bipush (-9), 2) := by decide +kernel
theorem dX3_inLine_57 : decode cX3_inLine 57 = .ok (.ireturn, 1) := by decide +kernel
theorem dX3_lowestFree_0 : decode cX3_lowestFree 0 = .ok (.iconst 0, 1) := by decide +kernel
theorem dX3_lowestFree_1 : decode cX3_lowestFree 1 = .ok (.istore_n 2, 1) := by decide +kernel
theorem dX3_lowestFree_2 : decode cX3_lowestFree 2 = .ok (.iconst 0, 1) := by decide +kernel
theorem dX3_lowestFree_3 : decode cX3_lowestFree 3 = .ok (.istore_n 3, 1) := by decide +kernel
theorem dX3_lowestFree_4 : decode cX3_lowestFree 4 = .ok (.iload_n 3, 1) := by decide +kernel
theorem dX3_lowestFree_5 : decode cX3_lowestFree 5 = .ok (.bipush 8, 2) := by decide +kernel
theorem dX3_lowestFree_7 : decode cX3_lowestFree 7 = .ok (.if_icmp .ge 26, 3) := by decide +kernel
theorem dX3_lowestFree_10 : decode cX3_lowestFree 10 = .ok (.iload_n 1, 1) := by decide +kernel
theorem dX3_lowestFree_11 : decode cX3_lowestFree 11 = .ok (.iload_n 3, 1) := by decide +kernel
theorem dX3_lowestFree_12 : decode cX3_lowestFree 12 = .ok (.ishr, 1) := by decide +kernel
theorem dX3_lowestFree_13 : decode cX3_lowestFree 13 = .ok (.iconst 1, 1) := by decide +kernel
theorem dX3_lowestFree_14 : decode cX3_lowestFree 14 = .ok (.iand, 1) := by decide +kernel
theorem dX3_lowestFree_15 : decode cX3_lowestFree 15 = .ok (.ifCond .eq 12, 3) := by decide +kernel
theorem dX3_lowestFree_18 : decode cX3_lowestFree 18 = .ok (.iload_n 2, 1) := by decide +kernel
theorem dX3_lowestFree_19 : decode cX3_lowestFree 19 = .ok (.aload_n 0, 1) := by decide +kernel
theorem dX3_lowestFree_20 : decode cX3_lowestFree 20 = .ok (.getfield 9, 3) := by decide +kernel
theorem dX3_lowestFree_23 : decode cX3_lowestFree 23 = .ok (.iload_n 3, 1) := by decide +kernel
theorem dX3_lowestFree_24 : decode cX3_lowestFree 24 = .ok (.iaload, 1) := by decide +kernel
theorem dX3_lowestFree_25 : decode cX3_lowestFree 25 = .ok (.ior, 1) := by decide +kernel
theorem dX3_lowestFree_26 : decode cX3_lowestFree 26 = .ok (.istore_n 2, 1) := by decide +kernel
theorem dX3_lowestFree_27 : decode cX3_lowestFree 27 = .ok (.iinc 3 1, 3) := by decide +kernel
theorem dX3_lowestFree_30 : decode cX3_lowestFree 30 = .ok (.goto (-26), 3) := by decide +kernel
theorem dX3_lowestFree_33 : decode cX3_lowestFree 33 = .ok (.iload_n 1, 1) := by decide +kernel
theorem dX3_lowestFree_34 : decode cX3_lowestFree 34 = .ok (.iload_n 2, 1) := by decide +kernel
theorem dX3_lowestFree_35 : decode cX3_lowestFree 35 = .ok (.iconst (-1), 1) := by decide +kernel
theorem dX3_lowestFree_36 : decode cX3_lowestFree 36 = .ok (.ixor, 1) := by decide +kernel
theorem dX3_lowestFree_37 : decode cX3_lowestFree 37 = .ok (.iand, 1) := by decide +kernel
theorem dX3_lowestFree_38 : decode cX3_lowestFree 38 = .ok (.istore_n 3, 1) := by decide +kernel
theorem dX3_lowestFree_39 : decode cX3_lowestFree 39 = .ok (.iconst 0, 1) := by decide +kernel
theorem dX3_lowestFree_40 : decode cX3_lowestFree 40 = .ok (.istore 4, 2) := by decide +kernel
theorem dX3_lowestFree_42 : decode cX3_lowestFree 42 = .ok (.iload 4, 2) := by decide +kernel
theorem dX3_lowestFree_44 : decode cX3_lowestFree 44 = .ok (.bipush 8, 2) := by decide +kernel
theorem dX3_lowestFree_46 : decode cX3_lowestFree 46 = .ok (.if_icmp .ge 21, 3) := by decide +kernel
theorem dX3_lowestFree_49 : decode cX3_lowestFree 49 = .ok (.iload_n 3, 1) := by decide +kernel
theorem dX3_lowestFree_50 : decode cX3_lowestFree 50 = .ok (.iload 4, 2) := by decide +kernel
theorem dX3_lowestFree_52 : decode cX3_lowestFree 52 = .ok (.ishr, 1) := by decide +kernel
theorem dX3_lowestFree_53 : decode cX3_lowestFree 53 = .ok (.iconst 1, 1) := by decide +kernel
theorem dX3_lowestFree_54 : decode cX3_lowestFree 54 = .ok (.iand, 1) := by decide +kernel
theorem dX3_lowestFree_55 : decode cX3_lowestFree 55 = .ok (.ifCond .eq 6, 3) := by decide +kernel
theorem dX3_lowestFree_58 : decode cX3_lowestFree 58 = .ok (.iload 4, 2) := by decide +kernel
theorem dX3_lowestFree_60 : decode cX3_lowestFree 60 = .ok (.ireturn, 1) := by decide +kernel
theorem dX3_lowestFree_61 : decode cX3_lowestFree 61 = .ok (.iinc 4 1, 3) := by decide +kernel
theorem dX3_lowestFree_64 : decode cX3_lowestFree 64 = .ok (.goto (-22), 3) := by decide +kernel
theorem dX3_lowestFree_67 : decode cX3_lowestFree 67 = .ok (.iconst (-1), 1) := by decide +kernel
theorem dX3_lowestFree_68 : decode cX3_lowestFree 68 = .ok (.ireturn, 1) := by decide +kernel
theorem dX4_init_0 : decode cX4_init 0 = .ok (.aload_n 0, 1) := by decide +kernel
theorem dX4_init_1 : decode cX4_init 1 = .ok (.invokespecial 3, 3) := by decide +kernel
theorem dX4_init_4 : decode cX4_init 4 = .ok (.aload_n 0, 1) := by decide +kernel
theorem dX4_init_5 : decode cX4_init 5 = .ok (.bipush 6, 2) := by decide +kernel
theorem dX4_init_7 : decode cX4_init 7 = .ok (.newarray .int, 2) := by decide +kernel
theorem dX4_init_9 : decode cX4_init 9 = .ok (.putfield 9, 3) := by decide +kernel
theorem dX4_init_12 : decode cX4_init 12 = .ok (.aload_n 0, 1) := by decide +kernel
theorem dX4_init_13 : decode cX4_init 13 = .ok (.bipush 6, 2) := by decide +kernel
theorem dX4_init_15 : decode cX4_init 15 = .ok (.newarray .int, 2) := by decide +kernel
theorem dX4_init_17 : decode cX4_init 17 = .ok (.putfield 15, 3) := by decide +kernel
theorem dX4_init_20 : decode cX4_init 20 = .ok (.aload_n 0, 1) := by decide +kernel
theorem dX4_init_21 : decode cX4_init 21 = .ok (.iconst 0, 1) := by decide +kernel
theorem dX4_init_22 : decode cX4_init 22 = .ok (.putfield 18, 3) := by decide +kernel
theorem dX4_init_25 : decode cX4_init 25 = .ok (.return_, 1) := by decide +kernel
