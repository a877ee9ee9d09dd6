theorem dX9_init_0 : decode cX9_init 0 = .ok (.aload_n 0, 1) := by decide +kernel
theorem dX9_init_1 : decode cX9_init 1 = .ok (.invokespecial 1, 3) := by decide +kernel
theorem dX9_init_4 : decode cX9_init 4 = .ok (.aload_n 0, 1) := by decide +kernel
theorem dX9_init_5 : decode cX9_init 5 = .ok (.sipush 242, 3) := by decide +kernel
theorem dX9_init_8 : decode cX9_init 8 = .ok (.newarray .int, 2) := by decide +kernel
theorem dX9_init_10 : decode cX9_init 10 = .ok (.putfield 7, 3) := by decide +kernel
theorem dX9_init_13 : decode cX9_init 13 = .ok (.aload_n 0, 1) := by decide +kernel
theorem dX9_init_14 : decode cX9_init 14 = .ok (.sipush 242, 3) := by decide +kernel
theorem dX9_init_17 : decode cX9_init 17 = .ok (.newarray .int, 2) := by decide +kernel
theorem dX9_init_19 : decode cX9_init 19 = .ok (.putfield 13, 3) := by decide +kernel
theorem dX9_init_22 : decode cX9_init 22 = .ok (.aload_n 0, 1) := by decide +kernel
theorem dX9_init_23 : decode cX9_init 23 = .ok (.sipush 242, 3) := by decide +kernel
theorem dX9_init_26 : decode cX9_init 26 = .ok (.newarray .int, 2) := by decide +kernel
theorem dX9_init_28 : decode cX9_init 28 = .ok (.putfield 16, 3) := by decide +kernel
theorem dX9_init_31 : decode cX9_init 31 = .ok (.aload_n 0, 1) := by decide +kernel
theorem dX9_init_32 : decode cX9_init 32 = .ok (.sipush 1936, 3) := by decide +kernel
theorem dX9_init_35 : decode cX9_init 35 = .ok (.newarray .int, 2) := by decide +kernel
theorem dX9_init_37 : decode cX9_init 37 = .ok (.putfield 19, 3) := by decide +kernel
theorem dX9_init_40 : decode cX9_init 40 = .ok (.aload_n 0, 1) := by decide +kernel
theorem dX9_init_41 : decode cX9_init 41 = .ok (.sipush 484, 3) := by decide +kernel
theorem dX9_init_44 : decode cX9_init 44 = .ok (.newarray .int, 2) := by decide +kernel
theorem dX9_init_46 : decode cX9_init 46 = .ok (.putfield 22, 3) := by decide +kernel
theorem dX9_init_49 : decode cX9_init 49 = .ok (.aload_n 0, 1) := by decide +kernel
theorem dX9_init_50 : decode cX9_init 50 = .ok (.sipush 700, 3) := by decide +kernel
theorem dX9_init_53 : decode cX9_init 53 = .ok (.newarray .int, 2) := by decide +kernel
theorem dX9_init_55 : decode cX9_init 55 = .ok (.putfield 25, 3) := by decide +kernel
theorem dX9_init_58 : decode cX9_init 58 = .ok (.aload_n 0, 1) := by decide +kernel
theorem dX9_init_59 : decode cX9_init 59 = .ok (.sipush 700, 3) := by decide +kernel
theorem dX9_init_62 : decode cX9_init 62 = .ok (.newarray .int, 2) := by decide +kernel
theorem dX9_init_64 : decode cX9_init 64 = .ok (.putfield 28, 3) := by decide +kernel
theorem dX9_init_67 : decode cX9_init 67 = .ok (.aload_n 0, 1) := by decide +kernel
theorem dX9_init_68 : decode cX9_init 68 = .ok (.sipush 200, 3) := by decide +kernel
theorem dX9_init_71 : decode cX9_init 71 = .ok (.newarray .char, 2) := by decide +kernel
theorem dX9_init_73 : decode cX9_init 73 = .ok (.putfield 31, 3) := by decide +kernel
theorem dX9_init_76 : decode cX9_init 76 = .ok (.aload_n 0, 1) := by decide +kernel
theorem dX9_init_77 : decode cX9_init 77 = .ok (.iconst 2, 1) := by decide +kernel
theorem dX9_init_78 : decode cX9_init 78 = .ok (.newarray .int, 2) := by decide +kernel
theorem dX9_init_80 : decode cX9_init 80 = .ok (.putfield 35, 3) := by decide +kernel
theorem dX9_init_83 : decode cX9_init 83 = .ok (.aload_n 0, 1) := by decide +kernel
theorem dX9_init_84 : decode cX9_init 84 = .ok (.iconst 0, 1) := by decide +kernel
theorem dX9_init_85 : decode cX9_init 85 = .ok (.invokevirtual 38, 3) := by decide +kernel
theorem dX9_init_88 : decode cX9_init 88 = .ok (.aload_n 0, 1) := by decide +kernel
theorem dX9_init_89 : decode cX9_init 89 = .ok (.iconst 0, 1) := by decide +kernel
theorem dX9_init_90 : decode cX9_init 90 = .ok (.putfield 42, 3) := by decide +kernel
theorem dX9_init_93 : decode cX9_init 93 = .ok (.return_, 1) := by decide +kernel
theorem dX9_thrown_0 : decode cX9_thrown 0 = .ok (.aload_n 0, 1) := by decide +kernel
theorem dX9_thrown_1 : decode cX9_thrown 1 = .ok (.getfield 42, 3) := by decide +kernel
theorem dX9_thrown_4 : decode cX9_thrown 4 = .ok (.ireturn, 1) := by decide +kernel
theorem dX9_in_0 : decode cX9_in 0 = .ok (.iload_n 0, 1) := by decide +kernel
theorem dX9_in_1 : decode cX9_in 1 = .ok (.iload_n 1, 1) := by decide +kernel
theorem dX9_in_2 : decode cX9_in 2 = .ok (.if_icmp .lt 12, 3) := by decide +kernel
theorem dX9_in_5 : decode cX9_in 5 = .ok (.iload_n 0, 1) := by decide +kernel
theorem dX9_in_6 : decode cX9_in 6 = .ok (.iload_n 2, 1) := by decide +kernel
theorem dX9_in_7 : decode cX9_in 7 = .ok (.if_icmp .gt 7, 3) := by decide +kernel
theorem dX9_in_10 : decode cX9_in 10 = .ok (.iconst 1, 1) := by decide +kernel
theorem dX9_in_11 : decode cX9_in 11 = .ok (.goto 4, 3) := by decide +kernel
theorem dX9_in_14 : decode cX9_in 14 = .ok (.iconst 0, 1) := by decide +kernel
theorem dX9_in_15 : decode cX9_in 15 = .ok (.ireturn, 1) := by decide +kernel
theorem dX9_throwsOne_0 : decode cX9_throwsOne 0 = .ok (.aload_n 0, 1) := by decide +kernel
theorem dX9_throwsOne_1 : decode cX9_throwsOne 1 = .ok (.iload_n 1, 1) := by decide +kernel
theorem dX9_throwsOne_2 : decode cX9_throwsOne 2 = .ok (.ifCond .eq 7, 3) := by decide +kernel
theorem dX9_throwsOne_5 : decode cX9_throwsOne 5 = .ok (.iconst 1, 1) := by decide +kernel
theorem dX9_throwsOne_6 : decode cX9_throwsOne 6 = .ok (.goto 4, 3) := by decide +kernel
theorem dX9_throwsOne_9 : decode cX9_throwsOne 9 = .ok (.iconst 0, 1) := by decide +kernel
theorem dX9_throwsOne_10 : decode cX9_throwsOne 10 = .ok (.putfield 42, 3) := by decide +kernel
theorem dX9_throwsOne_13 : decode cX9_throwsOne 13 = .ok (.iload_n 1, 1) := by decide +kernel
theorem dX9_throwsOne_14 : decode cX9_throwsOne 14 = .ok (.ireturn, 1) := by decide +kernel
theorem dX9_throwsOne__0 : decode cX9_throwsOne_ 0 = .ok (.aload_n 0, 1) := by decide +kernel
theorem dX9_throwsOne__1 : decode cX9_throwsOne_ 1 = .ok (.iload_n 1, 1) := by decide +kernel
theorem dX9_throwsOne__2 : decode cX9_throwsOne_ 2 = .ok (.ifCond .eq 7, 3) := by decide +kernel
theorem dX9_throwsOne__5 : decode cX9_throwsOne_ 5 = .ok (.iconst 1, 1) := by decide +kernel
theorem dX9_throwsOne__6 : decode cX9_throwsOne_ 6 = .ok (.goto 12, 3) := by decide +kernel
theorem dX9_throwsOne__9 : decode cX9_throwsOne_ 9 = .ok (.iload_n 2, 1) := by decide +kernel
theorem dX9_throwsOne__10 : decode cX9_throwsOne_ 10 = .ok (.ifCond .eq 7, 3) := by decide +kernel
theorem dX9_throwsOne__13 : decode cX9_throwsOne_ 13 = .ok (.iconst 2, 1) := by decide +kernel
theorem dX9_throwsOne__14 : decode cX9_throwsOne_ 14 = .ok (.goto 4, 3) := by decide +kernel
theorem dX9_throwsOne__17 : decode cX9_throwsOne_ 17 = .ok (.iconst 0, 1) := by decide +kernel
theorem dX9_throwsOne__18 : decode cX9_throwsOne_ 18 = .ok (.putfield 42, 3) := by decide +kernel
theorem dX9_throwsOne__21 : decode cX9_throwsOne_ 21 = .ok (.iload_n 1, 1) := by decide +kernel
theorem dX9_throwsOne__22 : decode cX9_throwsOne_ 22 = .ok (.ifCond .ne 7, 3) := by decide +kernel
theorem dX9_throwsOne__25 : decode cX9_throwsOne_ 25 = .ok (.iload_n 2, 1) := by decide +kernel
theorem dX9_throwsOne__26 : decode cX9_throwsOne_ 26 = .ok (.ifCond .eq 7, 3) := by decide +kernel
theorem dX9_throwsOne__29 : decode cX9_throwsOne_ 29 = .ok (.iconst 1, 1) := by decide +kernel
theorem dX9_throwsOne__30 : decode cX9_throwsOne_ 30 = .ok (.goto 4, 3) := by decide +kernel
theorem dX9_throwsOne__33 : decode cX9_throwsOne_ 33 = .ok (.iconst 0, 1) := by decide +kernel
theorem dX9_throwsOne__34 : decode cX9_throwsOne_ 34 = .ok (.ireturn, 1) := by decide +kernel
theorem dX9_isFlat_0 : decode cX9_isFlat 0 = .ok (.iload_n 1, 1) := by decide +kernel
theorem dX9_isFlat_1 : decode cX9_isFlat 1 = .ok (.iconst 0, 1) := by decide +kernel
theorem dX9_isFlat_2 : decode cX9_isFlat 2 = .ok (.aload_n 0, 1) := by decide +kernel
theorem dX9_isFlat_3 : decode cX9_isFlat 3 = .ok (.getfield 7, 3) := by decide +kernel
theorem dX9_isFlat_6 : decode cX9_isFlat 6 = .ok (.iconst 0, 1) := by decide +kernel
theorem dX9_isFlat_7 : decode cX9_isFlat 7 = .ok (.iaload, 1) := by decide +kernel
theorem dX9_isFlat_8 : decode cX9_isFlat 8 = .ok (.iconst 1, 1) := by decide +kernel
theorem dX9_isFlat_9 : decode cX9_isFlat 9 = .ok (.isub, 1) := by decide +kernel
theorem dX9_isFlat_10 : decode cX9_isFlat 10 = .ok (.invokestatic 46, 3) := by decide +kernel
theorem dX9_isFlat_13 : decode cX9_isFlat 13 = .ok (.ireturn, 1) := by decide +kernel
theorem dX9_of_0 : decode cX9_of 0 = .ok (.aload_n 0, 1) := by decide +kernel
theorem dX9_of_1 : decode cX9_of 1 = .ok (.getfield 7, 3) := by decide +kernel
theorem dX9_of_4 : decode cX9_of 4 = .ok (.bipush 52, 2) := by decide +kernel
theorem dX9_of_6 : decode cX9_of 6 = .ok (.bipush 9, 2) := by decide +kernel
theorem dX9_of_8 : decode cX9_of 8 = .ok (.iload_n 1, 1) := by decide +kernel
theorem dX9_of_9 : decode cX9_of 9 = .ok (.imul, 1) := by decide +kernel
theorem dX9_of_10 : decode cX9_of 10 = .ok (.iadd, 1) := by decide +kernel
theorem dX9_of_11 : decode cX9_of 11 = .ok (.iload_n 2, 1) := by decide +kernel
theorem dX9_of_12 : decode cX9_of 12 = .ok (.iadd, 1) := by decide +kernel
theorem dX9_of_13 : decode cX9_of 13 = .ok (.iaload, 1) := by decide +kernel
theorem dX9_of_14 : decode cX9_of 14 = .ok (.ireturn, 1) := by decide +kernel
theorem dX9_to_0 : decode cX9_to 0 = .ok (.aload_n 0, 1) := by decide +kernel
theorem dX9_to_1 : decode cX9_to 1 = .ok (.getfield 7, 3) := by decide +kernel
theorem dX9_to_4 : decode cX9_to 4 = .ok (.bipush 52, 2) := by decide +kernel
theorem dX9_to_6 : decode cX9_to 6 = .ok (.bipush 9, 2) := by decide +kernel
theorem dX9_to_8 : decode cX9_to 8 = .ok (.iload_n 1, 1) := by decide +kernel
theorem dX9_to_9 : decode cX9_to 9 = .ok (.imul, 1) := by decide +kernel
theorem dX9_to_10 : decode cX9_to 10 = .ok (.iadd, 1) := by decide +kernel
theorem dX9_to_11 : decode cX9_to 11 = .ok (.iload_n 2, 1) := by decide +kernel
theorem dX9_to_12 : decode cX9_to 12 = .ok (.iadd, 1) := by decide +kernel
theorem dX9_to_13 : decode cX9_to 13 = .ok (.iload_n 3, 1) := by decide +kernel
theorem dX9_to_14 : decode cX9_to 14 = .ok (.iastore, 1) := by decide +kernel
theorem dX9_to_15 : decode cX9_to 15 = .ok (.return_, 1) := by decide +kernel
theorem dX9_adds_0 : decode cX9_adds 0 = .ok (.aload_n 0, 1) := by decide +kernel
theorem dX9_adds_1 : decode cX9_adds 1 = .ok (.getfield 7, 3) := by decide +kernel
theorem dX9_adds_4 : decode cX9_adds 4 = .ok (.bipush 52, 2) := by decide +kernel
theorem dX9_adds_6 : decode cX9_adds 6 = .ok (.bipush 9, 2) := by decide +kernel
theorem dX9_adds_8 : decode cX9_adds 8 = .ok (.iload_n 1, 1) := by decide +kernel
theorem dX9_adds_9 : decode cX9_adds 9 = .ok (.imul, 1) := by decide +kernel
theorem dX9_adds_10 : decode cX9_adds 10 = .ok (.iadd, 1) := by decide +kernel
theorem dX9_adds_11 : decode cX9_adds 11 = .ok (.iload_n 2, 1) := by decide +kernel
theorem dX9_adds_12 : decode cX9_adds 12 = .ok (.iadd, 1) := by decide +kernel
theorem dX9_adds_13 : decode cX9_adds 13 = .ok (.dup2, 1) := by decide +kernel
theorem dX9_adds_14 : decode cX9_adds 14 = .ok (.iaload, 1) := by decide +kernel
theorem dX9_adds_15 : decode cX9_adds 15 = .ok (.iload_n 3, 1) := by decide +kernel
theorem dX9_adds_16 : decode cX9_adds 16 = .ok (.iadd, 1) := by decide +kernel
theorem dX9_adds_17 : decode cX9_adds 17 = .ok (.iastore, 1) := by decide +kernel
theorem dX9_adds_18 : decode cX9_adds 18 = .ok (.return_, 1) := by decide +kernel
theorem dX9_counts_0 : decode cX9_counts 0 = .ok (.aload_n 0, 1) := by decide +kernel
theorem dX9_counts_1 : decode cX9_counts 1 = .ok (.getfield 7, 3) := by decide +kernel
theorem dX9_counts_4 : decode cX9_counts 4 = .ok (.bipush 42, 2) := by decide +kernel
theorem dX9_counts_6 : decode cX9_counts 6 = .ok (.iload_n 1, 1) := by decide +kernel
theorem dX9_counts_7 : decode cX9_counts 7 = .ok (.iadd, 1) := by decide +kernel
theorem dX9_counts_8 : decode cX9_counts 8 = .ok (.dup2, 1) := by decide +kernel
theorem dX9_counts_9 : decode cX9_counts 9 = .ok (.iaload, 1) := by decide +kernel
theorem dX9_counts_10 : decode cX9_counts 10 = .ok (.iload_n 2, 1) := by decide +kernel
theorem dX9_counts_11 : decode cX9_counts 11 = .ok (.iadd, 1) := by decide +kernel
theorem dX9_counts_12 : decode cX9_counts 12 = .ok (.iastore, 1) := by decide +kernel
theorem dX9_counts_13 : decode cX9_counts 13 = .ok (.return_, 1) := by decide +kernel
theorem dX9_heardOf_0 : decode cX9_heardOf 0 = .ok (.aload_n 0, 1) := by decide +kernel
theorem dX9_heardOf_1 : decode cX9_heardOf 1 = .ok (.getfield 7, 3) := by decide +kernel
theorem dX9_heardOf_4 : decode cX9_heardOf 4 = .ok (.sipush 142, 3) := by decide +kernel
theorem dX9_heardOf_7 : decode cX9_heardOf 7 = .ok (.bipush 10, 2) := by decide +kernel
theorem dX9_heardOf_9 : decode cX9_heardOf 9 = .ok (.iload_n 1, 1) := by decide +kernel
theorem dX9_heardOf_10 : decode cX9_heardOf 10 = .ok (.imul, 1) := by decide +kernel
theorem dX9_heardOf_11 : decode cX9_heardOf 11 = .ok (.iadd, 1) := by decide +kernel
theorem dX9_heardOf_12 : decode cX9_heardOf 12 = .ok (.iload_n 2, 1) := by decide +kernel
theorem dX9_heardOf_13 : decode cX9_heardOf 13 = .ok (.iadd, 1) := by decide +kernel
theorem dX9_heardOf_14 : decode cX9_heardOf 14 = .ok (.iaload, 1) := by decide +kernel
theorem dX9_heardOf_15 : decode cX9_heardOf 15 = .ok (.ireturn, 1) := by decide +kernel
theorem dX9_manyWho_0 : decode cX9_manyWho 0 = .ok (.iconst 0, 1) := by decide +kernel
theorem dX9_manyWho_1 : decode cX9_manyWho 1 = .ok (.istore_n 2, 1) := by decide +kernel
theorem dX9_manyWho_2 : decode cX9_manyWho 2 = .ok (.iconst 0, 1) := by decide +kernel
theorem dX9_manyWho_3 : decode cX9_manyWho 3 = .ok (.istore_n 3, 1) := by decide +kernel
theorem dX9_manyWho_4 : decode cX9_manyWho 4 = .ok (.iload_n 3, 1) := by decide +kernel
theorem dX9_manyWho_5 : decode cX9_manyWho 5 = .ok (.aload_n 0, 1) := by decide +kernel
theorem dX9_manyWho_6 : decode cX9_manyWho 6 = .ok (.getfield 7, 3) := by decide +kernel
theorem dX9_manyWho_9 : decode cX9_manyWho 9 = .ok (.iconst 0, 1) := by decide +kernel
theorem dX9_manyWho_10 : decode cX9_manyWho 10 = .ok (.iaload, 1) := by decide +kernel
theorem dX9_manyWho_11 : decode cX9_manyWho 11 = .ok (.if_icmp .ge 27, 3) := by decide +kernel
theorem dX9_manyWho_14 : decode cX9_manyWho 14 = .ok (.iload_n 2, 1) := by decide +kernel
theorem dX9_manyWho_15 : decode cX9_manyWho 15 = .ok (.aload_n 0, 1) := by decide +kernel
theorem dX9_manyWho_16 : decode cX9_manyWho 16 = .ok (.iload_n 3, 1) := by decide +kernel
theorem dX9_manyWho_17 : decode cX9_manyWho 17 = .ok (.iconst 2, 1) := by decide +kernel
theorem dX9_manyWho_18 : decode cX9_manyWho 18 = .ok (.invokevirtual 50, 3) := by decide +kernel
theorem dX9_manyWho_21 : decode cX9_manyWho 21 = .ok (.iload_n 1, 1) := by decide +kernel
theorem dX9_manyWho_22 : decode cX9_manyWho 22 = .ok (.if_icmp .ne 7, 3) := by decide +kernel
theorem dX9_manyWho_25 : decode cX9_manyWho 25 = .ok (.iconst 1, 1) := by decide +kernel
theorem dX9_manyWho_26 : decode cX9_manyWho 26 = .ok (.goto 4, 3) := by decide +kernel
theorem dX9_manyWho_29 : decode cX9_manyWho 29 = .ok (.iconst 0, 1) := by decide +kernel
theorem dX9_manyWho_30 : decode cX9_manyWho 30 = .ok (.iadd, 1) := by decide +kernel
theorem dX9_manyWho_31 : decode cX9_manyWho 31 = .ok (.istore_n 2, 1) := by decide +kernel
theorem dX9_manyWho_32 : decode cX9_manyWho 32 = .ok (.iinc 3 1, 3) := by decide +kernel
theorem dX9_manyWho_35 : decode cX9_manyWho 35 = .ok (.goto (-31), 3) := by decide +kernel
theorem dX9_manyWho_38 : decode cX9_manyWho 38 = .ok (.iload_n 2, 1) := by decide +kernel
theorem dX9_manyWho_39 : decode cX9_manyWho 39 = .ok (.ireturn, 1) := by decide +kernel
theorem dX9_isCalled_0 : decode cX9_isCalled 0 = .ok (.aload_n 0, 1) := by decide +kernel
theorem dX9_isCalled_1 : decode cX9_isCalled 1 = .ok (.getfield 7, 3) := by decide +kernel
theorem dX9_isCalled_4 : decode cX9_isCalled 4 = .ok (.iconst 2, 1) := by decide +kernel
theorem dX9_isCalled_5 : decode cX9_isCalled 5 = .ok (.iaload, 1) := by decide +kernel
theorem dX9_isCalled_6 : decode cX9_isCalled 6 = .ok (.iconst 1, 1) := by decide +kernel
theorem dX9_isCalled_7 : decode cX9_isCalled 7 = .ok (.if_icmp .ne 17, 3) := by decide +kernel
theorem dX9_isCalled_10 : decode cX9_isCalled 10 = .ok (.aload_n 0, 1) := by decide +kernel
theorem dX9_isCalled_11 : decode cX9_isCalled 11 = .ok (.getfield 7, 3) := by decide +kernel
theorem dX9_isCalled_14 : decode cX9_isCalled 14 = .ok (.iconst 3, 1) := by decide +kernel
theorem dX9_isCalled_15 : decode cX9_isCalled 15 = .ok (.iaload, 1) := by decide +kernel
theorem dX9_isCalled_16 : decode cX9_isCalled 16 = .ok (.iload_n 1, 1) := by decide +kernel
theorem dX9_isCalled_17 : decode cX9_isCalled 17 = .ok (.if_icmp .ne 7, 3) := by decide +kernel
theorem dX9_isCalled_20 : decode cX9_isCalled 20 = .ok (.iconst 1, 1) := by decide +kernel
theorem dX9_isCalled_21 : decode cX9_isCalled 21 = .ok (.goto 4, 3) := by decide +kernel
theorem dX9_isCalled_24 : decode cX9_isCalled 24 = .ok (.iconst 0, 1) := by decide +kernel
theorem dX9_isCalled_25 : decode cX9_isCalled 25 = .ok (.ireturn, 1) := by decide +kernel
theorem dX9_placeOf_0 : decode cX9_placeOf 0 = .ok (.iconst 0, 1) := by decide +kernel
theorem dX9_placeOf_1 : decode cX9_placeOf 1 = .ok (.istore_n 2, 1) := by decide +kernel
theorem dX9_placeOf_2 : decode cX9_placeOf 2 = .ok (.iload_n 2, 1) := by decide +kernel
theorem dX9_placeOf_3 : decode cX9_placeOf 3 = .ok (.aload_n 0, 1) := by decide +kernel
theorem dX9_placeOf_4 : decode cX9_placeOf 4 = .ok (.getfield 7, 3) := by decide +kernel
theorem dX9_placeOf_7 : decode cX9_placeOf 7 = .ok (.bipush 30, 2) := by decide +kernel
theorem dX9_placeOf_9 : decode cX9_placeOf 9 = .ok (.iaload, 1) := by decide +kernel
theorem dX9_placeOf_10 : decode cX9_placeOf 10 = .ok (.if_icmp .ge 24, 3) := by decide +kernel
theorem dX9_placeOf_13 : decode cX9_placeOf 13 = .ok (.aload_n 0, 1) := by decide +kernel
theorem dX9_placeOf_14 : decode cX9_placeOf 14 = .ok (.getfield 7, 3) := by decide +kernel
theorem dX9_placeOf_17 : decode cX9_placeOf 17 = .ok (.bipush 31, 2) := by decide +kernel
theorem dX9_placeOf_19 : decode cX9_placeOf 19 = .ok (.iload_n 2, 1) := by decide +kernel
theorem dX9_placeOf_20 : decode cX9_placeOf 20 = .ok (.iadd, 1) := by decide +kernel
theorem dX9_placeOf_21 : decode cX9_placeOf 21 = .ok (.iaload, 1) := by decide +kernel
theorem dX9_placeOf_22 : decode cX9_placeOf 22 = .ok (.iload_n 1, 1) := by decide +kernel
theorem dX9_placeOf_23 : decode cX9_placeOf 23 = .ok (.if_icmp .ne 5, 3) := by decide +kernel
theorem dX9_placeOf_26 : decode cX9_placeOf 26 = .ok (.iload_n 2, 1) := by decide +kernel
theorem dX9_placeOf_27 : decode cX9_placeOf 27 = .ok (.ireturn, 1) := by decide +kernel
theorem dX9_placeOf_28 : decode cX9_placeOf 28 = .ok (.iinc 2 1, 3) := by decide +kernel
theorem dX9_placeOf_31 : decode cX9_placeOf 31 = .ok (.goto (-29), 3) := by decide +kernel
theorem dX9_placeOf_34 : decode cX9_placeOf 34 = .ok (.iconst (-1), 1) := by decide +kernel
theorem dX9_placeOf_35 : decode cX9_placeOf 35 = .ok (.ireturn, 1) := by decide +kernel
theorem dX9_leavesQueue_0 : decode cX9_leavesQueue 0 = .ok (.aload_n 0, 1) := by decide +kernel
theorem dX9_leavesQueue_1 : decode cX9_leavesQueue 1 = .ok (.iload_n 1, 1) := by decide +kernel
theorem dX9_leavesQueue_2 : decode cX9_leavesQueue 2 = .ok (.invokevirtual 54, 3) := by decide +kernel
theorem dX9_leavesQueue_5 : decode cX9_leavesQueue 5 = .ok (.istore_n 2, 1) := by decide +kernel
theorem dX9_leavesQueue_6 : decode cX9_leavesQueue 6 = .ok (.aload_n 0, 1) := by decide +kernel
theorem dX9_leavesQueue_7 : decode cX9_leavesQueue 7 = .ok (.getfield 7, 3) := by decide +kernel
theorem dX9_leavesQueue_10 : decode cX9_leavesQueue 10 = .ok (.bipush 30, 2) := by decide +kernel
theorem dX9_leavesQueue_12 : decode cX9_leavesQueue 12 = .ok (.dup2, 1) := by decide +kernel
theorem dX9_leavesQueue_13 : decode cX9_leavesQueue 13 = .ok (.iaload, 1) := by decide +kernel
theorem dX9_leavesQueue_14 : decode cX9_leavesQueue 14 = .ok (.iconst 1, 1) := by decide +kernel
theorem dX9_leavesQueue_15 : decode cX9_leavesQueue 15 = .ok (.isub, 1) := by decide +kernel
theorem dX9_leavesQueue_16 : decode cX9_leavesQueue 16 = .ok (.iastore, 1) := by decide +kernel
theorem dX9_leavesQueue_17 : decode cX9_leavesQueue 17 = .ok (.iload_n 2, 1) := by decide +kernel
theorem dX9_leavesQueue_18 : decode cX9_leavesQueue 18 = .ok (.istore_n 3, 1) := by decide +kernel
theorem dX9_leavesQueue_19 : decode cX9_leavesQueue 19 = .ok (.iload_n 3, 1) := by decide +kernel
theorem dX9_leavesQueue_20 : decode cX9_leavesQueue 20 = .ok (.aload_n 0, 1) := by decide +kernel
theorem dX9_leavesQueue_21 : decode cX9_leavesQueue 21 = .ok (.getfield 7, 3) := by decide +kernel
theorem dX9_leavesQueue_24 : decode cX9_leavesQueue 24 = .ok (.bipush 30, 2) := by decide +kernel
theorem dX9_leavesQueue_26 : decode cX9_leavesQueue 26 = .ok (.iaload, 1) := by decide +kernel
theorem dX9_leavesQueue_27 : decode cX9_leavesQueue 27 = .ok (.if_icmp .ge 29, 3) := by decide +kernel
theorem dX9_leavesQueue_30 : decode cX9_leavesQueue 30 = .ok (.aload_n 0, 1) := by decide +kernel
theorem dX9_leavesQueue_31 : decode cX9_leavesQueue 31 = .ok (.getfield 7, 3) := by decide +kernel
theorem dX9_leavesQueue_34 : decode cX9_leavesQueue 34 = .ok (.bipush 31, 2) := by decide +kernel
theorem dX9_leavesQueue_36 : decode cX9_leavesQueue 36 = .ok (.iload_n 3, 1) := by decide +kernel
theorem dX9_leavesQueue_37 : decode cX9_leavesQueue 37 = .ok (.iadd, 1) := by decide +kernel
theorem dX9_leavesQueue_38 : decode cX9_leavesQueue 38 = .ok (.aload_n 0, 1) := by decide +kernel
theorem dX9_leavesQueue_39 : decode cX9_leavesQueue 39 = .ok (.getfield 7, 3) := by decide +kernel
theorem dX9_leavesQueue_42 : decode cX9_leavesQueue 42 = .ok (.bipush 31, 2) := by decide +kernel
theorem dX9_leavesQueue_44 : decode cX9_leavesQueue 44 = .ok (.iload_n 3, 1) := by decide +kernel
theorem dX9_leavesQueue_45 : decode cX9_leavesQueue 45 = .ok (.iadd, 1) := by decide +kernel
theorem dX9_leavesQueue_46 : decode cX9_leavesQueue 46 = .ok (.iconst 1, 1) := by decide +kernel
theorem dX9_leavesQueue_47 : decode cX9_leavesQueue 47 = .ok (.iadd, 1) := by decide +kernel
theorem dX9_leavesQueue_48 : decode cX9_leavesQueue 48 = .ok (.iaload, 1) := by decide +kernel
theorem dX9_leavesQueue_49 : decode cX9_leavesQueue 49 = .ok (.iastore, 1) := by decide +kernel
theorem dX9_leavesQueue_50 : decode cX9_leavesQueue 50 = .ok (.iinc 3 1, 3) := by decide +kernel
theorem dX9_leavesQueue_53 : decode cX9_leavesQueue 53 = .ok (.goto (-34), 3) := by decide +kernel
theorem dX9_leavesQueue_56 : decode cX9_leavesQueue 56 = .ok (.aload_n 0, 1) := by decide +kernel
theorem dX9_leavesQueue_57 : decode cX9_leavesQueue 57 = .ok (.getfield 7, 3) := by decide +kernel
theorem dX9_leavesQueue_60 : decode cX9_leavesQueue 60 = .ok (.bipush 31, 2) := by decide +kernel
theorem dX9_leavesQueue_62 : decode cX9_leavesQueue 62 = .ok (.aload_n 0, 1) := by decide +kernel
theorem dX9_leavesQueue_63 : decode cX9_leavesQueue 63 = .ok (.getfield 7, 3) := by decide +kernel
theorem dX9_leavesQueue_66 : decode cX9_leavesQueue 66 = .ok (.bipush 30, 2) := by decide +kernel
theorem dX9_leavesQueue_68 : decode cX9_leavesQueue 68 = .ok (.iaload, 1) := by decide +kernel
theorem dX9_leavesQueue_69 : decode cX9_leavesQueue 69 = .ok (.iadd, 1) := by decide +kernel
theorem dX9_leavesQueue_70 : decode cX9_leavesQueue 70 = .ok (.iconst 0, 1) := by decide +kernel
theorem dX9_leavesQueue_71 : decode cX9_leavesQueue 71 = .ok (.iastore, 1) := by decide +kernel
theorem dX9_leavesQueue_72 : decode cX9_leavesQueue 72 = .ok (.return_, 1) := by decide +kernel
theorem dX9_messagesFor_0 : decode cX9_messagesFor 0 = .ok (.iconst 0, 1) := by decide +kernel
theorem dX9_messagesFor_1 : decode cX9_messagesFor 1 = .ok (.istore_n 2, 1) := by decide +kernel
theorem dX9_messagesFor_2 : decode cX9_messagesFor 2 = .ok (.iconst 0, 1) := by decide +kernel
theorem dX9_messagesFor_3 : decode cX9_messagesFor 3 = .ok (.istore_n 3, 1) := by decide +kernel
theorem dX9_messagesFor_4 : decode cX9_messagesFor 4 = .ok (.iload_n 3, 1) := by decide +kernel
theorem dX9_messagesFor_5 : decode cX9_messagesFor 5 = .ok (.aload_n 0, 1) := by decide +kernel
theorem dX9_messagesFor_6 : decode cX9_messagesFor 6 = .ok (.getfield 7, 3) := by decide +kernel
theorem dX9_messagesFor_9 : decode cX9_messagesFor 9 = .ok (.bipush 13, 2) := by decide +kernel
theorem dX9_messagesFor_11 : decode cX9_messagesFor 11 = .ok (.iaload, 1) := by decide +kernel
theorem dX9_messagesFor_12 : decode cX9_messagesFor 12 = .ok (.if_icmp .ge 32, 3) := by decide +kernel
theorem dX9_messagesFor_15 : decode cX9_messagesFor 15 = .ok (.iload_n 2, 1) := by decide +kernel
theorem dX9_messagesFor_16 : decode cX9_messagesFor 16 = .ok (.aload_n 0, 1) := by decide +kernel
theorem dX9_messagesFor_17 : decode cX9_messagesFor 17 = .ok (.getfield 7, 3) := by decide +kernel
theorem dX9_messagesFor_20 : decode cX9_messagesFor 20 = .ok (.bipush 14, 2) := by decide +kernel
theorem dX9_messagesFor_22 : decode cX9_messagesFor 22 = .ok (.iconst 2, 1) := by decide +kernel
theorem dX9_messagesFor_23 : decode cX9_messagesFor 23 = .ok (.iload_n 3, 1) := by decide +kernel
theorem dX9_messagesFor_24 : decode cX9_messagesFor 24 = .ok (.imul, 1) := by decide +kernel
theorem dX9_messagesFor_25 : decode cX9_messagesFor 25 = .ok (.iadd, 1) := by decide +kernel
theorem dX9_messagesFor_26 : decode cX9_messagesFor 26 = .ok (.iaload, 1) := by decide +kernel
theorem dX9_messagesFor_27 : decode cX9_messagesFor 27 = .ok (.iload_n 1, 1) := by decide +kernel
theorem dX9_messagesFor_28 : decode cX9_messagesFor 28 = .ok (.if_icmp .ne 7, 3) := by decide +kernel
theorem dX9_messagesFor_31 : decode cX9_messagesFor 31 = .ok (.iconst 1, 1) := by decide +kernel
theorem dX9_messagesFor_32 : decode cX9_messagesFor 32 = .ok (.goto 4, 3) := by decide +kernel
theorem dX9_messagesFor_35 : decode cX9_messagesFor 35 = .ok (.iconst 0, 1) := by decide +kernel
theorem dX9_messagesFor_36 : decode cX9_messagesFor 36 = .ok (.iadd, 1) := by decide +kernel
theorem dX9_messagesFor_37 : decode cX9_messagesFor 37 = .ok (.istore_n 2, 1) := by decide +kernel
theorem dX9_messagesFor_38 : decode cX9_messagesFor 38 = .ok (.iinc 3 1, 3) := by decide +kernel
theorem dX9_messagesFor_41 : decode cX9_messagesFor 41 = .ok (.goto (-37), 3) := by decide +kernel
theorem dX9_messagesFor_44 : decode cX9_messagesFor 44 = .ok (.iload_n 2, 1) := by decide +kernel
theorem dX9_messagesFor_45 : decode cX9_messagesFor 45 = .ok (.ireturn, 1) := by decide +kernel
theorem dX9_reads_0 : decode cX9_reads 0 = .ok (.iconst 0, 1) := by decide +kernel
theorem dX9_reads_1 : decode cX9_reads 1 = .ok (.istore_n 2, 1) := by decide +kernel
theorem dX9_reads_2 : decode cX9_reads 2 = .ok (.iconst 0, 1) := by decide +kernel
theorem dX9_reads_3 : decode cX9_reads 3 = .ok (.istore_n 3, 1) := by decide +kernel
theorem dX9_reads_4 : decode cX9_reads 4 = .ok (.iload_n 3, 1) := by decide +kernel
theorem dX9_reads_5 : decode cX9_reads 5 = .ok (.aload_n 0, 1) := by decide +kernel
theorem dX9_reads_6 : decode cX9_reads 6 = .ok (.getfield 7, 3) := by decide +kernel
theorem dX9_reads_9 : decode cX9_reads 9 = .ok (.bipush 13, 2) := by decide +kernel
theorem dX9_reads_11 : decode cX9_reads 11 = .ok (.iaload, 1) := by decide +kernel
theorem dX9_reads_12 : decode cX9_reads 12 = .ok (.if_icmp .ge 100, 3) := by decide +kernel
theorem dX9_reads_15 : decode cX9_reads 15 = .ok (.aload_n 0, 1) := by decide +kernel
theorem dX9_reads_16 : decode cX9_reads 16 = .ok (.getfield 7, 3) := by decide +kernel
theorem dX9_reads_19 : decode cX9_reads 19 = .ok (.bipush 14, 2) := by decide +kernel
theorem dX9_reads_21 : decode cX9_reads 21 = .ok (.iconst 2, 1) := by decide +kernel
theorem dX9_reads_22 : decode cX9_reads 22 = .ok (.iload_n 3, 1) := by decide +kernel
theorem dX9_reads_23 : decode cX9_reads 23 = .ok (.imul, 1) := by decide +kernel
theorem dX9_reads_24 : decode cX9_reads 24 = .ok (.iadd, 1) := by decide +kernel
theorem dX9_reads_25 : decode cX9_reads 25 = .ok (.iaload, 1) := by decide +kernel
theorem dX9_reads_26 : decode cX9_reads 26 = .ok (.istore 4, 2) := by decide +kernel
theorem dX9_reads_28 : decode cX9_reads 28 = .ok (.aload_n 0, 1) := by decide +kernel
theorem dX9_reads_29 : decode cX9_reads 29 = .ok (.getfield 7, 3) := by decide +kernel
theorem dX9_reads_32 : decode cX9_reads 32 = .ok (.bipush 14, 2) := by decide +kernel
theorem dX9_reads_34 : decode cX9_reads 34 = .ok (.iconst 2, 1) := by decide +kernel
theorem dX9_reads_35 : decode cX9_reads 35 = .ok (.iload_n 3, 1) := by decide +kernel
theorem dX9_reads_36 : decode cX9_reads 36 = .ok (.imul, 1) := by decide +kernel
theorem dX9_reads_37 : decode cX9_reads 37 = .ok (.iadd, 1) := by decide +kernel
theorem dX9_reads_38 : decode cX9_reads 38 = .ok (.iconst 1, 1) := by decide +kernel
theorem dX9_reads_39 : decode cX9_reads 39 = .ok (.iadd, 1) := by decide +kernel
theorem dX9_reads_40 : decode cX9_reads 40 = .ok (.iaload, 1) := by decide +kernel
theorem dX9_reads_41 : decode cX9_reads 41 = .ok (.istore 5, 2) := by decide +kernel
theorem dX9_reads_43 : decode cX9_reads 43 = .ok (.aload_n 0, 1) := by decide +kernel
theorem dX9_reads_44 : decode cX9_reads 44 = .ok (.getfield 7, 3) := by decide +kernel
theorem dX9_reads_47 : decode cX9_reads 47 = .ok (.bipush 14, 2) := by decide +kernel
theorem dX9_reads_49 : decode cX9_reads 49 = .ok (.iconst 2, 1) := by decide +kernel
theorem dX9_reads_50 : decode cX9_reads 50 = .ok (.iload_n 3, 1) := by decide +kernel
theorem dX9_reads_51 : decode cX9_reads 51 = .ok (.imul, 1) := by decide +kernel
theorem dX9_reads_52 : decode cX9_reads 52 = .ok (.iadd, 1) := by decide +kernel
theorem dX9_reads_53 : decode cX9_reads 53 = .ok (.iconst 0, 1) := by decide +kernel
theorem dX9_reads_54 : decode cX9_reads 54 = .ok (.iastore, 1) := by decide +kernel
theorem dX9_reads_55 : decode cX9_reads 55 = .ok (.aload_n 0, 1) := by decide +kernel
theorem dX9_reads_56 : decode cX9_reads 56 = .ok (.getfield 7, 3) := by decide +kernel
theorem dX9_reads_59 : decode cX9_reads 59 = .ok (.bipush 14, 2) := by decide +kernel
theorem dX9_reads_61 : decode cX9_reads 61 = .ok (.iconst 2, 1) := by decide +kernel
theorem dX9_reads_62 : decode cX9_reads 62 = .ok (.iload_n 3, 1) := by decide +kernel
theorem dX9_reads_63 : decode cX9_reads 63 = .ok (.imul, 1) := by decide +kernel
theorem dX9_reads_64 : decode cX9_reads 64 = .ok (.iadd, 1) := by decide +kernel
theorem dX9_reads_65 : decode cX9_reads 65 = .ok (.iconst 1, 1) := by decide +kernel
theorem dX9_reads_66 : decode cX9_reads 66 = .ok (.iadd, 1) := by decide +kernel
theorem dX9_reads_67 : decode cX9_reads 67 = .ok (.iconst 0, 1) := by decide +kernel
theorem dX9_reads_68 : decode cX9_reads 68 = .ok (.iastore, 1) := by decide +kernel
theorem dX9_reads_69 : decode cX9_reads 69 = .ok (.iload 4, 2) := by decide +kernel
theorem dX9_reads_71 : decode cX9_reads 71 = .ok (.iload_n 1, 1) := by decide +kernel
theorem dX9_reads_72 : decode cX9_reads 72 = .ok (.if_icmp .eq 34, 3) := by decide +kernel
theorem dX9_reads_75 : decode cX9_reads 75 = .ok (.aload_n 0, 1) := by decide +kernel
theorem dX9_reads_76 : decode cX9_reads 76 = .ok (.getfield 7, 3) := by decide +kernel
theorem dX9_reads_79 : decode cX9_reads 79 = .ok (.bipush 14, 2) := by decide +kernel
theorem dX9_reads_81 : decode cX9_reads 81 = .ok (.iconst 2, 1) := by decide +kernel
theorem dX9_reads_82 : decode cX9_reads 82 = .ok (.iload_n 2, 1) := by decide +kernel
theorem dX9_reads_83 : decode cX9_reads 83 = .ok (.imul, 1) := by decide +kernel
theorem dX9_reads_84 : decode cX9_reads 84 = .ok (.iadd, 1) := by decide +kernel
theorem dX9_reads_85 : decode cX9_reads 85 = .ok (.iload 4, 2) := by decide +kernel
theorem dX9_reads_87 : decode cX9_reads 87 = .ok (.iastore, 1) := by decide +kernel
theorem dX9_reads_88 : decode cX9_reads 88 = .ok (.aload_n 0, 1) := by decide +kernel
theorem dX9_reads_89 : decode cX9_reads 89 = .ok (.getfield 7, 3) := by decide +kernel
theorem dX9_reads_92 : decode cX9_reads 92 = .ok (.bipush 14, 2) := by decide +kernel
theorem dX9_reads_94 : decode cX9_reads 94 = .ok (.iconst 2, 1) := by decide +kernel
theorem dX9_reads_95 : decode cX9_reads 95 = .ok (.iload_n 2, 1) := by decide +kernel
theorem dX9_reads_96 : decode cX9_reads 96 = .ok (.imul, 1) := by decide +kernel
theorem dX9_reads_97 : decode cX9_reads 97 = .ok (.iadd, 1) := by decide +kernel
theorem dX9_reads_98 : decode cX9_reads 98 = .ok (.iconst 1, 1) := by decide +kernel
theorem dX9_reads_99 : decode cX9_reads 99 = .ok (.iadd, 1) := by decide +kernel
theorem dX9_reads_100 : decode cX9_reads 100 = .ok (.iload 5, 2) := by decide +kernel
theorem dX9_reads_102 : decode cX9_reads 102 = .ok (.iastore, 1) := by decide +kernel
theorem dX9_reads_103 : decode cX9_reads 103 = .ok (.iinc 2 1, 3) := by decide +kernel
theorem dX9_reads_106 : decode cX9_reads 106 = .ok (.iinc 3 1, 3) := by decide +kernel
theorem dX9_reads_109 : decode cX9_reads 109 = .ok (.goto (-105), 3) := by decide +kernel
theorem dX9_reads_112 : decode cX9_reads 112 = .ok (.aload_n 0, 1) := by decide +kernel
theorem dX9_reads_113 : decode cX9_reads 113 = .ok (.bipush 7, 2) := by decide +kernel
theorem dX9_reads_115 : decode cX9_reads 115 = .ok (.aload_n 0, 1) := by decide +kernel
theorem dX9_reads_116 : decode cX9_reads 116 = .ok (.getfield 7, 3) := by decide +kernel
theorem dX9_reads_119 : decode cX9_reads 119 = .ok (.bipush 13, 2) := by decide +kernel
theorem dX9_reads_121 : decode cX9_reads 121 = .ok (.iaload, 1) := by decide +kernel
theorem dX9_reads_122 : decode cX9_reads 122 = .ok (.iload_n 2, 1) := by decide +kernel
theorem dX9_reads_123 : decode cX9_reads 123 = .ok (.isub, 1) := by decide +kernel
theorem dX9_reads_124 : decode cX9_reads 124 = .ok (.invokevirtual 58, 3) := by decide +kernel
theorem dX9_reads_127 : decode cX9_reads 127 = .ok (.aload_n 0, 1) := by decide +kernel
theorem dX9_reads_128 : decode cX9_reads 128 = .ok (.getfield 7, 3) := by decide +kernel
theorem dX9_reads_131 : decode cX9_reads 131 = .ok (.bipush 13, 2) := by decide +kernel
theorem dX9_reads_133 : decode cX9_reads 133 = .ok (.iload_n 2, 1) := by decide +kernel
theorem dX9_reads_134 : decode cX9_reads 134 = .ok (.iastore, 1) := by decide +kernel
theorem dX9_reads_135 : decode cX9_reads 135 = .ok (.return_, 1) := by decide +kernel
theorem dX9_costOf_0 : decode cX9_costOf 0 = .ok (.aload_n 0, 1) := by decide +kernel
theorem dX9_costOf_1 : decode cX9_costOf 1 = .ok (.getfield 7, 3) := by decide +kernel
theorem dX9_costOf_4 : decode cX9_costOf 4 = .ok (.bipush 9, 2) := by decide +kernel
theorem dX9_costOf_6 : decode cX9_costOf 6 = .ok (.iaload, 1) := by decide +kernel
theorem dX9_costOf_7 : decode cX9_costOf 7 = .ok (.iload_n 1, 1) := by decide +kernel
theorem dX9_costOf_8 : decode cX9_costOf 8 = .ok (.aload_n 0, 1) := by decide +kernel
theorem dX9_costOf_9 : decode cX9_costOf 9 = .ok (.getfield 7, 3) := by decide +kernel
theorem dX9_costOf_12 : decode cX9_costOf 12 = .ok (.bipush 8, 2) := by decide +kernel
theorem dX9_costOf_14 : decode cX9_costOf 14 = .ok (.iaload, 1) := by decide +kernel
theorem dX9_costOf_15 : decode cX9_costOf 15 = .ok (.iadd, 1) := by decide +kernel
theorem dX9_costOf_16 : decode cX9_costOf 16 = .ok (.iconst 1, 1) := by decide +kernel
theorem dX9_costOf_17 : decode cX9_costOf 17 = .ok (.isub, 1) := by decide +kernel
theorem dX9_costOf_18 : decode cX9_costOf 18 = .ok (.aload_n 0, 1) := by decide +kernel
theorem dX9_costOf_19 : decode cX9_costOf 19 = .ok (.getfield 7, 3) := by decide +kernel
theorem dX9_costOf_22 : decode cX9_costOf 22 = .ok (.bipush 8, 2) := by decide +kernel
theorem dX9_costOf_24 : decode cX9_costOf 24 = .ok (.iaload, 1) := by decide +kernel
theorem dX9_costOf_25 : decode cX9_costOf 25 = .ok (.idiv, 1) := by decide +kernel
theorem dX9_costOf_26 : decode cX9_costOf 26 = .ok (.imul, 1) := by decide +kernel
theorem dX9_costOf_27 : decode cX9_costOf 27 = .ok (.ireturn, 1) := by decide +kernel
theorem dX9_hears_0 : decode cX9_hears 0 = .ok (.iload_n 1, 1) := by decide +kernel
theorem dX9_hears_1 : decode cX9_hears 1 = .ok (.iload_n 2, 1) := by decide +kernel
theorem dX9_hears_2 : decode cX9_hears 2 = .ok (.if_icmp .eq 42, 3) := by decide +kernel
theorem dX9_hears_5 : decode cX9_hears 5 = .ok (.aload_n 0, 1) := by decide +kernel
theorem dX9_hears_6 : decode cX9_hears 6 = .ok (.iload_n 1, 1) := by decide +kernel
theorem dX9_hears_7 : decode cX9_hears 7 = .ok (.iconst 2, 1) := by decide +kernel
theorem dX9_hears_8 : decode cX9_hears 8 = .ok (.invokevirtual 50, 3) := by decide +kernel
theorem dX9_hears_11 : decode cX9_hears 11 = .ok (.ifCond .ne 33, 3) := by decide +kernel
theorem dX9_hears_14 : decode cX9_hears 14 = .ok (.aload_n 0, 1) := by decide +kernel
theorem dX9_hears_15 : decode cX9_hears 15 = .ok (.iload_n 1, 1) := by decide +kernel
theorem dX9_hears_16 : decode cX9_hears 16 = .ok (.iconst 1, 1) := by decide +kernel
theorem dX9_hears_17 : decode cX9_hears 17 = .ok (.invokevirtual 50, 3) := by decide +kernel
theorem dX9_hears_20 : decode cX9_hears 20 = .ok (.iconst 1, 1) := by decide +kernel
theorem dX9_hears_21 : decode cX9_hears 21 = .ok (.if_icmp .ne 23, 3) := by decide +kernel
theorem dX9_hears_24 : decode cX9_hears 24 = .ok (.aload_n 0, 1) := by decide +kernel
theorem dX9_hears_25 : decode cX9_hears 25 = .ok (.iload_n 1, 1) := by decide +kernel
theorem dX9_hears_26 : decode cX9_hears 26 = .ok (.iconst 0, 1) := by decide +kernel
theorem dX9_hears_27 : decode cX9_hears 27 = .ok (.invokevirtual 50, 3) := by decide +kernel
theorem dX9_hears_30 : decode cX9_hears 30 = .ok (.aload_n 0, 1) := by decide +kernel
theorem dX9_hears_31 : decode cX9_hears 31 = .ok (.getfield 7, 3) := by decide +kernel
theorem dX9_hears_34 : decode cX9_hears 34 = .ok (.bipush 10, 2) := by decide +kernel
theorem dX9_hears_36 : decode cX9_hears 36 = .ok (.iaload, 1) := by decide +kernel
theorem dX9_hears_37 : decode cX9_hears 37 = .ok (.if_icmp .gt 7, 3) := by decide +kernel
theorem dX9_hears_40 : decode cX9_hears 40 = .ok (.iconst 1, 1) := by decide +kernel
theorem dX9_hears_41 : decode cX9_hears 41 = .ok (.goto 4, 3) := by decide +kernel
theorem dX9_hears_44 : decode cX9_hears 44 = .ok (.iconst 0, 1) := by decide +kernel
theorem dX9_hears_45 : decode cX9_hears 45 = .ok (.ireturn, 1) := by decide +kernel
theorem dX9_debts_0 : decode cX9_debts 0 = .ok (.iconst 0, 1) := by decide +kernel
theorem dX9_debts_1 : decode cX9_debts 1 = .ok (.istore_n 1, 1) := by decide +kernel
theorem dX9_debts_2 : decode cX9_debts 2 = .ok (.iconst 0, 1) := by decide +kernel
theorem dX9_debts_3 : decode cX9_debts 3 = .ok (.istore_n 2, 1) := by decide +kernel
theorem dX9_debts_4 : decode cX9_debts 4 = .ok (.iload_n 2, 1) := by decide +kernel
theorem dX9_debts_5 : decode cX9_debts 5 = .ok (.aload_n 0, 1) := by decide +kernel
theorem dX9_debts_6 : decode cX9_debts 6 = .ok (.getfield 7, 3) := by decide +kernel
theorem dX9_debts_9 : decode cX9_debts 9 = .ok (.iconst 0, 1) := by decide +kernel
theorem dX9_debts_10 : decode cX9_debts 10 = .ok (.iaload, 1) := by decide +kernel
theorem dX9_debts_11 : decode cX9_debts 11 = .ok (.if_icmp .ge 18, 3) := by decide +kernel
theorem dX9_debts_14 : decode cX9_debts 14 = .ok (.iload_n 1, 1) := by decide +kernel
theorem dX9_debts_15 : decode cX9_debts 15 = .ok (.aload_n 0, 1) := by decide +kernel
theorem dX9_debts_16 : decode cX9_debts 16 = .ok (.iload_n 2, 1) := by decide +kernel
theorem dX9_debts_17 : decode cX9_debts 17 = .ok (.iconst 5, 1) := by decide +kernel
theorem dX9_debts_18 : decode cX9_debts 18 = .ok (.invokevirtual 50, 3) := by decide +kernel
theorem dX9_debts_21 : decode cX9_debts 21 = .ok (.iadd, 1) := by decide +kernel
theorem dX9_debts_22 : decode cX9_debts 22 = .ok (.istore_n 1, 1) := by decide +kernel
theorem dX9_debts_23 : decode cX9_debts 23 = .ok (.iinc 2 1, 3) := by decide +kernel
theorem dX9_debts_26 : decode cX9_debts 26 = .ok (.goto (-22), 3) := by decide +kernel
theorem dX9_debts_29 : decode cX9_debts 29 = .ok (.iload_n 1, 1) := by decide +kernel
theorem dX9_debts_30 : decode cX9_debts 30 = .ok (.ireturn, 1) := by decide +kernel
theorem dX9_speaks_0 : decode cX9_speaks 0 = .ok (.aload_n 0, 1) := by decide +kernel
theorem dX9_speaks_1 : decode cX9_speaks 1 = .ok (.iload_n 1, 1) := by decide +kernel
theorem dX9_speaks_2 : decode cX9_speaks 2 = .ok (.iconst 2, 1) := by decide +kernel
theorem dX9_speaks_3 : decode cX9_speaks 3 = .ok (.iconst 3, 1) := by decide +kernel
theorem dX9_speaks_4 : decode cX9_speaks 4 = .ok (.invokevirtual 62, 3) := by decide +kernel
theorem dX9_speaks_7 : decode cX9_speaks 7 = .ok (.aload_n 0, 1) := by decide +kernel
theorem dX9_speaks_8 : decode cX9_speaks 8 = .ok (.iload_n 1, 1) := by decide +kernel
theorem dX9_speaks_9 : decode cX9_speaks 9 = .ok (.iconst 4, 1) := by decide +kernel
theorem dX9_speaks_10 : decode cX9_speaks 10 = .ok (.iconst 0, 1) := by decide +kernel
theorem dX9_speaks_11 : decode cX9_speaks 11 = .ok (.invokevirtual 62, 3) := by decide +kernel
theorem dX9_speaks_14 : decode cX9_speaks 14 = .ok (.aload_n 0, 1) := by decide +kernel
theorem dX9_speaks_15 : decode cX9_speaks 15 = .ok (.getfield 7, 3) := by decide +kernel
theorem dX9_speaks_18 : decode cX9_speaks 18 = .ok (.iconst 2, 1) := by decide +kernel
theorem dX9_speaks_19 : decode cX9_speaks 19 = .ok (.iconst 2, 1) := by decide +kernel
theorem dX9_speaks_20 : decode cX9_speaks 20 = .ok (.iastore, 1) := by decide +kernel
theorem dX9_speaks_21 : decode cX9_speaks 21 = .ok (.aload_n 0, 1) := by decide +kernel
theorem dX9_speaks_22 : decode cX9_speaks 22 = .ok (.getfield 7, 3) := by decide +kernel
theorem dX9_speaks_25 : decode cX9_speaks 25 = .ok (.iconst 3, 1) := by decide +kernel
theorem dX9_speaks_26 : decode cX9_speaks 26 = .ok (.iload_n 1, 1) := by decide +kernel
theorem dX9_speaks_27 : decode cX9_speaks 27 = .ok (.iastore, 1) := by decide +kernel
theorem dX9_speaks_28 : decode cX9_speaks 28 = .ok (.aload_n 0, 1) := by decide +kernel
theorem dX9_speaks_29 : decode cX9_speaks 29 = .ok (.getfield 7, 3) := by decide +kernel
theorem dX9_speaks_32 : decode cX9_speaks 32 = .ok (.iconst 4, 1) := by decide +kernel
theorem dX9_speaks_33 : decode cX9_speaks 33 = .ok (.iconst 0, 1) := by decide +kernel
theorem dX9_speaks_34 : decode cX9_speaks 34 = .ok (.iastore, 1) := by decide +kernel
theorem dX9_speaks_35 : decode cX9_speaks 35 = .ok (.aload_n 0, 1) := by decide +kernel
theorem dX9_speaks_36 : decode cX9_speaks 36 = .ok (.getfield 7, 3) := by decide +kernel
theorem dX9_speaks_39 : decode cX9_speaks 39 = .ok (.iconst 5, 1) := by decide +kernel
theorem dX9_speaks_40 : decode cX9_speaks 40 = .ok (.iload_n 2, 1) := by decide +kernel
theorem dX9_speaks_41 : decode cX9_speaks 41 = .ok (.iastore, 1) := by decide +kernel
theorem dX9_speaks_42 : decode cX9_speaks 42 = .ok (.aload_n 0, 1) := by decide +kernel
theorem dX9_speaks_43 : decode cX9_speaks 43 = .ok (.getfield 7, 3) := by decide +kernel
theorem dX9_speaks_46 : decode cX9_speaks 46 = .ok (.bipush 6, 2) := by decide +kernel
theorem dX9_speaks_48 : decode cX9_speaks 48 = .ok (.iload_n 3, 1) := by decide +kernel
theorem dX9_speaks_49 : decode cX9_speaks 49 = .ok (.ifCond .eq 7, 3) := by decide +kernel
theorem dX9_speaks_52 : decode cX9_speaks 52 = .ok (.iconst 1, 1) := by decide +kernel
theorem dX9_speaks_53 : decode cX9_speaks 53 = .ok (.goto 4, 3) := by decide +kernel
theorem dX9_speaks_56 : decode cX9_speaks 56 = .ok (.iconst 0, 1) := by decide +kernel
theorem dX9_speaks_57 : decode cX9_speaks 57 = .ok (.iastore, 1) := by decide +kernel
theorem dX9_speaks_58 : decode cX9_speaks 58 = .ok (.return_, 1) := by decide +kernel
theorem dX9_lies_0 : decode cX9_lies 0 = .ok (.aload_n 0, 1) := by decide +kernel
theorem dX9_lies_1 : decode cX9_lies 1 = .ok (.getfield 7, 3) := by decide +kernel
theorem dX9_lies_4 : decode cX9_lies 4 = .ok (.iconst 2, 1) := by decide +kernel
theorem dX9_lies_5 : decode cX9_lies 5 = .ok (.iconst 0, 1) := by decide +kernel
theorem dX9_lies_6 : decode cX9_lies 6 = .ok (.iastore, 1) := by decide +kernel
theorem dX9_lies_7 : decode cX9_lies 7 = .ok (.aload_n 0, 1) := by decide +kernel
theorem dX9_lies_8 : decode cX9_lies 8 = .ok (.getfield 7, 3) := by decide +kernel
theorem dX9_lies_11 : decode cX9_lies 11 = .ok (.iconst 3, 1) := by decide +kernel
theorem dX9_lies_12 : decode cX9_lies 12 = .ok (.iconst 0, 1) := by decide +kernel
theorem dX9_lies_13 : decode cX9_lies 13 = .ok (.iastore, 1) := by decide +kernel
theorem dX9_lies_14 : decode cX9_lies 14 = .ok (.aload_n 0, 1) := by decide +kernel
theorem dX9_lies_15 : decode cX9_lies 15 = .ok (.getfield 7, 3) := by decide +kernel
theorem dX9_lies_18 : decode cX9_lies 18 = .ok (.iconst 4, 1) := by decide +kernel
theorem dX9_lies_19 : decode cX9_lies 19 = .ok (.iconst 0, 1) := by decide +kernel
theorem dX9_lies_20 : decode cX9_lies 20 = .ok (.iastore, 1) := by decide +kernel
theorem dX9_lies_21 : decode cX9_lies 21 = .ok (.aload_n 0, 1) := by decide +kernel
theorem dX9_lies_22 : decode cX9_lies 22 = .ok (.getfield 7, 3) := by decide +kernel
theorem dX9_lies_25 : decode cX9_lies 25 = .ok (.iconst 5, 1) := by decide +kernel
theorem dX9_lies_26 : decode cX9_lies 26 = .ok (.iconst 0, 1) := by decide +kernel
theorem dX9_lies_27 : decode cX9_lies 27 = .ok (.iastore, 1) := by decide +kernel
theorem dX9_lies_28 : decode cX9_lies 28 = .ok (.aload_n 0, 1) := by decide +kernel
theorem dX9_lies_29 : decode cX9_lies 29 = .ok (.getfield 7, 3) := by decide +kernel
theorem dX9_lies_32 : decode cX9_lies 32 = .ok (.bipush 6, 2) := by decide +kernel
theorem dX9_lies_34 : decode cX9_lies 34 = .ok (.iconst 0, 1) := by decide +kernel
theorem dX9_lies_35 : decode cX9_lies 35 = .ok (.iastore, 1) := by decide +kernel
theorem dX9_lies_36 : decode cX9_lies 36 = .ok (.return_, 1) := by decide +kernel
theorem dX9_ends_0 : decode cX9_ends 0 = .ok (.aload_n 0, 1) := by decide +kernel
theorem dX9_ends_1 : decode cX9_ends 1 = .ok (.getfield 7, 3) := by decide +kernel
theorem dX9_ends_4 : decode cX9_ends 4 = .ok (.iconst 3, 1) := by decide +kernel
theorem dX9_ends_5 : decode cX9_ends 5 = .ok (.iaload, 1) := by decide +kernel
theorem dX9_ends_6 : decode cX9_ends 6 = .ok (.istore_n 1, 1) := by decide +kernel
theorem dX9_ends_7 : decode cX9_ends 7 = .ok (.aload_n 0, 1) := by decide +kernel
theorem dX9_ends_8 : decode cX9_ends 8 = .ok (.getfield 7, 3) := by decide +kernel
theorem dX9_ends_11 : decode cX9_ends 11 = .ok (.bipush 6, 2) := by decide +kernel
theorem dX9_ends_13 : decode cX9_ends 13 = .ok (.iaload, 1) := by decide +kernel
theorem dX9_ends_14 : decode cX9_ends 14 = .ok (.iconst 1, 1) := by decide +kernel
theorem dX9_ends_15 : decode cX9_ends 15 = .ok (.if_icmp .ne 7, 3) := by decide +kernel
theorem dX9_ends_18 : decode cX9_ends 18 = .ok (.iconst 0, 1) := by decide +kernel
theorem dX9_ends_19 : decode cX9_ends 19 = .ok (.goto 13, 3) := by decide +kernel
theorem dX9_ends_22 : decode cX9_ends 22 = .ok (.aload_n 0, 1) := by decide +kernel
theorem dX9_ends_23 : decode cX9_ends 23 = .ok (.aload_n 0, 1) := by decide +kernel
theorem dX9_ends_24 : decode cX9_ends 24 = .ok (.getfield 7, 3) := by decide +kernel
theorem dX9_ends_27 : decode cX9_ends 27 = .ok (.iconst 4, 1) := by decide +kernel
theorem dX9_ends_28 : decode cX9_ends 28 = .ok (.iaload, 1) := by decide +kernel
theorem dX9_ends_29 : decode cX9_ends 29 = .ok (.invokevirtual 66, 3) := by decide +kernel
theorem dX9_ends_32 : decode cX9_ends 32 = .ok (.istore_n 2, 1) := by decide +kernel
theorem dX9_ends_33 : decode cX9_ends 33 = .ok (.aload_n 0, 1) := by decide +kernel
theorem dX9_ends_34 : decode cX9_ends 34 = .ok (.iload_n 1, 1) := by decide +kernel
theorem dX9_ends_35 : decode cX9_ends 35 = .ok (.iconst 2, 1) := by decide +kernel
theorem dX9_ends_36 : decode cX9_ends 36 = .ok (.iconst 0, 1) := by decide +kernel
theorem dX9_ends_37 : decode cX9_ends 37 = .ok (.invokevirtual 62, 3) := by decide +kernel
theorem dX9_ends_40 : decode cX9_ends 40 = .ok (.aload_n 0, 1) := by decide +kernel
theorem dX9_ends_41 : decode cX9_ends 41 = .ok (.iload_n 1, 1) := by decide +kernel
theorem dX9_ends_42 : decode cX9_ends 42 = .ok (.iconst 5, 1) := by decide +kernel
theorem dX9_ends_43 : decode cX9_ends 43 = .ok (.iload_n 2, 1) := by decide +kernel
theorem dX9_ends_44 : decode cX9_ends 44 = .ok (.invokevirtual 69, 3) := by decide +kernel
theorem dX9_ends_47 : decode cX9_ends 47 = .ok (.aload_n 0, 1) := by decide +kernel
theorem dX9_ends_48 : decode cX9_ends 48 = .ok (.iload_n 1, 1) := by decide +kernel
theorem dX9_ends_49 : decode cX9_ends 49 = .ok (.bipush 7, 2) := by decide +kernel
theorem dX9_ends_51 : decode cX9_ends 51 = .ok (.iconst 1, 1) := by decide +kernel
theorem dX9_ends_52 : decode cX9_ends 52 = .ok (.invokevirtual 69, 3) := by decide +kernel
theorem dX9_ends_55 : decode cX9_ends 55 = .ok (.aload_n 0, 1) := by decide +kernel
theorem dX9_ends_56 : decode cX9_ends 56 = .ok (.iconst 4, 1) := by decide +kernel
theorem dX9_ends_57 : decode cX9_ends 57 = .ok (.iload_n 2, 1) := by decide +kernel
theorem dX9_ends_58 : decode cX9_ends 58 = .ok (.invokevirtual 58, 3) := by decide +kernel
theorem dX9_ends_61 : decode cX9_ends 61 = .ok (.aload_n 0, 1) := by decide +kernel
theorem dX9_ends_62 : decode cX9_ends 62 = .ok (.iconst 1, 1) := by decide +kernel
theorem dX9_ends_63 : decode cX9_ends 63 = .ok (.iconst 1, 1) := by decide +kernel
theorem dX9_ends_64 : decode cX9_ends 64 = .ok (.invokevirtual 58, 3) := by decide +kernel
theorem dX9_ends_67 : decode cX9_ends 67 = .ok (.aload_n 0, 1) := by decide +kernel
theorem dX9_ends_68 : decode cX9_ends 68 = .ok (.getfield 7, 3) := by decide +kernel
theorem dX9_ends_71 : decode cX9_ends 71 = .ok (.bipush 41, 2) := by decide +kernel
theorem dX9_ends_73 : decode cX9_ends 73 = .ok (.dup2, 1) := by decide +kernel
theorem dX9_ends_74 : decode cX9_ends 74 = .ok (.iaload, 1) := by decide +kernel
theorem dX9_ends_75 : decode cX9_ends 75 = .ok (.aload_n 0, 1) := by decide +kernel
theorem dX9_ends_76 : decode cX9_ends 76 = .ok (.getfield 7, 3) := by decide +kernel
theorem dX9_ends_79 : decode cX9_ends 79 = .ok (.iconst 4, 1) := by decide +kernel
theorem dX9_ends_80 : decode cX9_ends 80 = .ok (.iaload, 1) := by decide +kernel
theorem dX9_ends_81 : decode cX9_ends 81 = .ok (.iadd, 1) := by decide +kernel
theorem dX9_ends_82 : decode cX9_ends 82 = .ok (.iastore, 1) := by decide +kernel
theorem dX9_ends_83 : decode cX9_ends 83 = .ok (.aload_n 0, 1) := by decide +kernel
theorem dX9_ends_84 : decode cX9_ends 84 = .ok (.invokevirtual 72, 3) := by decide +kernel
theorem dX9_ends_87 : decode cX9_ends 87 = .ok (.return_, 1) := by decide +kernel
theorem dX9_talks_0 : decode cX9_talks 0 = .ok (.aload_n 0, 1) := by decide +kernel
theorem dX9_talks_1 : decode cX9_talks 1 = .ok (.getfield 7, 3) := by decide +kernel
theorem dX9_talks_4 : decode cX9_talks 4 = .ok (.iconst 3, 1) := by decide +kernel
theorem dX9_talks_5 : decode cX9_talks 5 = .ok (.iaload, 1) := by decide +kernel
theorem dX9_talks_6 : decode cX9_talks 6 = .ok (.istore_n 1, 1) := by decide +kernel
theorem dX9_talks_7 : decode cX9_talks 7 = .ok (.aload_n 0, 1) := by decide +kernel
theorem dX9_talks_8 : decode cX9_talks 8 = .ok (.getfield 7, 3) := by decide +kernel
theorem dX9_talks_11 : decode cX9_talks 11 = .ok (.iconst 4, 1) := by decide +kernel
theorem dX9_talks_12 : decode cX9_talks 12 = .ok (.dup2, 1) := by decide +kernel
theorem dX9_talks_13 : decode cX9_talks 13 = .ok (.iaload, 1) := by decide +kernel
theorem dX9_talks_14 : decode cX9_talks 14 = .ok (.iconst 1, 1) := by decide +kernel
theorem dX9_talks_15 : decode cX9_talks 15 = .ok (.iadd, 1) := by decide +kernel
theorem dX9_talks_16 : decode cX9_talks 16 = .ok (.iastore, 1) := by decide +kernel
theorem dX9_talks_17 : decode cX9_talks 17 = .ok (.aload_n 0, 1) := by decide +kernel
theorem dX9_talks_18 : decode cX9_talks 18 = .ok (.getfield 7, 3) := by decide +kernel
theorem dX9_talks_21 : decode cX9_talks 21 = .ok (.iconst 5, 1) := by decide +kernel
theorem dX9_talks_22 : decode cX9_talks 22 = .ok (.dup2, 1) := by decide +kernel
theorem dX9_talks_23 : decode cX9_talks 23 = .ok (.iaload, 1) := by decide +kernel
theorem dX9_talks_24 : decode cX9_talks 24 = .ok (.iconst 1, 1) := by decide +kernel
theorem dX9_talks_25 : decode cX9_talks 25 = .ok (.isub, 1) := by decide +kernel
theorem dX9_talks_26 : decode cX9_talks 26 = .ok (.iastore, 1) := by decide +kernel
theorem dX9_talks_27 : decode cX9_talks 27 = .ok (.aload_n 0, 1) := by decide +kernel
theorem dX9_talks_28 : decode cX9_talks 28 = .ok (.iload_n 1, 1) := by decide +kernel
theorem dX9_talks_29 : decode cX9_talks 29 = .ok (.bipush 6, 2) := by decide +kernel
theorem dX9_talks_31 : decode cX9_talks 31 = .ok (.iconst 1, 1) := by decide +kernel
theorem dX9_talks_32 : decode cX9_talks 32 = .ok (.invokevirtual 69, 3) := by decide +kernel
theorem dX9_talks_35 : decode cX9_talks 35 = .ok (.aload_n 0, 1) := by decide +kernel
theorem dX9_talks_36 : decode cX9_talks 36 = .ok (.iconst 3, 1) := by decide +kernel
theorem dX9_talks_37 : decode cX9_talks 37 = .ok (.iconst 1, 1) := by decide +kernel
theorem dX9_talks_38 : decode cX9_talks 38 = .ok (.invokevirtual 58, 3) := by decide +kernel
theorem dX9_talks_41 : decode cX9_talks 41 = .ok (.iconst 0, 1) := by decide +kernel
theorem dX9_talks_42 : decode cX9_talks 42 = .ok (.istore_n 2, 1) := by decide +kernel
theorem dX9_talks_43 : decode cX9_talks 43 = .ok (.iload_n 2, 1) := by decide +kernel
theorem dX9_talks_44 : decode cX9_talks 44 = .ok (.aload_n 0, 1) := by decide +kernel
theorem dX9_talks_45 : decode cX9_talks 45 = .ok (.getfield 7, 3) := by decide +kernel
theorem dX9_talks_48 : decode cX9_talks 48 = .ok (.iconst 0, 1) := by decide +kernel
theorem dX9_talks_49 : decode cX9_talks 49 = .ok (.iaload, 1) := by decide +kernel
theorem dX9_talks_50 : decode cX9_talks 50 = .ok (.if_icmp .ge 44, 3) := by decide +kernel
theorem dX9_talks_53 : decode cX9_talks 53 = .ok (.aload_n 0, 1) := by decide +kernel
theorem dX9_talks_54 : decode cX9_talks 54 = .ok (.iload_n 2, 1) := by decide +kernel
theorem dX9_talks_55 : decode cX9_talks 55 = .ok (.iload_n 1, 1) := by decide +kernel
theorem dX9_talks_56 : decode cX9_talks 56 = .ok (.invokevirtual 75, 3) := by decide +kernel
theorem dX9_talks_59 : decode cX9_talks 59 = .ok (.ifCond .eq 29, 3) := by decide +kernel
theorem dX9_talks_62 : decode cX9_talks 62 = .ok (.aload_n 0, 1) := by decide +kernel
theorem dX9_talks_63 : decode cX9_talks 63 = .ok (.getfield 7, 3) := by decide +kernel
theorem dX9_talks_66 : decode cX9_talks 66 = .ok (.sipush 142, 3) := by decide +kernel
theorem dX9_talks_69 : decode cX9_talks 69 = .ok (.bipush 10, 2) := by decide +kernel
theorem dX9_talks_71 : decode cX9_talks 71 = .ok (.iload_n 2, 1) := by decide +kernel
theorem dX9_talks_72 : decode cX9_talks 72 = .ok (.imul, 1) := by decide +kernel
theorem dX9_talks_73 : decode cX9_talks 73 = .ok (.iadd, 1) := by decide +kernel
theorem dX9_talks_74 : decode cX9_talks 74 = .ok (.iload_n 1, 1) := by decide +kernel
theorem dX9_talks_75 : decode cX9_talks 75 = .ok (.iadd, 1) := by decide +kernel
theorem dX9_talks_76 : decode cX9_talks 76 = .ok (.dup2, 1) := by decide +kernel
theorem dX9_talks_77 : decode cX9_talks 77 = .ok (.iaload, 1) := by decide +kernel
theorem dX9_talks_78 : decode cX9_talks 78 = .ok (.iconst 1, 1) := by decide +kernel
theorem dX9_talks_79 : decode cX9_talks 79 = .ok (.iadd, 1) := by decide +kernel
theorem dX9_talks_80 : decode cX9_talks 80 = .ok (.iastore, 1) := by decide +kernel
theorem dX9_talks_81 : decode cX9_talks 81 = .ok (.aload_n 0, 1) := by decide +kernel
theorem dX9_talks_82 : decode cX9_talks 82 = .ok (.bipush 9, 2) := by decide +kernel
theorem dX9_talks_84 : decode cX9_talks 84 = .ok (.iconst 1, 1) := by decide +kernel
theorem dX9_talks_85 : decode cX9_talks 85 = .ok (.invokevirtual 58, 3) := by decide +kernel
theorem dX9_talks_88 : decode cX9_talks 88 = .ok (.iinc 2 1, 3) := by decide +kernel
theorem dX9_talks_91 : decode cX9_talks 91 = .ok (.goto (-48), 3) := by decide +kernel
theorem dX9_talks_94 : decode cX9_talks 94 = .ok (.return_, 1) := by decide +kernel
theorem dX9_arrives_0 : decode cX9_arrives 0 = .ok (.aload_n 0, 1) := by decide +kernel
theorem dX9_arrives_1 : decode cX9_arrives 1 = .ok (.iload_n 1, 1) := by decide +kernel
theorem dX9_arrives_2 : decode cX9_arrives 2 = .ok (.iconst 3, 1) := by decide +kernel
theorem dX9_arrives_3 : decode cX9_arrives 3 = .ok (.iconst 0, 1) := by decide +kernel
theorem dX9_arrives_4 : decode cX9_arrives 4 = .ok (.invokevirtual 62, 3) := by decide +kernel
theorem dX9_arrives_7 : decode cX9_arrives 7 = .ok (.aload_n 0, 1) := by decide +kernel
theorem dX9_arrives_8 : decode cX9_arrives 8 = .ok (.iload_n 1, 1) := by decide +kernel
theorem dX9_arrives_9 : decode cX9_arrives 9 = .ok (.invokevirtual 79, 3) := by decide +kernel
theorem dX9_arrives_12 : decode cX9_arrives 12 = .ok (.aload_n 0, 1) := by decide +kernel
theorem dX9_arrives_13 : decode cX9_arrives 13 = .ok (.iload_n 1, 1) := by decide +kernel
theorem dX9_arrives_14 : decode cX9_arrives 14 = .ok (.invokevirtual 82, 3) := by decide +kernel
theorem dX9_arrives_17 : decode cX9_arrives 17 = .ok (.ifCond .eq 16, 3) := by decide +kernel
theorem dX9_arrives_20 : decode cX9_arrives 20 = .ok (.aload_n 0, 1) := by decide +kernel
theorem dX9_arrives_21 : decode cX9_arrives 21 = .ok (.iload_n 1, 1) := by decide +kernel
theorem dX9_arrives_22 : decode cX9_arrives 22 = .ok (.aload_n 0, 1) := by decide +kernel
theorem dX9_arrives_23 : decode cX9_arrives 23 = .ok (.getfield 7, 3) := by decide +kernel
theorem dX9_arrives_26 : decode cX9_arrives 26 = .ok (.iconst 5, 1) := by decide +kernel
theorem dX9_arrives_27 : decode cX9_arrives 27 = .ok (.iaload, 1) := by decide +kernel
theorem dX9_arrives_28 : decode cX9_arrives 28 = .ok (.iconst 1, 1) := by decide +kernel
theorem dX9_arrives_29 : decode cX9_arrives 29 = .ok (.invokevirtual 86, 3) := by decide +kernel
theorem dX9_arrives_32 : decode cX9_arrives 32 = .ok (.return_, 1) := by decide +kernel
theorem dX9_arrives_33 : decode cX9_arrives 33 = .ok (.aload_n 0, 1) := by decide +kernel
theorem dX9_arrives_34 : decode cX9_arrives 34 = .ok (.iload_n 1, 1) := by decide +kernel
theorem dX9_arrives_35 : decode cX9_arrives 35 = .ok (.iconst 2, 1) := by decide +kernel
theorem dX9_arrives_36 : decode cX9_arrives 36 = .ok (.iconst 2, 1) := by decide +kernel
theorem dX9_arrives_37 : decode cX9_arrives 37 = .ok (.invokevirtual 62, 3) := by decide +kernel
theorem dX9_arrives_40 : decode cX9_arrives 40 = .ok (.aload_n 0, 1) := by decide +kernel
theorem dX9_arrives_41 : decode cX9_arrives 41 = .ok (.getfield 7, 3) := by decide +kernel
theorem dX9_arrives_44 : decode cX9_arrives 44 = .ok (.bipush 31, 2) := by decide +kernel
theorem dX9_arrives_46 : decode cX9_arrives 46 = .ok (.aload_n 0, 1) := by decide +kernel
theorem dX9_arrives_47 : decode cX9_arrives 47 = .ok (.getfield 7, 3) := by decide +kernel
theorem dX9_arrives_50 : decode cX9_arrives 50 = .ok (.bipush 30, 2) := by decide +kernel
theorem dX9_arrives_52 : decode cX9_arrives 52 = .ok (.iaload, 1) := by decide +kernel
theorem dX9_arrives_53 : decode cX9_arrives 53 = .ok (.iadd, 1) := by decide +kernel
theorem dX9_arrives_54 : decode cX9_arrives 54 = .ok (.iload_n 1, 1) := by decide +kernel
theorem dX9_arrives_55 : decode cX9_arrives 55 = .ok (.iastore, 1) := by decide +kernel
theorem dX9_arrives_56 : decode cX9_arrives 56 = .ok (.aload_n 0, 1) := by decide +kernel
theorem dX9_arrives_57 : decode cX9_arrives 57 = .ok (.getfield 7, 3) := by decide +kernel
theorem dX9_arrives_60 : decode cX9_arrives 60 = .ok (.bipush 30, 2) := by decide +kernel
theorem dX9_arrives_62 : decode cX9_arrives 62 = .ok (.dup2, 1) := by decide +kernel
theorem dX9_arrives_63 : decode cX9_arrives 63 = .ok (.iaload, 1) := by decide +kernel
theorem dX9_arrives_64 : decode cX9_arrives 64 = .ok (.iconst 1, 1) := by decide +kernel
theorem dX9_arrives_65 : decode cX9_arrives 65 = .ok (.iadd, 1) := by decide +kernel
theorem dX9_arrives_66 : decode cX9_arrives 66 = .ok (.iastore, 1) := by decide +kernel
theorem dX9_arrives_67 : decode cX9_arrives 67 = .ok (.return_, 1) := by decide +kernel
theorem dX9_minute_0 : decode cX9_minute 0 = .ok (.aload_n 0, 1) := by decide +kernel
theorem dX9_minute_1 : decode cX9_minute 1 = .ok (.getfield 7, 3) := by decide +kernel
theorem dX9_minute_4 : decode cX9_minute 4 = .ok (.iconst 1, 1) := by decide +kernel
theorem dX9_minute_5 : decode cX9_minute 5 = .ok (.dup2, 1) := by decide +kernel
theorem dX9_minute_6 : decode cX9_minute 6 = .ok (.iaload, 1) := by decide +kernel
theorem dX9_minute_7 : decode cX9_minute 7 = .ok (.iconst 1, 1) := by decide +kernel
theorem dX9_minute_8 : decode cX9_minute 8 = .ok (.iadd, 1) := by decide +kernel
theorem dX9_minute_9 : decode cX9_minute 9 = .ok (.iastore, 1) := by decide +kernel
theorem dX9_minute_10 : decode cX9_minute 10 = .ok (.aload_n 0, 1) := by decide +kernel
theorem dX9_minute_11 : decode cX9_minute 11 = .ok (.iconst 0, 1) := by decide +kernel
theorem dX9_minute_12 : decode cX9_minute 12 = .ok (.iconst 1, 1) := by decide +kernel
theorem dX9_minute_13 : decode cX9_minute 13 = .ok (.invokevirtual 58, 3) := by decide +kernel
theorem dX9_minute_16 : decode cX9_minute 16 = .ok (.aload_n 0, 1) := by decide +kernel
theorem dX9_minute_17 : decode cX9_minute 17 = .ok (.getfield 7, 3) := by decide +kernel
theorem dX9_minute_20 : decode cX9_minute 20 = .ok (.iconst 2, 1) := by decide +kernel
theorem dX9_minute_21 : decode cX9_minute 21 = .ok (.iaload, 1) := by decide +kernel
theorem dX9_minute_22 : decode cX9_minute 22 = .ok (.iconst 2, 1) := by decide +kernel
theorem dX9_minute_23 : decode cX9_minute 23 = .ok (.if_icmp .ne 7, 3) := by decide +kernel
theorem dX9_minute_26 : decode cX9_minute 26 = .ok (.aload_n 0, 1) := by decide +kernel
theorem dX9_minute_27 : decode cX9_minute 27 = .ok (.invokevirtual 90, 3) := by decide +kernel
theorem dX9_minute_30 : decode cX9_minute 30 = .ok (.iconst 0, 1) := by decide +kernel
theorem dX9_minute_31 : decode cX9_minute 31 = .ok (.istore_n 1, 1) := by decide +kernel
theorem dX9_minute_32 : decode cX9_minute 32 = .ok (.iload_n 1, 1) := by decide +kernel
theorem dX9_minute_33 : decode cX9_minute 33 = .ok (.aload_n 0, 1) := by decide +kernel
theorem dX9_minute_34 : decode cX9_minute 34 = .ok (.getfield 7, 3) := by decide +kernel
theorem dX9_minute_37 : decode cX9_minute 37 = .ok (.iconst 0, 1) := by decide +kernel
theorem dX9_minute_38 : decode cX9_minute 38 = .ok (.iaload, 1) := by decide +kernel
theorem dX9_minute_39 : decode cX9_minute 39 = .ok (.if_icmp .ge 40, 3) := by decide +kernel
theorem dX9_minute_42 : decode cX9_minute 42 = .ok (.aload_n 0, 1) := by decide +kernel
theorem dX9_minute_43 : decode cX9_minute 43 = .ok (.iload_n 1, 1) := by decide +kernel
theorem dX9_minute_44 : decode cX9_minute 44 = .ok (.iconst 2, 1) := by decide +kernel
theorem dX9_minute_45 : decode cX9_minute 45 = .ok (.invokevirtual 50, 3) := by decide +kernel
theorem dX9_minute_48 : decode cX9_minute 48 = .ok (.iconst 1, 1) := by decide +kernel
theorem dX9_minute_49 : decode cX9_minute 49 = .ok (.if_icmp .ne 24, 3) := by decide +kernel
theorem dX9_minute_52 : decode cX9_minute 52 = .ok (.aload_n 0, 1) := by decide +kernel
theorem dX9_minute_53 : decode cX9_minute 53 = .ok (.iload_n 1, 1) := by decide +kernel
theorem dX9_minute_54 : decode cX9_minute 54 = .ok (.iconst 3, 1) := by decide +kernel
theorem dX9_minute_55 : decode cX9_minute 55 = .ok (.iconst (-1), 1) := by decide +kernel
theorem dX9_minute_56 : decode cX9_minute 56 = .ok (.invokevirtual 69, 3) := by decide +kernel
theorem dX9_minute_59 : decode cX9_minute 59 = .ok (.aload_n 0, 1) := by decide +kernel
theorem dX9_minute_60 : decode cX9_minute 60 = .ok (.iload_n 1, 1) := by decide +kernel
theorem dX9_minute_61 : decode cX9_minute 61 = .ok (.iconst 3, 1) := by decide +kernel
theorem dX9_minute_62 : decode cX9_minute 62 = .ok (.invokevirtual 50, 3) := by decide +kernel
theorem dX9_minute_65 : decode cX9_minute 65 = .ok (.ifCond .ne 8, 3) := by decide +kernel
theorem dX9_minute_68 : decode cX9_minute 68 = .ok (.aload_n 0, 1) := by decide +kernel
theorem dX9_minute_69 : decode cX9_minute 69 = .ok (.iload_n 1, 1) := by decide +kernel
theorem dX9_minute_70 : decode cX9_minute 70 = .ok (.invokevirtual 93, 3) := by decide +kernel
theorem dX9_minute_73 : decode cX9_minute 73 = .ok (.iinc 1 1, 3) := by decide +kernel
theorem dX9_minute_76 : decode cX9_minute 76 = .ok (.goto (-44), 3) := by decide +kernel
theorem dX9_minute_79 : decode cX9_minute 79 = .ok (.aload_n 0, 1) := by decide +kernel
theorem dX9_minute_80 : decode cX9_minute 80 = .ok (.getfield 7, 3) := by decide +kernel
theorem dX9_minute_83 : decode cX9_minute 83 = .ok (.bipush 7, 2) := by decide +kernel
theorem dX9_minute_85 : decode cX9_minute 85 = .ok (.iaload, 1) := by decide +kernel
theorem dX9_minute_86 : decode cX9_minute 86 = .ok (.ifCond .le 33, 3) := by decide +kernel
theorem dX9_minute_89 : decode cX9_minute 89 = .ok (.aload_n 0, 1) := by decide +kernel
theorem dX9_minute_90 : decode cX9_minute 90 = .ok (.getfield 7, 3) := by decide +kernel
theorem dX9_minute_93 : decode cX9_minute 93 = .ok (.iconst 4, 1) := by decide +kernel
theorem dX9_minute_94 : decode cX9_minute 94 = .ok (.iaload, 1) := by decide +kernel
theorem dX9_minute_95 : decode cX9_minute 95 = .ok (.aload_n 0, 1) := by decide +kernel
theorem dX9_minute_96 : decode cX9_minute 96 = .ok (.getfield 7, 3) := by decide +kernel
theorem dX9_minute_99 : decode cX9_minute 99 = .ok (.bipush 7, 2) := by decide +kernel
theorem dX9_minute_101 : decode cX9_minute 101 = .ok (.iaload, 1) := by decide +kernel
theorem dX9_minute_102 : decode cX9_minute 102 = .ok (.if_icmp .lt 17, 3) := by decide +kernel
theorem dX9_minute_105 : decode cX9_minute 105 = .ok (.aload_n 0, 1) := by decide +kernel
theorem dX9_minute_106 : decode cX9_minute 106 = .ok (.getfield 7, 3) := by decide +kernel
theorem dX9_minute_109 : decode cX9_minute 109 = .ok (.bipush 30, 2) := by decide +kernel
theorem dX9_minute_111 : decode cX9_minute 111 = .ok (.iaload, 1) := by decide +kernel
theorem dX9_minute_112 : decode cX9_minute 112 = .ok (.ifCond .le 7, 3) := by decide +kernel
theorem dX9_minute_115 : decode cX9_minute 115 = .ok (.iconst 1, 1) := by decide +kernel
theorem dX9_minute_116 : decode cX9_minute 116 = .ok (.goto 4, 3) := by decide +kernel
theorem dX9_minute_119 : decode cX9_minute 119 = .ok (.iconst 0, 1) := by decide +kernel
theorem dX9_minute_120 : decode cX9_minute 120 = .ok (.istore_n 1, 1) := by decide +kernel
theorem dX9_minute_121 : decode cX9_minute 121 = .ok (.aload_n 0, 1) := by decide +kernel
theorem dX9_minute_122 : decode cX9_minute 122 = .ok (.getfield 7, 3) := by decide +kernel
theorem dX9_minute_125 : decode cX9_minute 125 = .ok (.iconst 2, 1) := by decide +kernel
theorem dX9_minute_126 : decode cX9_minute 126 = .ok (.iaload, 1) := by decide +kernel
theorem dX9_minute_127 : decode cX9_minute 127 = .ok (.iconst 2, 1) := by decide +kernel
theorem dX9_minute_128 : decode cX9_minute 128 = .ok (.if_icmp .ne 39, 3) := by decide +kernel
theorem dX9_minute_131 : decode cX9_minute 131 = .ok (.aload_n 0, 1) := by decide +kernel
theorem dX9_minute_132 : decode cX9_minute 132 = .ok (.getfield 7, 3) := by decide +kernel
theorem dX9_minute_135 : decode cX9_minute 135 = .ok (.iconst 5, 1) := by decide +kernel
theorem dX9_minute_136 : decode cX9_minute 136 = .ok (.iaload, 1) := by decide +kernel
theorem dX9_minute_137 : decode cX9_minute 137 = .ok (.ifCond .eq 7, 3) := by decide +kernel
theorem dX9_minute_140 : decode cX9_minute 140 = .ok (.iload_n 1, 1) := by decide +kernel
theorem dX9_minute_141 : decode cX9_minute 141 = .ok (.ifCond .eq 26, 3) := by decide +kernel
theorem dX9_minute_144 : decode cX9_minute 144 = .ok (.aload_n 0, 1) := by decide +kernel
theorem dX9_minute_145 : decode cX9_minute 145 = .ok (.iconst 2, 1) := by decide +kernel
theorem dX9_minute_146 : decode cX9_minute 146 = .ok (.aload_n 0, 1) := by decide +kernel
theorem dX9_minute_147 : decode cX9_minute 147 = .ok (.getfield 7, 3) := by decide +kernel
theorem dX9_minute_150 : decode cX9_minute 150 = .ok (.iconst 5, 1) := by decide +kernel
theorem dX9_minute_151 : decode cX9_minute 151 = .ok (.iaload, 1) := by decide +kernel
theorem dX9_minute_152 : decode cX9_minute 152 = .ok (.ifCond .le 7, 3) := by decide +kernel
theorem dX9_minute_155 : decode cX9_minute 155 = .ok (.iconst 1, 1) := by decide +kernel
theorem dX9_minute_156 : decode cX9_minute 156 = .ok (.goto 4, 3) := by decide +kernel
theorem dX9_minute_159 : decode cX9_minute 159 = .ok (.iconst 0, 1) := by decide +kernel
theorem dX9_minute_160 : decode cX9_minute 160 = .ok (.invokevirtual 58, 3) := by decide +kernel
theorem dX9_minute_163 : decode cX9_minute 163 = .ok (.aload_n 0, 1) := by decide +kernel
theorem dX9_minute_164 : decode cX9_minute 164 = .ok (.invokevirtual 96, 3) := by decide +kernel
theorem dX9_minute_167 : decode cX9_minute 167 = .ok (.aload_n 0, 1) := by decide +kernel
theorem dX9_minute_168 : decode cX9_minute 168 = .ok (.getfield 7, 3) := by decide +kernel
theorem dX9_minute_171 : decode cX9_minute 171 = .ok (.iconst 2, 1) := by decide +kernel
theorem dX9_minute_172 : decode cX9_minute 172 = .ok (.iaload, 1) := by decide +kernel
theorem dX9_minute_173 : decode cX9_minute 173 = .ok (.ifCond .ne 40, 3) := by decide +kernel
theorem dX9_minute_176 : decode cX9_minute 176 = .ok (.aload_n 0, 1) := by decide +kernel
theorem dX9_minute_177 : decode cX9_minute 177 = .ok (.getfield 7, 3) := by decide +kernel
theorem dX9_minute_180 : decode cX9_minute 180 = .ok (.bipush 30, 2) := by decide +kernel
theorem dX9_minute_182 : decode cX9_minute 182 = .ok (.iaload, 1) := by decide +kernel
theorem dX9_minute_183 : decode cX9_minute 183 = .ok (.ifCond .le 30, 3) := by decide +kernel
theorem dX9_minute_186 : decode cX9_minute 186 = .ok (.aload_n 0, 1) := by decide +kernel
theorem dX9_minute_187 : decode cX9_minute 187 = .ok (.getfield 7, 3) := by decide +kernel
theorem dX9_minute_190 : decode cX9_minute 190 = .ok (.bipush 31, 2) := by decide +kernel
theorem dX9_minute_192 : decode cX9_minute 192 = .ok (.iaload, 1) := by decide +kernel
theorem dX9_minute_193 : decode cX9_minute 193 = .ok (.istore_n 2, 1) := by decide +kernel
theorem dX9_minute_194 : decode cX9_minute 194 = .ok (.aload_n 0, 1) := by decide +kernel
theorem dX9_minute_195 : decode cX9_minute 195 = .ok (.iload_n 2, 1) := by decide +kernel
theorem dX9_minute_196 : decode cX9_minute 196 = .ok (.iconst 4, 1) := by decide +kernel
theorem dX9_minute_197 : decode cX9_minute 197 = .ok (.invokevirtual 50, 3) := by decide +kernel
theorem dX9_minute_200 : decode cX9_minute 200 = .ok (.istore_n 3, 1) := by decide +kernel
theorem dX9_minute_201 : decode cX9_minute 201 = .ok (.aload_n 0, 1) := by decide +kernel
theorem dX9_minute_202 : decode cX9_minute 202 = .ok (.iload_n 2, 1) := by decide +kernel
theorem dX9_minute_203 : decode cX9_minute 203 = .ok (.invokevirtual 99, 3) := by decide +kernel
theorem dX9_minute_206 : decode cX9_minute 206 = .ok (.aload_n 0, 1) := by decide +kernel
theorem dX9_minute_207 : decode cX9_minute 207 = .ok (.iload_n 2, 1) := by decide +kernel
theorem dX9_minute_208 : decode cX9_minute 208 = .ok (.iload_n 3, 1) := by decide +kernel
theorem dX9_minute_209 : decode cX9_minute 209 = .ok (.iconst 0, 1) := by decide +kernel
theorem dX9_minute_210 : decode cX9_minute 210 = .ok (.invokevirtual 86, 3) := by decide +kernel
theorem dX9_minute_213 : decode cX9_minute 213 = .ok (.iconst 0, 1) := by decide +kernel
theorem dX9_minute_214 : decode cX9_minute 214 = .ok (.istore_n 2, 1) := by decide +kernel
theorem dX9_minute_215 : decode cX9_minute 215 = .ok (.iload_n 2, 1) := by decide +kernel
theorem dX9_minute_216 : decode cX9_minute 216 = .ok (.aload_n 0, 1) := by decide +kernel
theorem dX9_minute_217 : decode cX9_minute 217 = .ok (.getfield 7, 3) := by decide +kernel
theorem dX9_minute_220 : decode cX9_minute 220 = .ok (.iconst 0, 1) := by decide +kernel
theorem dX9_minute_221 : decode cX9_minute 221 = .ok (.iaload, 1) := by decide +kernel
theorem dX9_minute_222 : decode cX9_minute 222 = .ok (.if_icmp .ge 31, 3) := by decide +kernel
theorem dX9_minute_225 : decode cX9_minute 225 = .ok (.aload_n 0, 1) := by decide +kernel
theorem dX9_minute_226 : decode cX9_minute 226 = .ok (.iload_n 2, 1) := by decide +kernel
theorem dX9_minute_227 : decode cX9_minute 227 = .ok (.bipush 8, 2) := by decide +kernel
theorem dX9_minute_229 : decode cX9_minute 229 = .ok (.aload_n 0, 1) := by decide +kernel
theorem dX9_minute_230 : decode cX9_minute 230 = .ok (.iload_n 2, 1) := by decide +kernel
theorem dX9_minute_231 : decode cX9_minute 231 = .ok (.iconst 2, 1) := by decide +kernel
theorem dX9_minute_232 : decode cX9_minute 232 = .ok (.invokevirtual 50, 3) := by decide +kernel
theorem dX9_minute_235 : decode cX9_minute 235 = .ok (.iconst 2, 1) := by decide +kernel
theorem dX9_minute_236 : decode cX9_minute 236 = .ok (.if_icmp .ne 7, 3) := by decide +kernel
theorem dX9_minute_239 : decode cX9_minute 239 = .ok (.iconst 1, 1) := by decide +kernel
theorem dX9_minute_240 : decode cX9_minute 240 = .ok (.goto 4, 3) := by decide +kernel
theorem dX9_minute_243 : decode cX9_minute 243 = .ok (.iconst 0, 1) := by decide +kernel
theorem dX9_minute_244 : decode cX9_minute 244 = .ok (.invokevirtual 69, 3) := by decide +kernel
theorem dX9_minute_247 : decode cX9_minute 247 = .ok (.iinc 2 1, 3) := by decide +kernel
theorem dX9_minute_250 : decode cX9_minute 250 = .ok (.goto (-35), 3) := by decide +kernel
theorem dX9_minute_253 : decode cX9_minute 253 = .ok (.return_, 1) := by decide +kernel
theorem dX9_minutes_0 : decode cX9_minutes 0 = .ok (.aload_n 0, 1) := by decide +kernel
theorem dX9_minutes_1 : decode cX9_minutes 1 = .ok (.getfield 7, 3) := by decide +kernel
theorem dX9_minutes_4 : decode cX9_minutes 4 = .ok (.bipush 43, 2) := by decide +kernel
theorem dX9_minutes_6 : decode cX9_minutes 6 = .ok (.iaload, 1) := by decide +kernel
theorem dX9_minutes_7 : decode cX9_minutes 7 = .ok (.istore_n 2, 1) := by decide +kernel
theorem dX9_minutes_8 : decode cX9_minutes 8 = .ok (.iconst 0, 1) := by decide +kernel
theorem dX9_minutes_9 : decode cX9_minutes 9 = .ok (.istore_n 3, 1) := by decide +kernel
theorem dX9_minutes_10 : decode cX9_minutes 10 = .ok (.iload_n 3, 1) := by decide +kernel
theorem dX9_minutes_11 : decode cX9_minutes 11 = .ok (.iload_n 1, 1) := by decide +kernel
theorem dX9_minutes_12 : decode cX9_minutes 12 = .ok (.if_icmp .ge 13, 3) := by decide +kernel
theorem dX9_minutes_15 : decode cX9_minutes 15 = .ok (.aload_n 0, 1) := by decide +kernel
theorem dX9_minutes_16 : decode cX9_minutes 16 = .ok (.invokevirtual 102, 3) := by decide +kernel
theorem dX9_minutes_19 : decode cX9_minutes 19 = .ok (.iinc 3 1, 3) := by decide +kernel
theorem dX9_minutes_22 : decode cX9_minutes 22 = .ok (.goto (-12), 3) := by decide +kernel
theorem dX9_minutes_25 : decode cX9_minutes 25 = .ok (.aload_n 0, 1) := by decide +kernel
theorem dX9_minutes_26 : decode cX9_minutes 26 = .ok (.getfield 7, 3) := by decide +kernel
theorem dX9_minutes_29 : decode cX9_minutes 29 = .ok (.bipush 43, 2) := by decide +kernel
theorem dX9_minutes_31 : decode cX9_minutes 31 = .ok (.iaload, 1) := by decide +kernel
theorem dX9_minutes_32 : decode cX9_minutes 32 = .ok (.iload_n 2, 1) := by decide +kernel
theorem dX9_minutes_33 : decode cX9_minutes 33 = .ok (.isub, 1) := by decide +kernel
theorem dX9_minutes_34 : decode cX9_minutes 34 = .ok (.ireturn, 1) := by decide +kernel
theorem dX9_wants_0 : decode cX9_wants 0 = .ok (.aload_n 0, 1) := by decide +kernel
theorem dX9_wants_1 : decode cX9_wants 1 = .ok (.iload_n 1, 1) := by decide +kernel
theorem dX9_wants_2 : decode cX9_wants 2 = .ok (.iconst 2, 1) := by decide +kernel
theorem dX9_wants_3 : decode cX9_wants 3 = .ok (.invokevirtual 50, 3) := by decide +kernel
theorem dX9_wants_6 : decode cX9_wants 6 = .ok (.ifCond .eq 6, 3) := by decide +kernel
theorem dX9_wants_9 : decode cX9_wants 9 = .ok (.bipush (-2), 2) := by decide +kernel
theorem dX9_wants_11 : decode cX9_wants 11 = .ok (.ireturn, 1) := by decide +kernel
theorem dX9_wants_12 : decode cX9_wants 12 = .ok (.aload_n 0, 1) := by decide +kernel
theorem dX9_wants_13 : decode cX9_wants 13 = .ok (.iload_n 1, 1) := by decide +kernel
theorem dX9_wants_14 : decode cX9_wants 14 = .ok (.iconst 2, 1) := by decide +kernel
theorem dX9_wants_15 : decode cX9_wants 15 = .ok (.iconst 1, 1) := by decide +kernel
theorem dX9_wants_16 : decode cX9_wants 16 = .ok (.invokevirtual 62, 3) := by decide +kernel
theorem dX9_wants_19 : decode cX9_wants 19 = .ok (.aload_n 0, 1) := by decide +kernel
theorem dX9_wants_20 : decode cX9_wants 20 = .ok (.iload_n 1, 1) := by decide +kernel
theorem dX9_wants_21 : decode cX9_wants 21 = .ok (.iconst 3, 1) := by decide +kernel
theorem dX9_wants_22 : decode cX9_wants 22 = .ok (.iconst 1, 1) := by decide +kernel
theorem dX9_wants_23 : decode cX9_wants 23 = .ok (.aload_n 0, 1) := by decide +kernel
theorem dX9_wants_24 : decode cX9_wants 24 = .ok (.iload_n 1, 1) := by decide +kernel
theorem dX9_wants_25 : decode cX9_wants 25 = .ok (.iconst 0, 1) := by decide +kernel
theorem dX9_wants_26 : decode cX9_wants 26 = .ok (.invokevirtual 50, 3) := by decide +kernel
theorem dX9_wants_29 : decode cX9_wants 29 = .ok (.iadd, 1) := by decide +kernel
theorem dX9_wants_30 : decode cX9_wants 30 = .ok (.invokevirtual 62, 3) := by decide +kernel
theorem dX9_wants_33 : decode cX9_wants 33 = .ok (.aload_n 0, 1) := by decide +kernel
theorem dX9_wants_34 : decode cX9_wants 34 = .ok (.iload_n 1, 1) := by decide +kernel
theorem dX9_wants_35 : decode cX9_wants 35 = .ok (.iconst 4, 1) := by decide +kernel
theorem dX9_wants_36 : decode cX9_wants 36 = .ok (.iload_n 2, 1) := by decide +kernel
theorem dX9_wants_37 : decode cX9_wants 37 = .ok (.invokevirtual 62, 3) := by decide +kernel
theorem dX9_wants_40 : decode cX9_wants 40 = .ok (.aload_n 0, 1) := by decide +kernel
theorem dX9_wants_41 : decode cX9_wants 41 = .ok (.iload_n 1, 1) := by decide +kernel
theorem dX9_wants_42 : decode cX9_wants 42 = .ok (.iconst 3, 1) := by decide +kernel
theorem dX9_wants_43 : decode cX9_wants 43 = .ok (.invokevirtual 50, 3) := by decide +kernel
theorem dX9_wants_46 : decode cX9_wants 46 = .ok (.ireturn, 1) := by decide +kernel
theorem dX9_gives_0 : decode cX9_gives 0 = .ok (.aload_n 0, 1) := by decide +kernel
theorem dX9_gives_1 : decode cX9_gives 1 = .ok (.iload_n 1, 1) := by decide +kernel
theorem dX9_gives_2 : decode cX9_gives 2 = .ok (.iconst 2, 1) := by decide +kernel
theorem dX9_gives_3 : decode cX9_gives 3 = .ok (.invokevirtual 50, 3) := by decide +kernel
theorem dX9_gives_6 : decode cX9_gives 6 = .ok (.iconst 1, 1) := by decide +kernel
theorem dX9_gives_7 : decode cX9_gives 7 = .ok (.if_icmp .ne 15, 3) := by decide +kernel
theorem dX9_gives_10 : decode cX9_gives 10 = .ok (.aload_n 0, 1) := by decide +kernel
theorem dX9_gives_11 : decode cX9_gives 11 = .ok (.iload_n 1, 1) := by decide +kernel
theorem dX9_gives_12 : decode cX9_gives 12 = .ok (.invokevirtual 82, 3) := by decide +kernel
theorem dX9_gives_15 : decode cX9_gives 15 = .ok (.ifCond .ne 7, 3) := by decide +kernel
theorem dX9_gives_18 : decode cX9_gives 18 = .ok (.iconst 1, 1) := by decide +kernel
theorem dX9_gives_19 : decode cX9_gives 19 = .ok (.goto 4, 3) := by decide +kernel
theorem dX9_gives_22 : decode cX9_gives 22 = .ok (.iconst 0, 1) := by decide +kernel
theorem dX9_gives_23 : decode cX9_gives 23 = .ok (.istore_n 2, 1) := by decide +kernel
theorem dX9_gives_24 : decode cX9_gives 24 = .ok (.iload_n 2, 1) := by decide +kernel
theorem dX9_gives_25 : decode cX9_gives 25 = .ok (.ifCond .ne 16, 3) := by decide +kernel
theorem dX9_gives_28 : decode cX9_gives 28 = .ok (.aload_n 0, 1) := by decide +kernel
theorem dX9_gives_29 : decode cX9_gives 29 = .ok (.iload_n 1, 1) := by decide +kernel
theorem dX9_gives_30 : decode cX9_gives 30 = .ok (.iconst 2, 1) := by decide +kernel
theorem dX9_gives_31 : decode cX9_gives 31 = .ok (.invokevirtual 50, 3) := by decide +kernel
theorem dX9_gives_34 : decode cX9_gives 34 = .ok (.iconst 2, 1) := by decide +kernel
theorem dX9_gives_35 : decode cX9_gives 35 = .ok (.if_icmp .eq 6, 3) := by decide +kernel
theorem dX9_gives_38 : decode cX9_gives 38 = .ok (.bipush (-3), 2) := by decide +kernel
theorem dX9_gives_40 : decode cX9_gives 40 = .ok (.ireturn, 1) := by decide +kernel
theorem dX9_gives_41 : decode cX9_gives 41 = .ok (.iload_n 2, 1) := by decide +kernel
theorem dX9_gives_42 : decode cX9_gives 42 = .ok (.ifCond .ne 8, 3) := by decide +kernel
theorem dX9_gives_45 : decode cX9_gives 45 = .ok (.aload_n 0, 1) := by decide +kernel
theorem dX9_gives_46 : decode cX9_gives 46 = .ok (.iload_n 1, 1) := by decide +kernel
theorem dX9_gives_47 : decode cX9_gives 47 = .ok (.invokevirtual 99, 3) := by decide +kernel
theorem dX9_gives_50 : decode cX9_gives 50 = .ok (.aload_n 0, 1) := by decide +kernel
theorem dX9_gives_51 : decode cX9_gives 51 = .ok (.iload_n 1, 1) := by decide +kernel
theorem dX9_gives_52 : decode cX9_gives 52 = .ok (.iconst 4, 1) := by decide +kernel
theorem dX9_gives_53 : decode cX9_gives 53 = .ok (.invokevirtual 50, 3) := by decide +kernel
theorem dX9_gives_56 : decode cX9_gives 56 = .ok (.istore_n 3, 1) := by decide +kernel
theorem dX9_gives_57 : decode cX9_gives 57 = .ok (.aload_n 0, 1) := by decide +kernel
theorem dX9_gives_58 : decode cX9_gives 58 = .ok (.iload_n 1, 1) := by decide +kernel
theorem dX9_gives_59 : decode cX9_gives 59 = .ok (.iconst 2, 1) := by decide +kernel
theorem dX9_gives_60 : decode cX9_gives 60 = .ok (.iconst 0, 1) := by decide +kernel
theorem dX9_gives_61 : decode cX9_gives 61 = .ok (.invokevirtual 62, 3) := by decide +kernel
theorem dX9_gives_64 : decode cX9_gives 64 = .ok (.aload_n 0, 1) := by decide +kernel
theorem dX9_gives_65 : decode cX9_gives 65 = .ok (.iload_n 1, 1) := by decide +kernel
theorem dX9_gives_66 : decode cX9_gives 66 = .ok (.iconst 3, 1) := by decide +kernel
theorem dX9_gives_67 : decode cX9_gives 67 = .ok (.iconst 0, 1) := by decide +kernel
theorem dX9_gives_68 : decode cX9_gives 68 = .ok (.invokevirtual 62, 3) := by decide +kernel
theorem dX9_gives_71 : decode cX9_gives 71 = .ok (.aload_n 0, 1) := by decide +kernel
theorem dX9_gives_72 : decode cX9_gives 72 = .ok (.iload_n 1, 1) := by decide +kernel
theorem dX9_gives_73 : decode cX9_gives 73 = .ok (.iconst 4, 1) := by decide +kernel
theorem dX9_gives_74 : decode cX9_gives 74 = .ok (.iconst 0, 1) := by decide +kernel
theorem dX9_gives_75 : decode cX9_gives 75 = .ok (.invokevirtual 62, 3) := by decide +kernel
theorem dX9_gives_78 : decode cX9_gives 78 = .ok (.iload_n 3, 1) := by decide +kernel
theorem dX9_gives_79 : decode cX9_gives 79 = .ok (.ireturn, 1) := by decide +kernel
theorem dX9_hangs_0 : decode cX9_hangs 0 = .ok (.aload_n 0, 1) := by decide +kernel
theorem dX9_hangs_1 : decode cX9_hangs 1 = .ok (.iload_n 1, 1) := by decide +kernel
theorem dX9_hangs_2 : decode cX9_hangs 2 = .ok (.iconst 2, 1) := by decide +kernel
theorem dX9_hangs_3 : decode cX9_hangs 3 = .ok (.invokevirtual 50, 3) := by decide +kernel
theorem dX9_hangs_6 : decode cX9_hangs 6 = .ok (.iconst 3, 1) := by decide +kernel
theorem dX9_hangs_7 : decode cX9_hangs 7 = .ok (.if_icmp .eq 6, 3) := by decide +kernel
theorem dX9_hangs_10 : decode cX9_hangs 10 = .ok (.bipush (-4), 2) := by decide +kernel
theorem dX9_hangs_12 : decode cX9_hangs 12 = .ok (.ireturn, 1) := by decide +kernel
theorem dX9_hangs_13 : decode cX9_hangs 13 = .ok (.aload_n 0, 1) := by decide +kernel
theorem dX9_hangs_14 : decode cX9_hangs 14 = .ok (.getfield 7, 3) := by decide +kernel
theorem dX9_hangs_17 : decode cX9_hangs 17 = .ok (.iconst 4, 1) := by decide +kernel
theorem dX9_hangs_18 : decode cX9_hangs 18 = .ok (.iaload, 1) := by decide +kernel
theorem dX9_hangs_19 : decode cX9_hangs 19 = .ok (.istore_n 2, 1) := by decide +kernel
theorem dX9_hangs_20 : decode cX9_hangs 20 = .ok (.aload_n 0, 1) := by decide +kernel
theorem dX9_hangs_21 : decode cX9_hangs 21 = .ok (.invokevirtual 96, 3) := by decide +kernel
theorem dX9_hangs_24 : decode cX9_hangs 24 = .ok (.iload_n 2, 1) := by decide +kernel
theorem dX9_hangs_25 : decode cX9_hangs 25 = .ok (.ireturn, 1) := by decide +kernel
theorem dX9_outcome_0 : decode cX9_outcome 0 = .ok (.aload_n 0, 1) := by decide +kernel
theorem dX9_outcome_1 : decode cX9_outcome 1 = .ok (.getfield 7, 3) := by decide +kernel
theorem dX9_outcome_4 : decode cX9_outcome 4 = .ok (.iconst 2, 1) := by decide +kernel
theorem dX9_outcome_5 : decode cX9_outcome 5 = .ok (.iaload, 1) := by decide +kernel
theorem dX9_outcome_6 : decode cX9_outcome 6 = .ok (.ifCond .eq 5, 3) := by decide +kernel
theorem dX9_outcome_9 : decode cX9_outcome 9 = .ok (.iconst 5, 1) := by decide +kernel
theorem dX9_outcome_10 : decode cX9_outcome 10 = .ok (.ireturn, 1) := by decide +kernel
theorem dX9_outcome_11 : decode cX9_outcome 11 = .ok (.aload_n 0, 1) := by decide +kernel
theorem dX9_outcome_12 : decode cX9_outcome 12 = .ok (.iload_n 1, 1) := by decide +kernel
theorem dX9_outcome_13 : decode cX9_outcome 13 = .ok (.iconst 2, 1) := by decide +kernel
theorem dX9_outcome_14 : decode cX9_outcome 14 = .ok (.invokevirtual 50, 3) := by decide +kernel
theorem dX9_outcome_17 : decode cX9_outcome 17 = .ok (.ifCond .ne 21, 3) := by decide +kernel
theorem dX9_outcome_20 : decode cX9_outcome 20 = .ok (.aload_n 0, 1) := by decide +kernel
theorem dX9_outcome_21 : decode cX9_outcome 21 = .ok (.iload_n 1, 1) := by decide +kernel
theorem dX9_outcome_22 : decode cX9_outcome 22 = .ok (.iconst 0, 1) := by decide +kernel
theorem dX9_outcome_23 : decode cX9_outcome 23 = .ok (.invokevirtual 50, 3) := by decide +kernel
theorem dX9_outcome_26 : decode cX9_outcome 26 = .ok (.aload_n 0, 1) := by decide +kernel
theorem dX9_outcome_27 : decode cX9_outcome 27 = .ok (.getfield 7, 3) := by decide +kernel
theorem dX9_outcome_30 : decode cX9_outcome 30 = .ok (.bipush 12, 2) := by decide +kernel
theorem dX9_outcome_32 : decode cX9_outcome 32 = .ok (.iaload, 1) := by decide +kernel
theorem dX9_outcome_33 : decode cX9_outcome 33 = .ok (.if_icmp .gt 5, 3) := by decide +kernel
theorem dX9_outcome_36 : decode cX9_outcome 36 = .ok (.iconst 0, 1) := by decide +kernel
theorem dX9_outcome_37 : decode cX9_outcome 37 = .ok (.ireturn, 1) := by decide +kernel
theorem dX9_outcome_38 : decode cX9_outcome 38 = .ok (.aload_n 0, 1) := by decide +kernel
theorem dX9_outcome_39 : decode cX9_outcome 39 = .ok (.iload_n 1, 1) := by decide +kernel
theorem dX9_outcome_40 : decode cX9_outcome 40 = .ok (.iconst 2, 1) := by decide +kernel
theorem dX9_outcome_41 : decode cX9_outcome 41 = .ok (.invokevirtual 50, 3) := by decide +kernel
theorem dX9_outcome_44 : decode cX9_outcome 44 = .ok (.iconst 2, 1) := by decide +kernel
theorem dX9_outcome_45 : decode cX9_outcome 45 = .ok (.if_icmp .ne 7, 3) := by decide +kernel
theorem dX9_outcome_48 : decode cX9_outcome 48 = .ok (.iconst 1, 1) := by decide +kernel
theorem dX9_outcome_49 : decode cX9_outcome 49 = .ok (.goto 20, 3) := by decide +kernel
theorem dX9_outcome_52 : decode cX9_outcome 52 = .ok (.aload_n 0, 1) := by decide +kernel
theorem dX9_outcome_53 : decode cX9_outcome 53 = .ok (.getfield 7, 3) := by decide +kernel
theorem dX9_outcome_56 : decode cX9_outcome 56 = .ok (.bipush 13, 2) := by decide +kernel
theorem dX9_outcome_58 : decode cX9_outcome 58 = .ok (.iaload, 1) := by decide +kernel
theorem dX9_outcome_59 : decode cX9_outcome 59 = .ok (.bipush 8, 2) := by decide +kernel
theorem dX9_outcome_61 : decode cX9_outcome 61 = .ok (.if_icmp .ge 7, 3) := by decide +kernel
theorem dX9_outcome_64 : decode cX9_outcome 64 = .ok (.iconst 2, 1) := by decide +kernel
theorem dX9_outcome_65 : decode cX9_outcome 65 = .ok (.goto 4, 3) := by decide +kernel
theorem dX9_outcome_68 : decode cX9_outcome 68 = .ok (.iconst 3, 1) := by decide +kernel
theorem dX9_outcome_69 : decode cX9_outcome 69 = .ok (.ireturn, 1) := by decide +kernel
theorem dX9_rings_0 : decode cX9_rings 0 = .ok (.aload_n 0, 1) := by decide +kernel
theorem dX9_rings_1 : decode cX9_rings 1 = .ok (.iload_n 1, 1) := by decide +kernel
theorem dX9_rings_2 : decode cX9_rings 2 = .ok (.invokevirtual 105, 3) := by decide +kernel
theorem dX9_rings_5 : decode cX9_rings 5 = .ok (.istore_n 3, 1) := by decide +kernel
theorem dX9_rings_6 : decode cX9_rings 6 = .ok (.iload_n 3, 1) := by decide +kernel
theorem dX9_rings_7 : decode cX9_rings 7 = .ok (.tableswitch 167 0 3 #[29, 81, 95, 158], 29) := by decide +kernel
theorem dX9_rings_36 : decode cX9_rings 36 = .ok (.aload_n 0, 1) := by decide +kernel
theorem dX9_rings_37 : decode cX9_rings 37 = .ok (.getfield 7, 3) := by decide +kernel
theorem dX9_rings_40 : decode cX9_rings 40 = .ok (.iconst 2, 1) := by decide +kernel
theorem dX9_rings_41 : decode cX9_rings 41 = .ok (.iconst 1, 1) := by decide +kernel
theorem dX9_rings_42 : decode cX9_rings 42 = .ok (.iastore, 1) := by decide +kernel
theorem dX9_rings_43 : decode cX9_rings 43 = .ok (.aload_n 0, 1) := by decide +kernel
theorem dX9_rings_44 : decode cX9_rings 44 = .ok (.getfield 7, 3) := by decide +kernel
theorem dX9_rings_47 : decode cX9_rings 47 = .ok (.iconst 3, 1) := by decide +kernel
theorem dX9_rings_48 : decode cX9_rings 48 = .ok (.iload_n 1, 1) := by decide +kernel
theorem dX9_rings_49 : decode cX9_rings 49 = .ok (.iastore, 1) := by decide +kernel
theorem dX9_rings_50 : decode cX9_rings 50 = .ok (.aload_n 0, 1) := by decide +kernel
theorem dX9_rings_51 : decode cX9_rings 51 = .ok (.getfield 7, 3) := by decide +kernel
theorem dX9_rings_54 : decode cX9_rings 54 = .ok (.iconst 5, 1) := by decide +kernel
theorem dX9_rings_55 : decode cX9_rings 55 = .ok (.iload_n 2, 1) := by decide +kernel
theorem dX9_rings_56 : decode cX9_rings 56 = .ok (.iastore, 1) := by decide +kernel
theorem dX9_rings_57 : decode cX9_rings 57 = .ok (.aload_n 0, 1) := by decide +kernel
theorem dX9_rings_58 : decode cX9_rings 58 = .ok (.getfield 7, 3) := by decide +kernel
theorem dX9_rings_61 : decode cX9_rings 61 = .ok (.bipush 6, 2) := by decide +kernel
theorem dX9_rings_63 : decode cX9_rings 63 = .ok (.iconst 1, 1) := by decide +kernel
theorem dX9_rings_64 : decode cX9_rings 64 = .ok (.iastore, 1) := by decide +kernel
theorem dX9_rings_65 : decode cX9_rings 65 = .ok (.aload_n 0, 1) := by decide +kernel
theorem dX9_rings_66 : decode cX9_rings 66 = .ok (.iload_n 1, 1) := by decide +kernel
theorem dX9_rings_67 : decode cX9_rings 67 = .ok (.iconst 2, 1) := by decide +kernel
theorem dX9_rings_68 : decode cX9_rings 68 = .ok (.iconst 1, 1) := by decide +kernel
theorem dX9_rings_69 : decode cX9_rings 69 = .ok (.invokevirtual 62, 3) := by decide +kernel
theorem dX9_rings_72 : decode cX9_rings 72 = .ok (.aload_n 0, 1) := by decide +kernel
theorem dX9_rings_73 : decode cX9_rings 73 = .ok (.iload_n 1, 1) := by decide +kernel
theorem dX9_rings_74 : decode cX9_rings 74 = .ok (.iconst 3, 1) := by decide +kernel
theorem dX9_rings_75 : decode cX9_rings 75 = .ok (.iconst 1, 1) := by decide +kernel
theorem dX9_rings_76 : decode cX9_rings 76 = .ok (.aload_n 0, 1) := by decide +kernel
theorem dX9_rings_77 : decode cX9_rings 77 = .ok (.iload_n 1, 1) := by decide +kernel
theorem dX9_rings_78 : decode cX9_rings 78 = .ok (.iconst 0, 1) := by decide +kernel
theorem dX9_rings_79 : decode cX9_rings 79 = .ok (.invokevirtual 50, 3) := by decide +kernel
theorem dX9_rings_82 : decode cX9_rings 82 = .ok (.iadd, 1) := by decide +kernel
theorem dX9_rings_83 : decode cX9_rings 83 = .ok (.invokevirtual 62, 3) := by decide +kernel
theorem dX9_rings_86 : decode cX9_rings 86 = .ok (.iconst 0, 1) := by decide +kernel
theorem dX9_rings_87 : decode cX9_rings 87 = .ok (.ireturn, 1) := by decide +kernel
theorem dX9_rings_88 : decode cX9_rings 88 = .ok (.aload_n 0, 1) := by decide +kernel
theorem dX9_rings_89 : decode cX9_rings 89 = .ok (.iload_n 1, 1) := by decide +kernel
theorem dX9_rings_90 : decode cX9_rings 90 = .ok (.invokevirtual 99, 3) := by decide +kernel
theorem dX9_rings_93 : decode cX9_rings 93 = .ok (.aload_n 0, 1) := by decide +kernel
theorem dX9_rings_94 : decode cX9_rings 94 = .ok (.iload_n 1, 1) := by decide +kernel
theorem dX9_rings_95 : decode cX9_rings 95 = .ok (.iload_n 2, 1) := by decide +kernel
theorem dX9_rings_96 : decode cX9_rings 96 = .ok (.iconst 1, 1) := by decide +kernel
theorem dX9_rings_97 : decode cX9_rings 97 = .ok (.invokevirtual 86, 3) := by decide +kernel
theorem dX9_rings_100 : decode cX9_rings 100 = .ok (.iconst 1, 1) := by decide +kernel
theorem dX9_rings_101 : decode cX9_rings 101 = .ok (.ireturn, 1) := by decide +kernel
theorem dX9_rings_102 : decode cX9_rings 102 = .ok (.aload_n 0, 1) := by decide +kernel
theorem dX9_rings_103 : decode cX9_rings 103 = .ok (.getfield 7, 3) := by decide +kernel
theorem dX9_rings_106 : decode cX9_rings 106 = .ok (.bipush 14, 2) := by decide +kernel
theorem dX9_rings_108 : decode cX9_rings 108 = .ok (.iconst 2, 1) := by decide +kernel
theorem dX9_rings_109 : decode cX9_rings 109 = .ok (.aload_n 0, 1) := by decide +kernel
theorem dX9_rings_110 : decode cX9_rings 110 = .ok (.getfield 7, 3) := by decide +kernel
theorem dX9_rings_113 : decode cX9_rings 113 = .ok (.bipush 13, 2) := by decide +kernel
theorem dX9_rings_115 : decode cX9_rings 115 = .ok (.iaload, 1) := by decide +kernel
theorem dX9_rings_116 : decode cX9_rings 116 = .ok (.imul, 1) := by decide +kernel
theorem dX9_rings_117 : decode cX9_rings 117 = .ok (.iadd, 1) := by decide +kernel
theorem dX9_rings_118 : decode cX9_rings 118 = .ok (.iload_n 1, 1) := by decide +kernel
theorem dX9_rings_119 : decode cX9_rings 119 = .ok (.iastore, 1) := by decide +kernel
theorem dX9_rings_120 : decode cX9_rings 120 = .ok (.aload_n 0, 1) := by decide +kernel
theorem dX9_rings_121 : decode cX9_rings 121 = .ok (.getfield 7, 3) := by decide +kernel
theorem dX9_rings_124 : decode cX9_rings 124 = .ok (.bipush 14, 2) := by decide +kernel
theorem dX9_rings_126 : decode cX9_rings 126 = .ok (.iconst 2, 1) := by decide +kernel
theorem dX9_rings_127 : decode cX9_rings 127 = .ok (.aload_n 0, 1) := by decide +kernel
theorem dX9_rings_128 : decode cX9_rings 128 = .ok (.getfield 7, 3) := by decide +kernel
theorem dX9_rings_131 : decode cX9_rings 131 = .ok (.bipush 13, 2) := by decide +kernel
theorem dX9_rings_133 : decode cX9_rings 133 = .ok (.iaload, 1) := by decide +kernel
theorem dX9_rings_134 : decode cX9_rings 134 = .ok (.imul, 1) := by decide +kernel
theorem dX9_rings_135 : decode cX9_rings 135 = .ok (.iadd, 1) := by decide +kernel
theorem dX9_rings_136 : decode cX9_rings 136 = .ok (.iconst 1, 1) := by decide +kernel
theorem dX9_rings_137 : decode cX9_rings 137 = .ok (.iadd, 1) := by decide +kernel
theorem dX9_rings_138 : decode cX9_rings 138 = .ok (.aload_n 0, 1) := by decide +kernel
theorem dX9_rings_139 : decode cX9_rings 139 = .ok (.getfield 7, 3) := by decide +kernel
theorem dX9_rings_142 : decode cX9_rings 142 = .ok (.iconst 1, 1) := by decide +kernel
theorem dX9_rings_143 : decode cX9_rings 143 = .ok (.iaload, 1) := by decide +kernel
theorem dX9_rings_144 : decode cX9_rings 144 = .ok (.iastore, 1) := by decide +kernel
theorem dX9_rings_145 : decode cX9_rings 145 = .ok (.aload_n 0, 1) := by decide +kernel
theorem dX9_rings_146 : decode cX9_rings 146 = .ok (.getfield 7, 3) := by decide +kernel
theorem dX9_rings_149 : decode cX9_rings 149 = .ok (.bipush 13, 2) := by decide +kernel
theorem dX9_rings_151 : decode cX9_rings 151 = .ok (.dup2, 1) := by decide +kernel
theorem dX9_rings_152 : decode cX9_rings 152 = .ok (.iaload, 1) := by decide +kernel
theorem dX9_rings_153 : decode cX9_rings 153 = .ok (.iconst 1, 1) := by decide +kernel
theorem dX9_rings_154 : decode cX9_rings 154 = .ok (.iadd, 1) := by decide +kernel
theorem dX9_rings_155 : decode cX9_rings 155 = .ok (.iastore, 1) := by decide +kernel
theorem dX9_rings_156 : decode cX9_rings 156 = .ok (.aload_n 0, 1) := by decide +kernel
theorem dX9_rings_157 : decode cX9_rings 157 = .ok (.bipush 6, 2) := by decide +kernel
theorem dX9_rings_159 : decode cX9_rings 159 = .ok (.iconst 1, 1) := by decide +kernel
theorem dX9_rings_160 : decode cX9_rings 160 = .ok (.invokevirtual 58, 3) := by decide +kernel
theorem dX9_rings_163 : decode cX9_rings 163 = .ok (.iconst 2, 1) := by decide +kernel
theorem dX9_rings_164 : decode cX9_rings 164 = .ok (.ireturn, 1) := by decide +kernel
theorem dX9_rings_165 : decode cX9_rings 165 = .ok (.aload_n 0, 1) := by decide +kernel
theorem dX9_rings_166 : decode cX9_rings 166 = .ok (.bipush 8, 2) := by decide +kernel
theorem dX9_rings_168 : decode cX9_rings 168 = .ok (.iconst 1, 1) := by decide +kernel
theorem dX9_rings_169 : decode cX9_rings 169 = .ok (.invokevirtual 58, 3) := by decide +kernel
theorem dX9_rings_172 : decode cX9_rings 172 = .ok (.iconst 3, 1) := by decide +kernel
theorem dX9_rings_173 : decode cX9_rings 173 = .ok (.ireturn, 1) := by decide +kernel
theorem dX9_rings_174 : decode cX9_rings 174 = .ok (.bipush (-5), 2) := by decide +kernel
theorem dX9_rings_176 : decode cX9_rings 176 = .ok (.ireturn, 1) := by decide +kernel
theorem dX9_pays_0 : decode cX9_pays 0 = .ok (.iload_n 2, 1) := by decide +kernel
theorem dX9_pays_1 : decode cX9_pays 1 = .ok (.aload_n 0, 1) := by decide +kernel
theorem dX9_pays_2 : decode cX9_pays 2 = .ok (.iload_n 1, 1) := by decide +kernel
theorem dX9_pays_3 : decode cX9_pays 3 = .ok (.iconst 5, 1) := by decide +kernel
theorem dX9_pays_4 : decode cX9_pays 4 = .ok (.invokevirtual 50, 3) := by decide +kernel
theorem dX9_pays_7 : decode cX9_pays 7 = .ok (.if_icmp .le 6, 3) := by decide +kernel
theorem dX9_pays_10 : decode cX9_pays 10 = .ok (.bipush (-6), 2) := by decide +kernel
theorem dX9_pays_12 : decode cX9_pays 12 = .ok (.ireturn, 1) := by decide +kernel
theorem dX9_pays_13 : decode cX9_pays 13 = .ok (.aload_n 0, 1) := by decide +kernel
theorem dX9_pays_14 : decode cX9_pays 14 = .ok (.iload_n 1, 1) := by decide +kernel
theorem dX9_pays_15 : decode cX9_pays 15 = .ok (.iconst 5, 1) := by decide +kernel
theorem dX9_pays_16 : decode cX9_pays 16 = .ok (.iload_n 2, 1) := by decide +kernel
theorem dX9_pays_17 : decode cX9_pays 17 = .ok (.ineg, 1) := by decide +kernel
theorem dX9_pays_18 : decode cX9_pays 18 = .ok (.invokevirtual 69, 3) := by decide +kernel
theorem dX9_pays_21 : decode cX9_pays 21 = .ok (.aload_n 0, 1) := by decide +kernel
theorem dX9_pays_22 : decode cX9_pays 22 = .ok (.iconst 5, 1) := by decide +kernel
theorem dX9_pays_23 : decode cX9_pays 23 = .ok (.iload_n 2, 1) := by decide +kernel
theorem dX9_pays_24 : decode cX9_pays 24 = .ok (.invokevirtual 58, 3) := by decide +kernel
theorem dX9_pays_27 : decode cX9_pays 27 = .ok (.aload_n 0, 1) := by decide +kernel
theorem dX9_pays_28 : decode cX9_pays 28 = .ok (.iload_n 1, 1) := by decide +kernel
theorem dX9_pays_29 : decode cX9_pays 29 = .ok (.iconst 5, 1) := by decide +kernel
theorem dX9_pays_30 : decode cX9_pays 30 = .ok (.invokevirtual 50, 3) := by decide +kernel
theorem dX9_pays_33 : decode cX9_pays 33 = .ok (.ireturn, 1) := by decide +kernel
theorem dX9_setAside_0 : decode cX9_setAside 0 = .ok (.iconst 0, 1) := by decide +kernel
theorem dX9_setAside_1 : decode cX9_setAside 1 = .ok (.istore_n 1, 1) := by decide +kernel
theorem dX9_setAside_2 : decode cX9_setAside 2 = .ok (.iload_n 1, 1) := by decide +kernel
theorem dX9_setAside_3 : decode cX9_setAside 3 = .ok (.sipush 242, 3) := by decide +kernel
theorem dX9_setAside_6 : decode cX9_setAside 6 = .ok (.if_icmp .ge 21, 3) := by decide +kernel
theorem dX9_setAside_9 : decode cX9_setAside 9 = .ok (.aload_n 0, 1) := by decide +kernel
theorem dX9_setAside_10 : decode cX9_setAside 10 = .ok (.getfield 16, 3) := by decide +kernel
theorem dX9_setAside_13 : decode cX9_setAside 13 = .ok (.iload_n 1, 1) := by decide +kernel
theorem dX9_setAside_14 : decode cX9_setAside 14 = .ok (.aload_n 0, 1) := by decide +kernel
theorem dX9_setAside_15 : decode cX9_setAside 15 = .ok (.getfield 7, 3) := by decide +kernel
theorem dX9_setAside_18 : decode cX9_setAside 18 = .ok (.iload_n 1, 1) := by decide +kernel
theorem dX9_setAside_19 : decode cX9_setAside 19 = .ok (.iaload, 1) := by decide +kernel
theorem dX9_setAside_20 : decode cX9_setAside 20 = .ok (.iastore, 1) := by decide +kernel
theorem dX9_setAside_21 : decode cX9_setAside 21 = .ok (.iinc 1 1, 3) := by decide +kernel
theorem dX9_setAside_24 : decode cX9_setAside 24 = .ok (.goto (-22), 3) := by decide +kernel
theorem dX9_setAside_27 : decode cX9_setAside 27 = .ok (.return_, 1) := by decide +kernel
theorem dX9_bringBack_0 : decode cX9_bringBack 0 = .ok (.iconst 0, 1) := by decide +kernel
theorem dX9_bringBack_1 : decode cX9_bringBack 1 = .ok (.istore_n 1, 1) := by decide +kernel
theorem dX9_bringBack_2 : decode cX9_bringBack 2 = .ok (.iload_n 1, 1) := by decide +kernel
theorem dX9_bringBack_3 : decode cX9_bringBack 3 = .ok (.sipush 242, 3) := by decide +kernel
theorem dX9_bringBack_6 : decode cX9_bringBack 6 = .ok (.if_icmp .ge 21, 3) := by decide +kernel
theorem dX9_bringBack_9 : decode cX9_bringBack 9 = .ok (.aload_n 0, 1) := by decide +kernel
theorem dX9_bringBack_10 : decode cX9_bringBack 10 = .ok (.getfield 7, 3) := by decide +kernel
theorem dX9_bringBack_13 : decode cX9_bringBack 13 = .ok (.iload_n 1, 1) := by decide +kernel
theorem dX9_bringBack_14 : decode cX9_bringBack 14 = .ok (.aload_n 0, 1) := by decide +kernel
theorem dX9_bringBack_15 : decode cX9_bringBack 15 = .ok (.getfield 16, 3) := by decide +kernel
theorem dX9_bringBack_18 : decode cX9_bringBack 18 = .ok (.iload_n 1, 1) := by decide +kernel
theorem dX9_bringBack_19 : decode cX9_bringBack 19 = .ok (.iaload, 1) := by decide +kernel
theorem dX9_bringBack_20 : decode cX9_bringBack 20 = .ok (.iastore, 1) := by decide +kernel
theorem dX9_bringBack_21 : decode cX9_bringBack 21 = .ok (.iinc 1 1, 3) := by decide +kernel
theorem dX9_bringBack_24 : decode cX9_bringBack 24 = .ok (.goto (-22), 3) := by decide +kernel
theorem dX9_bringBack_27 : decode cX9_bringBack 27 = .ok (.return_, 1) := by decide +kernel
theorem dX9_tell_0 : decode cX9_tell 0 = .ok (.iconst 0, 1) := by decide +kernel
theorem dX9_tell_1 : decode cX9_tell 1 = .ok (.istore_n 2, 1) := by decide +kernel
theorem dX9_tell_2 : decode cX9_tell 2 = .ok (.iload_n 2, 1) := by decide +kernel
theorem dX9_tell_3 : decode cX9_tell 3 = .ok (.aload_n 1, 1) := by decide +kernel
theorem dX9_tell_4 : decode cX9_tell 4 = .ok (.invokevirtual 108, 3) := by decide +kernel
theorem dX9_tell_7 : decode cX9_tell 7 = .ok (.if_icmp .ge 33, 3) := by decide +kernel
theorem dX9_tell_10 : decode cX9_tell 10 = .ok (.aload_n 0, 1) := by decide +kernel
theorem dX9_tell_11 : decode cX9_tell 11 = .ok (.getfield 28, 3) := by decide +kernel
theorem dX9_tell_14 : decode cX9_tell 14 = .ok (.aload_n 0, 1) := by decide +kernel
theorem dX9_tell_15 : decode cX9_tell 15 = .ok (.getfield 114, 3) := by decide +kernel
theorem dX9_tell_18 : decode cX9_tell 18 = .ok (.aload_n 1, 1) := by decide +kernel
theorem dX9_tell_19 : decode cX9_tell 19 = .ok (.iload_n 2, 1) := by decide +kernel
theorem dX9_tell_20 : decode cX9_tell 20 = .ok (.invokevirtual 117, 3) := by decide +kernel
theorem dX9_tell_23 : decode cX9_tell 23 = .ok (.iastore, 1) := by decide +kernel
theorem dX9_tell_24 : decode cX9_tell 24 = .ok (.aload_n 0, 1) := by decide +kernel
theorem dX9_tell_25 : decode cX9_tell 25 = .ok (.dup, 1) := by decide +kernel
theorem dX9_tell_26 : decode cX9_tell 26 = .ok (.getfield 114, 3) := by decide +kernel
theorem dX9_tell_29 : decode cX9_tell 29 = .ok (.iconst 1, 1) := by decide +kernel
theorem dX9_tell_30 : decode cX9_tell 30 = .ok (.iadd, 1) := by decide +kernel
theorem dX9_tell_31 : decode cX9_tell 31 = .ok (.putfield 114, 3) := by decide +kernel
theorem dX9_tell_34 : decode cX9_tell 34 = .ok (.iinc 2 1, 3) := by decide +kernel
theorem dX9_tell_37 : decode cX9_tell 37 = .ok (.goto (-35), 3) := by decide +kernel
theorem dX9_tell_40 : decode cX9_tell 40 = .ok (.return_, 1) := by decide +kernel
theorem dX9_lay_0 : decode cX9_lay 0 = .ok (.aload_n 0, 1) := by decide +kernel
theorem dX9_lay_1 : decode cX9_lay 1 = .ok (.iconst 0, 1) := by decide +kernel
theorem dX9_lay_2 : decode cX9_lay 2 = .ok (.putfield 114, 3) := by decide +kernel
theorem dX9_lay_5 : decode cX9_lay 5 = .ok (.iload_n 1, 1) := by decide +kernel
theorem dX9_lay_6 : decode cX9_lay 6 = .ok (.lookupswitch 50 #[(0, 26), (1, 35)], 26) := by decide +kernel
theorem dX9_lay_32 : decode cX9_lay 32 = .ok (.aload_n 0, 1) := by decide +kernel
theorem dX9_lay_33 : decode cX9_lay 33 = .ok (.ldc 121, 2) := by decide +kernel
theorem dX9_lay_35 : decode cX9_lay 35 = .ok (.invokevirtual 123, 3) := by decide +kernel
theorem dX9_lay_38 : decode cX9_lay 38 = .ok (.goto 24, 3) := by decide +kernel
theorem dX9_lay_41 : decode cX9_lay 41 = .ok (.aload_n 0, 1) := by decide +kernel
theorem dX9_lay_42 : decode cX9_lay 42 = .ok (.ldc 127, 2) := by decide +kernel
theorem dX9_lay_44 : decode cX9_lay 44 = .ok (.invokevirtual 123, 3) := by decide +kernel
theorem dX9_lay_47 : decode cX9_lay 47 = .ok (.aload_n 0, 1) := by decide +kernel
theorem dX9_lay_48 : decode cX9_lay 48 = .ok (.ldc 129, 2) := by decide +kernel
theorem dX9_lay_50 : decode cX9_lay 50 = .ok (.invokevirtual 123, 3) := by decide +kernel
theorem dX9_lay_53 : decode cX9_lay 53 = .ok (.goto 9, 3) := by decide +kernel
theorem dX9_lay_56 : decode cX9_lay 56 = .ok (.aload_n 0, 1) := by decide +kernel
theorem dX9_lay_57 : decode cX9_lay 57 = .ok (.ldc 131, 2) := by decide +kernel
theorem dX9_lay_59 : decode cX9_lay 59 = .ok (.invokevirtual 123, 3) := by decide +kernel
theorem dX9_lay_62 : decode cX9_lay 62 = .ok (.aload_n 0, 1) := by decide +kernel
theorem dX9_lay_63 : decode cX9_lay 63 = .ok (.invokevirtual 133, 3) := by decide +kernel
theorem dX9_lay_66 : decode cX9_lay 66 = .ok (.pop, 1) := by decide +kernel
theorem dX9_lay_67 : decode cX9_lay 67 = .ok (.return_, 1) := by decide +kernel
theorem dX9_sortOf_0 : decode cX9_sortOf 0 = .ok (.iload_n 0, 1) := by decide +kernel
theorem dX9_sortOf_1 : decode cX9_sortOf 1 = .ok (.bipush 59, 2) := by decide +kernel
theorem dX9_sortOf_3 : decode cX9_sortOf 3 = .ok (.if_icmp .ne 7, 3) := by decide +kernel
theorem dX9_sortOf_6 : decode cX9_sortOf 6 = .ok (.iconst 1, 1) := by decide +kernel
theorem dX9_sortOf_7 : decode cX9_sortOf 7 = .ok (.goto 36, 3) := by decide +kernel
theorem dX9_sortOf_10 : decode cX9_sortOf 10 = .ok (.iload_n 0, 1) := by decide +kernel
theorem dX9_sortOf_11 : decode cX9_sortOf 11 = .ok (.bipush 97, 2) := by decide +kernel
theorem dX9_sortOf_13 : decode cX9_sortOf 13 = .ok (.if_icmp .lt 13, 3) := by decide +kernel
theorem dX9_sortOf_16 : decode cX9_sortOf 16 = .ok (.iload_n 0, 1) := by decide +kernel
theorem dX9_sortOf_17 : decode cX9_sortOf 17 = .ok (.bipush 122, 2) := by decide +kernel
theorem dX9_sortOf_19 : decode cX9_sortOf 19 = .ok (.if_icmp .gt 7, 3) := by decide +kernel
theorem dX9_sortOf_22 : decode cX9_sortOf 22 = .ok (.iconst 2, 1) := by decide +kernel
theorem dX9_sortOf_23 : decode cX9_sortOf 23 = .ok (.goto 20, 3) := by decide +kernel
theorem dX9_sortOf_26 : decode cX9_sortOf 26 = .ok (.iload_n 0, 1) := by decide +kernel
theorem dX9_sortOf_27 : decode cX9_sortOf 27 = .ok (.bipush 48, 2) := by decide +kernel
theorem dX9_sortOf_29 : decode cX9_sortOf 29 = .ok (.if_icmp .lt 13, 3) := by decide +kernel
theorem dX9_sortOf_32 : decode cX9_sortOf 32 = .ok (.iload_n 0, 1) := by decide +kernel
theorem dX9_sortOf_33 : decode cX9_sortOf 33 = .ok (.bipush 57, 2) := by decide +kernel
theorem dX9_sortOf_35 : decode cX9_sortOf 35 = .ok (.if_icmp .gt 7, 3) := by decide +kernel
theorem dX9_sortOf_38 : decode cX9_sortOf 38 = .ok (.iconst 3, 1) := by decide +kernel
theorem dX9_sortOf_39 : decode cX9_sortOf 39 = .ok (.goto 4, 3) := by decide +kernel
theorem dX9_sortOf_42 : decode cX9_sortOf 42 = .ok (.iconst 4, 1) := by decide +kernel
theorem dX9_sortOf_43 : decode cX9_sortOf 43 = .ok (.ireturn, 1) := by decide +kernel
theorem dX9_next_0 : decode cX9_next 0 = .ok (.aload_n 0, 1) := by decide +kernel
theorem dX9_next_1 : decode cX9_next 1 = .ok (.aload_n 0, 1) := by decide +kernel
theorem dX9_next_2 : decode cX9_next 2 = .ok (.getfield 137, 3) := by decide +kernel
theorem dX9_next_5 : decode cX9_next 5 = .ok (.putfield 140, 3) := by decide +kernel
theorem dX9_next_8 : decode cX9_next 8 = .ok (.aload_n 0, 1) := by decide +kernel
theorem dX9_next_9 : decode cX9_next 9 = .ok (.getfield 140, 3) := by decide +kernel
theorem dX9_next_12 : decode cX9_next 12 = .ok (.aload_n 0, 1) := by decide +kernel
theorem dX9_next_13 : decode cX9_next 13 = .ok (.getfield 114, 3) := by decide +kernel
theorem dX9_next_16 : decode cX9_next 16 = .ok (.if_icmp .ge 44, 3) := by decide +kernel
theorem dX9_next_19 : decode cX9_next 19 = .ok (.aload_n 0, 1) := by decide +kernel
theorem dX9_next_20 : decode cX9_next 20 = .ok (.getfield 28, 3) := by decide +kernel
theorem dX9_next_23 : decode cX9_next 23 = .ok (.aload_n 0, 1) := by decide +kernel
theorem dX9_next_24 : decode cX9_next 24 = .ok (.getfield 140, 3) := by decide +kernel
theorem dX9_next_27 : decode cX9_next 27 = .ok (.iaload, 1) := by decide +kernel
theorem dX9_next_28 : decode cX9_next 28 = .ok (.bipush 32, 2) := by decide +kernel
theorem dX9_next_30 : decode cX9_next 30 = .ok (.if_icmp .eq 17, 3) := by decide +kernel
theorem dX9_next_33 : decode cX9_next 33 = .ok (.aload_n 0, 1) := by decide +kernel
theorem dX9_next_34 : decode cX9_next 34 = .ok (.getfield 28, 3) := by decide +kernel
theorem dX9_next_37 : decode cX9_next 37 = .ok (.aload_n 0, 1) := by decide +kernel
theorem dX9_next_38 : decode cX9_next 38 = .ok (.getfield 140, 3) := by decide +kernel
theorem dX9_next_41 : decode cX9_next 41 = .ok (.iaload, 1) := by decide +kernel
theorem dX9_next_42 : decode cX9_next 42 = .ok (.bipush 10, 2) := by decide +kernel
theorem dX9_next_44 : decode cX9_next 44 = .ok (.if_icmp .ne 16, 3) := by decide +kernel
theorem dX9_next_47 : decode cX9_next 47 = .ok (.aload_n 0, 1) := by decide +kernel
theorem dX9_next_48 : decode cX9_next 48 = .ok (.dup, 1) := by decide +kernel
theorem dX9_next_49 : decode cX9_next 49 = .ok (.getfield 140, 3) := by decide +kernel
theorem dX9_next_52 : decode cX9_next 52 = .ok (.iconst 1, 1) := by decide +kernel
theorem dX9_next_53 : decode cX9_next 53 = .ok (.iadd, 1) := by decide +kernel
theorem dX9_next_54 : decode cX9_next 54 = .ok (.putfield 140, 3) := by decide +kernel
theorem dX9_next_57 : decode cX9_next 57 = .ok (.goto (-49), 3) := by decide +kernel
theorem dX9_next_60 : decode cX9_next 60 = .ok (.aload_n 0, 1) := by decide +kernel
theorem dX9_next_61 : decode cX9_next 61 = .ok (.aload_n 0, 1) := by decide +kernel
theorem dX9_next_62 : decode cX9_next 62 = .ok (.getfield 140, 3) := by decide +kernel
theorem dX9_next_65 : decode cX9_next 65 = .ok (.putfield 137, 3) := by decide +kernel
theorem dX9_next_68 : decode cX9_next 68 = .ok (.aload_n 0, 1) := by decide +kernel
theorem dX9_next_69 : decode cX9_next 69 = .ok (.getfield 140, 3) := by decide +kernel
theorem dX9_next_72 : decode cX9_next 72 = .ok (.aload_n 0, 1) := by decide +kernel
theorem dX9_next_73 : decode cX9_next 73 = .ok (.getfield 114, 3) := by decide +kernel
theorem dX9_next_76 : decode cX9_next 76 = .ok (.if_icmp .ne 9, 3) := by decide +kernel
theorem dX9_next_79 : decode cX9_next 79 = .ok (.aload_n 0, 1) := by decide +kernel
theorem dX9_next_80 : decode cX9_next 80 = .ok (.iconst 0, 1) := by decide +kernel
theorem dX9_next_81 : decode cX9_next 81 = .ok (.putfield 143, 3) := by decide +kernel
theorem dX9_next_84 : decode cX9_next 84 = .ok (.return_, 1) := by decide +kernel
theorem dX9_next_85 : decode cX9_next 85 = .ok (.aload_n 0, 1) := by decide +kernel
theorem dX9_next_86 : decode cX9_next 86 = .ok (.aload_n 0, 1) := by decide +kernel
theorem dX9_next_87 : decode cX9_next 87 = .ok (.getfield 28, 3) := by decide +kernel
theorem dX9_next_90 : decode cX9_next 90 = .ok (.aload_n 0, 1) := by decide +kernel
theorem dX9_next_91 : decode cX9_next 91 = .ok (.getfield 140, 3) := by decide +kernel
theorem dX9_next_94 : decode cX9_next 94 = .ok (.iaload, 1) := by decide +kernel
theorem dX9_next_95 : decode cX9_next 95 = .ok (.invokestatic 146, 3) := by decide +kernel
theorem dX9_next_98 : decode cX9_next 98 = .ok (.putfield 143, 3) := by decide +kernel
theorem dX9_next_101 : decode cX9_next 101 = .ok (.aload_n 0, 1) := by decide +kernel
theorem dX9_next_102 : decode cX9_next 102 = .ok (.dup, 1) := by decide +kernel
theorem dX9_next_103 : decode cX9_next 103 = .ok (.getfield 137, 3) := by decide +kernel
theorem dX9_next_106 : decode cX9_next 106 = .ok (.iconst 1, 1) := by decide +kernel
theorem dX9_next_107 : decode cX9_next 107 = .ok (.iadd, 1) := by decide +kernel
theorem dX9_next_108 : decode cX9_next 108 = .ok (.putfield 137, 3) := by decide +kernel
theorem dX9_next_111 : decode cX9_next 111 = .ok (.aload_n 0, 1) := by decide +kernel
theorem dX9_next_112 : decode cX9_next 112 = .ok (.getfield 143, 3) := by decide +kernel
theorem dX9_next_115 : decode cX9_next 115 = .ok (.iconst 2, 1) := by decide +kernel
theorem dX9_next_116 : decode cX9_next 116 = .ok (.if_icmp .eq 11, 3) := by decide +kernel
theorem dX9_next_119 : decode cX9_next 119 = .ok (.aload_n 0, 1) := by decide +kernel
theorem dX9_next_120 : decode cX9_next 120 = .ok (.getfield 143, 3) := by decide +kernel
theorem dX9_next_123 : decode cX9_next 123 = .ok (.iconst 3, 1) := by decide +kernel
theorem dX9_next_124 : decode cX9_next 124 = .ok (.if_icmp .ne 46, 3) := by decide +kernel
theorem dX9_next_127 : decode cX9_next 127 = .ok (.aload_n 0, 1) := by decide +kernel
theorem dX9_next_128 : decode cX9_next 128 = .ok (.getfield 137, 3) := by decide +kernel
theorem dX9_next_131 : decode cX9_next 131 = .ok (.aload_n 0, 1) := by decide +kernel
theorem dX9_next_132 : decode cX9_next 132 = .ok (.getfield 114, 3) := by decide +kernel
theorem dX9_next_135 : decode cX9_next 135 = .ok (.if_icmp .ge 35, 3) := by decide +kernel
theorem dX9_next_138 : decode cX9_next 138 = .ok (.aload_n 0, 1) := by decide +kernel
theorem dX9_next_139 : decode cX9_next 139 = .ok (.getfield 28, 3) := by decide +kernel
theorem dX9_next_142 : decode cX9_next 142 = .ok (.aload_n 0, 1) := by decide +kernel
theorem dX9_next_143 : decode cX9_next 143 = .ok (.getfield 137, 3) := by decide +kernel
theorem dX9_next_146 : decode cX9_next 146 = .ok (.iaload, 1) := by decide +kernel
theorem dX9_next_147 : decode cX9_next 147 = .ok (.invokestatic 146, 3) := by decide +kernel
theorem dX9_next_150 : decode cX9_next 150 = .ok (.aload_n 0, 1) := by decide +kernel
theorem dX9_next_151 : decode cX9_next 151 = .ok (.getfield 143, 3) := by decide +kernel
theorem dX9_next_154 : decode cX9_next 154 = .ok (.if_icmp .ne 16, 3) := by decide +kernel
theorem dX9_next_157 : decode cX9_next 157 = .ok (.aload_n 0, 1) := by decide +kernel
theorem dX9_next_158 : decode cX9_next 158 = .ok (.dup, 1) := by decide +kernel
theorem dX9_next_159 : decode cX9_next 159 = .ok (.getfield 137, 3) := by decide +kernel
theorem dX9_next_162 : decode cX9_next 162 = .ok (.iconst 1, 1) := by decide +kernel
theorem dX9_next_163 : decode cX9_next 163 = .ok (.iadd, 1) := by decide +kernel
theorem dX9_next_164 : decode cX9_next 164 = .ok (.putfield 137, 3) := by decide +kernel
theorem dX9_next_167 : decode cX9_next 167 = .ok (.goto (-56), 3) := by decide +kernel
theorem dX9_next_170 : decode cX9_next 170 = .ok (.aload_n 0, 1) := by decide +kernel
theorem dX9_next_171 : decode cX9_next 171 = .ok (.getfield 143, 3) := by decide +kernel
theorem dX9_next_174 : decode cX9_next 174 = .ok (.iconst 3, 1) := by decide +kernel
theorem dX9_next_175 : decode cX9_next 175 = .ok (.if_icmp .ne 21, 3) := by decide +kernel
theorem dX9_next_178 : decode cX9_next 178 = .ok (.aload_n 0, 1) := by decide +kernel
theorem dX9_next_179 : decode cX9_next 179 = .ok (.getfield 137, 3) := by decide +kernel
theorem dX9_next_182 : decode cX9_next 182 = .ok (.aload_n 0, 1) := by decide +kernel
theorem dX9_next_183 : decode cX9_next 183 = .ok (.getfield 140, 3) := by decide +kernel
theorem dX9_next_186 : decode cX9_next 186 = .ok (.isub, 1) := by decide +kernel
theorem dX9_next_187 : decode cX9_next 187 = .ok (.iconst 4, 1) := by decide +kernel
theorem dX9_next_188 : decode cX9_next 188 = .ok (.if_icmp .le 8, 3) := by decide +kernel
theorem dX9_next_191 : decode cX9_next 191 = .ok (.aload_n 0, 1) := by decide +kernel
theorem dX9_next_192 : decode cX9_next 192 = .ok (.iconst 4, 1) := by decide +kernel
theorem dX9_next_193 : decode cX9_next 193 = .ok (.putfield 143, 3) := by decide +kernel
theorem dX9_next_196 : decode cX9_next 196 = .ok (.aload_n 0, 1) := by decide +kernel
theorem dX9_next_197 : decode cX9_next 197 = .ok (.iconst 0, 1) := by decide +kernel
theorem dX9_next_198 : decode cX9_next 198 = .ok (.putfield 149, 3) := by decide +kernel
theorem dX9_next_201 : decode cX9_next 201 = .ok (.aload_n 0, 1) := by decide +kernel
theorem dX9_next_202 : decode cX9_next 202 = .ok (.getfield 140, 3) := by decide +kernel
theorem dX9_next_205 : decode cX9_next 205 = .ok (.istore_n 1, 1) := by decide +kernel
theorem dX9_next_206 : decode cX9_next 206 = .ok (.iload_n 1, 1) := by decide +kernel
theorem dX9_next_207 : decode cX9_next 207 = .ok (.aload_n 0, 1) := by decide +kernel
theorem dX9_next_208 : decode cX9_next 208 = .ok (.getfield 137, 3) := by decide +kernel
theorem dX9_next_211 : decode cX9_next 211 = .ok (.if_icmp .ge 38, 3) := by decide +kernel
theorem dX9_next_214 : decode cX9_next 214 = .ok (.aload_n 0, 1) := by decide +kernel
theorem dX9_next_215 : decode cX9_next 215 = .ok (.getfield 143, 3) := by decide +kernel
theorem dX9_next_218 : decode cX9_next 218 = .ok (.iconst 3, 1) := by decide +kernel
theorem dX9_next_219 : decode cX9_next 219 = .ok (.if_icmp .ne 30, 3) := by decide +kernel
theorem dX9_next_222 : decode cX9_next 222 = .ok (.aload_n 0, 1) := by decide +kernel
theorem dX9_next_223 : decode cX9_next 223 = .ok (.bipush 10, 2) := by decide +kernel
theorem dX9_next_225 : decode cX9_next 225 = .ok (.aload_n 0, 1) := by decide +kernel
theorem dX9_next_226 : decode cX9_next 226 = .ok (.getfield 149, 3) := by decide +kernel
theorem dX9_next_229 : decode cX9_next 229 = .ok (.imul, 1) := by decide +kernel
theorem dX9_next_230 : decode cX9_next 230 = .ok (.aload_n 0, 1) := by decide +kernel
theorem dX9_next_231 : decode cX9_next 231 = .ok (.getfield 28, 3) := by decide +kernel
theorem dX9_next_234 : decode cX9_next 234 = .ok (.iload_n 1, 1) := by decide +kernel
theorem dX9_next_235 : decode cX9_next 235 = .ok (.iaload, 1) := by decide +kernel
theorem dX9_next_236 : decode cX9_next 236 = .ok (.iadd, 1) := by decide +kernel
theorem dX9_next_237 : decode cX9_next 237 = .ok (.bipush 48, 2) := by decide +kernel
theorem dX9_next_239 : decode cX9_next 239 = .ok (.isub, 1) := by decide +kernel
theorem dX9_next_240 : decode cX9_next 240 = .ok (.putfield 149, 3) := by decide +kernel
theorem dX9_next_243 : decode cX9_next 243 = .ok (.iinc 1 1, 3) := by decide +kernel
theorem dX9_next_246 : decode cX9_next 246 = .ok (.goto (-40), 3) := by decide +kernel
theorem dX9_next_249 : decode cX9_next 249 = .ok (.return_, 1) := by decide +kernel
theorem dX9_says_0 : decode cX9_says 0 = .ok (.aload_n 0, 1) := by decide +kernel
theorem dX9_says_1 : decode cX9_says 1 = .ok (.getfield 143, 3) := by decide +kernel
theorem dX9_says_4 : decode cX9_says 4 = .ok (.iconst 2, 1) := by decide +kernel
theorem dX9_says_5 : decode cX9_says 5 = .ok (.if_icmp .ne 19, 3) := by decide +kernel
theorem dX9_says_8 : decode cX9_says 8 = .ok (.aload_n 0, 1) := by decide +kernel
theorem dX9_says_9 : decode cX9_says 9 = .ok (.getfield 137, 3) := by decide +kernel
theorem dX9_says_12 : decode cX9_says 12 = .ok (.aload_n 0, 1) := by decide +kernel
theorem dX9_says_13 : decode cX9_says 13 = .ok (.getfield 140, 3) := by decide +kernel
theorem dX9_says_16 : decode cX9_says 16 = .ok (.isub, 1) := by decide +kernel
theorem dX9_says_17 : decode cX9_says 17 = .ok (.aload_n 1, 1) := by decide +kernel
theorem dX9_says_18 : decode cX9_says 18 = .ok (.invokevirtual 108, 3) := by decide +kernel
theorem dX9_says_21 : decode cX9_says 21 = .ok (.if_icmp .eq 5, 3) := by decide +kernel
theorem dX9_says_24 : decode cX9_says 24 = .ok (.iconst 0, 1) := by decide +kernel
theorem dX9_says_25 : decode cX9_says 25 = .ok (.ireturn, 1) := by decide +kernel
theorem dX9_says_26 : decode cX9_says 26 = .ok (.iconst 0, 1) := by decide +kernel
theorem dX9_says_27 : decode cX9_says 27 = .ok (.istore_n 2, 1) := by decide +kernel
theorem dX9_says_28 : decode cX9_says 28 = .ok (.iload_n 2, 1) := by decide +kernel
theorem dX9_says_29 : decode cX9_says 29 = .ok (.aload_n 1, 1) := by decide +kernel
theorem dX9_says_30 : decode cX9_says 30 = .ok (.invokevirtual 108, 3) := by decide +kernel
theorem dX9_says_33 : decode cX9_says 33 = .ok (.if_icmp .ge 30, 3) := by decide +kernel
theorem dX9_says_36 : decode cX9_says 36 = .ok (.aload_n 0, 1) := by decide +kernel
theorem dX9_says_37 : decode cX9_says 37 = .ok (.getfield 28, 3) := by decide +kernel
theorem dX9_says_40 : decode cX9_says 40 = .ok (.aload_n 0, 1) := by decide +kernel
theorem dX9_says_41 : decode cX9_says 41 = .ok (.getfield 140, 3) := by decide +kernel
theorem dX9_says_44 : decode cX9_says 44 = .ok (.iload_n 2, 1) := by decide +kernel
theorem dX9_says_45 : decode cX9_says 45 = .ok (.iadd, 1) := by decide +kernel
theorem dX9_says_46 : decode cX9_says 46 = .ok (.iaload, 1) := by decide +kernel
theorem dX9_says_47 : decode cX9_says 47 = .ok (.aload_n 1, 1) := by decide +kernel
theorem dX9_says_48 : decode cX9_says 48 = .ok (.iload_n 2, 1) := by decide +kernel
theorem dX9_says_49 : decode cX9_says 49 = .ok (.invokevirtual 117, 3) := by decide +kernel
theorem dX9_says_52 : decode cX9_says 52 = .ok (.if_icmp .eq 5, 3) := by decide +kernel
theorem dX9_says_55 : decode cX9_says 55 = .ok (.iconst 0, 1) := by decide +kernel
theorem dX9_says_56 : decode cX9_says 56 = .ok (.ireturn, 1) := by decide +kernel
theorem dX9_says_57 : decode cX9_says 57 = .ok (.iinc 2 1, 3) := by decide +kernel
theorem dX9_says_60 : decode cX9_says 60 = .ok (.goto (-32), 3) := by decide +kernel
theorem dX9_says_63 : decode cX9_says 63 = .ok (.iconst 1, 1) := by decide +kernel
theorem dX9_says_64 : decode cX9_says 64 = .ok (.ireturn, 1) := by decide +kernel
theorem dX9_fail_0 : decode cX9_fail 0 = .ok (.aload_n 0, 1) := by decide +kernel
theorem dX9_fail_1 : decode cX9_fail 1 = .ok (.getfield 152, 3) := by decide +kernel
theorem dX9_fail_4 : decode cX9_fail 4 = .ok (.ifCond .ne 16, 3) := by decide +kernel
theorem dX9_fail_7 : decode cX9_fail 7 = .ok (.aload_n 0, 1) := by decide +kernel
theorem dX9_fail_8 : decode cX9_fail 8 = .ok (.bipush 8, 2) := by decide +kernel
theorem dX9_fail_10 : decode cX9_fail 10 = .ok (.aload_n 0, 1) := by decide +kernel
theorem dX9_fail_11 : decode cX9_fail 11 = .ok (.getfield 140, 3) := by decide +kernel
theorem dX9_fail_14 : decode cX9_fail 14 = .ok (.imul, 1) := by decide +kernel
theorem dX9_fail_15 : decode cX9_fail 15 = .ok (.iload_n 1, 1) := by decide +kernel
theorem dX9_fail_16 : decode cX9_fail 16 = .ok (.iadd, 1) := by decide +kernel
theorem dX9_fail_17 : decode cX9_fail 17 = .ok (.putfield 152, 3) := by decide +kernel
theorem dX9_fail_20 : decode cX9_fail 20 = .ok (.iconst 0, 1) := by decide +kernel
theorem dX9_fail_21 : decode cX9_fail 21 = .ok (.ireturn, 1) := by decide +kernel
theorem dX9_isNumber_0 : decode cX9_isNumber 0 = .ok (.aload_n 0, 1) := by decide +kernel
theorem dX9_isNumber_1 : decode cX9_isNumber 1 = .ok (.getfield 143, 3) := by decide +kernel
theorem dX9_isNumber_4 : decode cX9_isNumber 4 = .ok (.iconst 3, 1) := by decide +kernel
theorem dX9_isNumber_5 : decode cX9_isNumber 5 = .ok (.if_icmp .eq 9, 3) := by decide +kernel
theorem dX9_isNumber_8 : decode cX9_isNumber 8 = .ok (.aload_n 0, 1) := by decide +kernel
theorem dX9_isNumber_9 : decode cX9_isNumber 9 = .ok (.iconst 1, 1) := by decide +kernel
theorem dX9_isNumber_10 : decode cX9_isNumber 10 = .ok (.invokevirtual 155, 3) := by decide +kernel
theorem dX9_isNumber_13 : decode cX9_isNumber 13 = .ok (.ireturn, 1) := by decide +kernel
theorem dX9_isNumber_14 : decode cX9_isNumber 14 = .ok (.aload_n 0, 1) := by decide +kernel
theorem dX9_isNumber_15 : decode cX9_isNumber 15 = .ok (.getfield 149, 3) := by decide +kernel
theorem dX9_isNumber_18 : decode cX9_isNumber 18 = .ok (.iload_n 1, 1) := by decide +kernel
theorem dX9_isNumber_19 : decode cX9_isNumber 19 = .ok (.iload_n 2, 1) := by decide +kernel
theorem dX9_isNumber_20 : decode cX9_isNumber 20 = .ok (.invokestatic 46, 3) := by decide +kernel
theorem dX9_isNumber_23 : decode cX9_isNumber 23 = .ok (.ifCond .ne 9, 3) := by decide +kernel
theorem dX9_isNumber_26 : decode cX9_isNumber 26 = .ok (.aload_n 0, 1) := by decide +kernel
theorem dX9_isNumber_27 : decode cX9_isNumber 27 = .ok (.iconst 2, 1) := by decide +kernel
theorem dX9_isNumber_28 : decode cX9_isNumber 28 = .ok (.invokevirtual 155, 3) := by decide +kernel
theorem dX9_isNumber_31 : decode cX9_isNumber 31 = .ok (.ireturn, 1) := by decide +kernel
theorem dX9_isNumber_32 : decode cX9_isNumber 32 = .ok (.aload_n 0, 1) := by decide +kernel
theorem dX9_isNumber_33 : decode cX9_isNumber 33 = .ok (.aload_n 0, 1) := by decide +kernel
theorem dX9_isNumber_34 : decode cX9_isNumber 34 = .ok (.getfield 149, 3) := by decide +kernel
theorem dX9_isNumber_37 : decode cX9_isNumber 37 = .ok (.putfield 158, 3) := by decide +kernel
theorem dX9_isNumber_40 : decode cX9_isNumber 40 = .ok (.iconst 1, 1) := by decide +kernel
theorem dX9_isNumber_41 : decode cX9_isNumber 41 = .ok (.ireturn, 1) := by decide +kernel
theorem dX9_number_0 : decode cX9_number 0 = .ok (.aload_n 0, 1) := by decide +kernel
theorem dX9_number_1 : decode cX9_number 1 = .ok (.iload_n 2, 1) := by decide +kernel
theorem dX9_number_2 : decode cX9_number 2 = .ok (.iload_n 3, 1) := by decide +kernel
theorem dX9_number_3 : decode cX9_number 3 = .ok (.invokevirtual 161, 3) := by decide +kernel
theorem dX9_number_6 : decode cX9_number 6 = .ok (.ifCond .ne 5, 3) := by decide +kernel
theorem dX9_number_9 : decode cX9_number 9 = .ok (.iconst 0, 1) := by decide +kernel
theorem dX9_number_10 : decode cX9_number 10 = .ok (.ireturn, 1) := by decide +kernel
theorem dX9_number_11 : decode cX9_number 11 = .ok (.aload_n 0, 1) := by decide +kernel
theorem dX9_number_12 : decode cX9_number 12 = .ok (.getfield 35, 3) := by decide +kernel
theorem dX9_number_15 : decode cX9_number 15 = .ok (.iload_n 1, 1) := by decide +kernel
theorem dX9_number_16 : decode cX9_number 16 = .ok (.aload_n 0, 1) := by decide +kernel
theorem dX9_number_17 : decode cX9_number 17 = .ok (.getfield 158, 3) := by decide +kernel
theorem dX9_number_20 : decode cX9_number 20 = .ok (.iastore, 1) := by decide +kernel
theorem dX9_number_21 : decode cX9_number 21 = .ok (.aload_n 0, 1) := by decide +kernel
theorem dX9_number_22 : decode cX9_number 22 = .ok (.invokevirtual 164, 3) := by decide +kernel
theorem dX9_number_25 : decode cX9_number 25 = .ok (.iconst 1, 1) := by decide +kernel
theorem dX9_number_26 : decode cX9_number 26 = .ok (.ireturn, 1) := by decide +kernel
theorem dX9_flatAt_0 : decode cX9_flatAt 0 = .ok (.aload_n 0, 1) := by decide +kernel
theorem dX9_flatAt_1 : decode cX9_flatAt 1 = .ok (.iconst 0, 1) := by decide +kernel
theorem dX9_flatAt_2 : decode cX9_flatAt 2 = .ok (.iconst 0, 1) := by decide +kernel
theorem dX9_flatAt_3 : decode cX9_flatAt 3 = .ok (.aload_n 0, 1) := by decide +kernel
theorem dX9_flatAt_4 : decode cX9_flatAt 4 = .ok (.getfield 7, 3) := by decide +kernel
theorem dX9_flatAt_7 : decode cX9_flatAt 7 = .ok (.iconst 0, 1) := by decide +kernel
theorem dX9_flatAt_8 : decode cX9_flatAt 8 = .ok (.iaload, 1) := by decide +kernel
theorem dX9_flatAt_9 : decode cX9_flatAt 9 = .ok (.iconst 1, 1) := by decide +kernel
theorem dX9_flatAt_10 : decode cX9_flatAt 10 = .ok (.isub, 1) := by decide +kernel
theorem dX9_flatAt_11 : decode cX9_flatAt 11 = .ok (.invokevirtual 167, 3) := by decide +kernel
theorem dX9_flatAt_14 : decode cX9_flatAt 14 = .ok (.ireturn, 1) := by decide +kernel
theorem dX9_isSemicolon_0 : decode cX9_isSemicolon 0 = .ok (.aload_n 0, 1) := by decide +kernel
theorem dX9_isSemicolon_1 : decode cX9_isSemicolon 1 = .ok (.getfield 143, 3) := by decide +kernel
theorem dX9_isSemicolon_4 : decode cX9_isSemicolon 4 = .ok (.iconst 1, 1) := by decide +kernel
theorem dX9_isSemicolon_5 : decode cX9_isSemicolon 5 = .ok (.if_icmp .eq 11, 3) := by decide +kernel
theorem dX9_isSemicolon_8 : decode cX9_isSemicolon 8 = .ok (.aload_n 0, 1) := by decide +kernel
theorem dX9_isSemicolon_9 : decode cX9_isSemicolon 9 = .ok (.iconst 1, 1) := by decide +kernel
theorem dX9_isSemicolon_10 : decode cX9_isSemicolon 10 = .ok (.invokevirtual 155, 3) := by decide +kernel
theorem dX9_isSemicolon_13 : decode cX9_isSemicolon 13 = .ok (.ifCond .eq 7, 3) := by decide +kernel
theorem dX9_isSemicolon_16 : decode cX9_isSemicolon 16 = .ok (.iconst 1, 1) := by decide +kernel
theorem dX9_isSemicolon_17 : decode cX9_isSemicolon 17 = .ok (.goto 4, 3) := by decide +kernel
theorem dX9_isSemicolon_20 : decode cX9_isSemicolon 20 = .ok (.iconst 0, 1) := by decide +kernel
theorem dX9_isSemicolon_21 : decode cX9_isSemicolon 21 = .ok (.ireturn, 1) := by decide +kernel
theorem dX9_isDone_0 : decode cX9_isDone 0 = .ok (.iload_n 1, 1) := by decide +kernel
theorem dX9_isDone_1 : decode cX9_isDone 1 = .ok (.ifCond .ge 11, 3) := by decide +kernel
theorem dX9_isDone_4 : decode cX9_isDone 4 = .ok (.aload_n 0, 1) := by decide +kernel
theorem dX9_isDone_5 : decode cX9_isDone 5 = .ok (.iconst 4, 1) := by decide +kernel
theorem dX9_isDone_6 : decode cX9_isDone 6 = .ok (.invokevirtual 155, 3) := by decide +kernel
theorem dX9_isDone_9 : decode cX9_isDone 9 = .ok (.ifCond .eq 7, 3) := by decide +kernel
theorem dX9_isDone_12 : decode cX9_isDone 12 = .ok (.iconst 1, 1) := by decide +kernel
theorem dX9_isDone_13 : decode cX9_isDone 13 = .ok (.goto 4, 3) := by decide +kernel
theorem dX9_isDone_16 : decode cX9_isDone 16 = .ok (.iconst 0, 1) := by decide +kernel
theorem dX9_isDone_17 : decode cX9_isDone 17 = .ok (.ireturn, 1) := by decide +kernel
theorem dX9_readsHouse_0 : decode cX9_readsHouse 0 = .ok (.aload_n 0, 1) := by decide +kernel
theorem dX9_readsHouse_1 : decode cX9_readsHouse 1 = .ok (.ldc 170, 2) := by decide +kernel
theorem dX9_readsHouse_3 : decode cX9_readsHouse 3 = .ok (.invokevirtual 172, 3) := by decide +kernel
theorem dX9_readsHouse_6 : decode cX9_readsHouse 6 = .ok (.ifCond .ne 9, 3) := by decide +kernel
theorem dX9_readsHouse_9 : decode cX9_readsHouse 9 = .ok (.aload_n 0, 1) := by decide +kernel
theorem dX9_readsHouse_10 : decode cX9_readsHouse 10 = .ok (.iconst 1, 1) := by decide +kernel
theorem dX9_readsHouse_11 : decode cX9_readsHouse 11 = .ok (.invokevirtual 155, 3) := by decide +kernel
theorem dX9_readsHouse_14 : decode cX9_readsHouse 14 = .ok (.ireturn, 1) := by decide +kernel
theorem dX9_readsHouse_15 : decode cX9_readsHouse 15 = .ok (.aload_n 0, 1) := by decide +kernel
theorem dX9_readsHouse_16 : decode cX9_readsHouse 16 = .ok (.invokevirtual 164, 3) := by decide +kernel
theorem dX9_readsHouse_19 : decode cX9_readsHouse 19 = .ok (.iconst 1, 1) := by decide +kernel
theorem dX9_readsHouse_20 : decode cX9_readsHouse 20 = .ok (.istore_n 1, 1) := by decide +kernel
theorem dX9_readsHouse_21 : decode cX9_readsHouse 21 = .ok (.iload_n 1, 1) := by decide +kernel
theorem dX9_readsHouse_22 : decode cX9_readsHouse 22 = .ok (.ifCond .eq 103, 3) := by decide +kernel
theorem dX9_readsHouse_25 : decode cX9_readsHouse 25 = .ok (.aload_n 0, 1) := by decide +kernel
theorem dX9_readsHouse_26 : decode cX9_readsHouse 26 = .ok (.iconst 0, 1) := by decide +kernel
theorem dX9_readsHouse_27 : decode cX9_readsHouse 27 = .ok (.bipush 9, 2) := by decide +kernel
theorem dX9_readsHouse_29 : decode cX9_readsHouse 29 = .ok (.invokevirtual 161, 3) := by decide +kernel
theorem dX9_readsHouse_32 : decode cX9_readsHouse 32 = .ok (.ifCond .ne 5, 3) := by decide +kernel
theorem dX9_readsHouse_35 : decode cX9_readsHouse 35 = .ok (.iconst 0, 1) := by decide +kernel
theorem dX9_readsHouse_36 : decode cX9_readsHouse 36 = .ok (.ireturn, 1) := by decide +kernel
theorem dX9_readsHouse_37 : decode cX9_readsHouse 37 = .ok (.aload_n 0, 1) := by decide +kernel
theorem dX9_readsHouse_38 : decode cX9_readsHouse 38 = .ok (.getfield 7, 3) := by decide +kernel
theorem dX9_readsHouse_41 : decode cX9_readsHouse 41 = .ok (.iconst 0, 1) := by decide +kernel
theorem dX9_readsHouse_42 : decode cX9_readsHouse 42 = .ok (.iaload, 1) := by decide +kernel
theorem dX9_readsHouse_43 : decode cX9_readsHouse 43 = .ok (.bipush 10, 2) := by decide +kernel
theorem dX9_readsHouse_45 : decode cX9_readsHouse 45 = .ok (.if_icmp .ne 9, 3) := by decide +kernel
theorem dX9_readsHouse_48 : decode cX9_readsHouse 48 = .ok (.aload_n 0, 1) := by decide +kernel
theorem dX9_readsHouse_49 : decode cX9_readsHouse 49 = .ok (.iconst 3, 1) := by decide +kernel
theorem dX9_readsHouse_50 : decode cX9_readsHouse 50 = .ok (.invokevirtual 155, 3) := by decide +kernel
theorem dX9_readsHouse_53 : decode cX9_readsHouse 53 = .ok (.ireturn, 1) := by decide +kernel
theorem dX9_readsHouse_54 : decode cX9_readsHouse 54 = .ok (.aload_n 0, 1) := by decide +kernel
theorem dX9_readsHouse_55 : decode cX9_readsHouse 55 = .ok (.aload_n 0, 1) := by decide +kernel
theorem dX9_readsHouse_56 : decode cX9_readsHouse 56 = .ok (.getfield 7, 3) := by decide +kernel
theorem dX9_readsHouse_59 : decode cX9_readsHouse 59 = .ok (.iconst 0, 1) := by decide +kernel
theorem dX9_readsHouse_60 : decode cX9_readsHouse 60 = .ok (.iaload, 1) := by decide +kernel
theorem dX9_readsHouse_61 : decode cX9_readsHouse 61 = .ok (.iconst 0, 1) := by decide +kernel
theorem dX9_readsHouse_62 : decode cX9_readsHouse 62 = .ok (.aload_n 0, 1) := by decide +kernel
theorem dX9_readsHouse_63 : decode cX9_readsHouse 63 = .ok (.getfield 158, 3) := by decide +kernel
theorem dX9_readsHouse_66 : decode cX9_readsHouse 66 = .ok (.invokevirtual 62, 3) := by decide +kernel
theorem dX9_readsHouse_69 : decode cX9_readsHouse 69 = .ok (.aload_n 0, 1) := by decide +kernel
theorem dX9_readsHouse_70 : decode cX9_readsHouse 70 = .ok (.invokevirtual 164, 3) := by decide +kernel
theorem dX9_readsHouse_73 : decode cX9_readsHouse 73 = .ok (.aload_n 0, 1) := by decide +kernel
theorem dX9_readsHouse_74 : decode cX9_readsHouse 74 = .ok (.ldc 176, 2) := by decide +kernel
theorem dX9_readsHouse_76 : decode cX9_readsHouse 76 = .ok (.invokevirtual 172, 3) := by decide +kernel
theorem dX9_readsHouse_79 : decode cX9_readsHouse 79 = .ok (.ifCond .eq 19, 3) := by decide +kernel
theorem dX9_readsHouse_82 : decode cX9_readsHouse 82 = .ok (.aload_n 0, 1) := by decide +kernel
theorem dX9_readsHouse_83 : decode cX9_readsHouse 83 = .ok (.aload_n 0, 1) := by decide +kernel
theorem dX9_readsHouse_84 : decode cX9_readsHouse 84 = .ok (.getfield 7, 3) := by decide +kernel
theorem dX9_readsHouse_87 : decode cX9_readsHouse 87 = .ok (.iconst 0, 1) := by decide +kernel
theorem dX9_readsHouse_88 : decode cX9_readsHouse 88 = .ok (.iaload, 1) := by decide +kernel
theorem dX9_readsHouse_89 : decode cX9_readsHouse 89 = .ok (.iconst 1, 1) := by decide +kernel
theorem dX9_readsHouse_90 : decode cX9_readsHouse 90 = .ok (.iconst 1, 1) := by decide +kernel
theorem dX9_readsHouse_91 : decode cX9_readsHouse 91 = .ok (.invokevirtual 62, 3) := by decide +kernel
theorem dX9_readsHouse_94 : decode cX9_readsHouse 94 = .ok (.aload_n 0, 1) := by decide +kernel
theorem dX9_readsHouse_95 : decode cX9_readsHouse 95 = .ok (.invokevirtual 164, 3) := by decide +kernel
theorem dX9_readsHouse_98 : decode cX9_readsHouse 98 = .ok (.aload_n 0, 1) := by decide +kernel
theorem dX9_readsHouse_99 : decode cX9_readsHouse 99 = .ok (.getfield 7, 3) := by decide +kernel
theorem dX9_readsHouse_102 : decode cX9_readsHouse 102 = .ok (.iconst 0, 1) := by decide +kernel
theorem dX9_readsHouse_103 : decode cX9_readsHouse 103 = .ok (.dup2, 1) := by decide +kernel
theorem dX9_readsHouse_104 : decode cX9_readsHouse 104 = .ok (.iaload, 1) := by decide +kernel
theorem dX9_readsHouse_105 : decode cX9_readsHouse 105 = .ok (.iconst 1, 1) := by decide +kernel
theorem dX9_readsHouse_106 : decode cX9_readsHouse 106 = .ok (.iadd, 1) := by decide +kernel
theorem dX9_readsHouse_107 : decode cX9_readsHouse 107 = .ok (.iastore, 1) := by decide +kernel
theorem dX9_readsHouse_108 : decode cX9_readsHouse 108 = .ok (.aload_n 0, 1) := by decide +kernel
theorem dX9_readsHouse_109 : decode cX9_readsHouse 109 = .ok (.getfield 143, 3) := by decide +kernel
theorem dX9_readsHouse_112 : decode cX9_readsHouse 112 = .ok (.iconst 3, 1) := by decide +kernel
theorem dX9_readsHouse_113 : decode cX9_readsHouse 113 = .ok (.if_icmp .ne 7, 3) := by decide +kernel
theorem dX9_readsHouse_116 : decode cX9_readsHouse 116 = .ok (.iconst 1, 1) := by decide +kernel
theorem dX9_readsHouse_117 : decode cX9_readsHouse 117 = .ok (.goto 4, 3) := by decide +kernel
theorem dX9_readsHouse_120 : decode cX9_readsHouse 120 = .ok (.iconst 0, 1) := by decide +kernel
theorem dX9_readsHouse_121 : decode cX9_readsHouse 121 = .ok (.istore_n 1, 1) := by decide +kernel
theorem dX9_readsHouse_122 : decode cX9_readsHouse 122 = .ok (.goto (-101), 3) := by decide +kernel
theorem dX9_readsHouse_125 : decode cX9_readsHouse 125 = .ok (.iconst 1, 1) := by decide +kernel
theorem dX9_readsHouse_126 : decode cX9_readsHouse 126 = .ok (.ireturn, 1) := by decide +kernel
theorem dX9_leastOf_0 : decode cX9_leastOf 0 = .ok (.iload_n 0, 1) := by decide +kernel
theorem dX9_leastOf_1 : decode cX9_leastOf 1 = .ok (.iconst 1, 1) := by decide +kernel
theorem dX9_leastOf_2 : decode cX9_leastOf 2 = .ok (.if_icmp .eq 8, 3) := by decide +kernel
theorem dX9_leastOf_5 : decode cX9_leastOf 5 = .ok (.iload_n 0, 1) := by decide +kernel
theorem dX9_leastOf_6 : decode cX9_leastOf 6 = .ok (.iconst 4, 1) := by decide +kernel
theorem dX9_leastOf_7 : decode cX9_leastOf 7 = .ok (.if_icmp .ne 7, 3) := by decide +kernel
theorem dX9_leastOf_10 : decode cX9_leastOf 10 = .ok (.iconst 1, 1) := by decide +kernel
theorem dX9_leastOf_11 : decode cX9_leastOf 11 = .ok (.goto 4, 3) := by decide +kernel
theorem dX9_leastOf_14 : decode cX9_leastOf 14 = .ok (.iconst 0, 1) := by decide +kernel
theorem dX9_leastOf_15 : decode cX9_leastOf 15 = .ok (.ireturn, 1) := by decide +kernel
theorem dX9_mostOf_0 : decode cX9_mostOf 0 = .ok (.iload_n 0, 1) := by decide +kernel
theorem dX9_mostOf_1 : decode cX9_mostOf 1 = .ok (.tableswitch 50 0 4 #[35, 38, 41, 44, 47], 35) := by decide +kernel
theorem dX9_mostOf_36 : decode cX9_mostOf 36 = .ok (.bipush 60, 2) := by decide +kernel
theorem dX9_mostOf_38 : decode cX9_mostOf 38 = .ok (.ireturn, 1) := by decide +kernel
theorem dX9_mostOf_39 : decode cX9_mostOf 39 = .ok (.bipush 30, 2) := by decide +kernel
theorem dX9_mostOf_41 : decode cX9_mostOf 41 = .ok (.ireturn, 1) := by decide +kernel
theorem dX9_mostOf_42 : decode cX9_mostOf 42 = .ok (.bipush 99, 2) := by decide +kernel
theorem dX9_mostOf_44 : decode cX9_mostOf 44 = .ok (.ireturn, 1) := by decide +kernel
theorem dX9_mostOf_45 : decode cX9_mostOf 45 = .ok (.bipush 9, 2) := by decide +kernel
theorem dX9_mostOf_47 : decode cX9_mostOf 47 = .ok (.ireturn, 1) := by decide +kernel
theorem dX9_mostOf_48 : decode cX9_mostOf 48 = .ok (.bipush 99, 2) := by decide +kernel
theorem dX9_mostOf_50 : decode cX9_mostOf 50 = .ok (.ireturn, 1) := by decide +kernel
theorem dX9_mostOf_51 : decode cX9_mostOf 51 = .ok (.bipush 20, 2) := by decide +kernel
theorem dX9_mostOf_53 : decode cX9_mostOf 53 = .ok (.ireturn, 1) := by decide +kernel
theorem dX9_settingAhead_0 : decode cX9_settingAhead 0 = .ok (.aload_n 0, 1) := by decide +kernel
theorem dX9_settingAhead_1 : decode cX9_settingAhead 1 = .ok (.ldc 178, 2) := by decide +kernel
theorem dX9_settingAhead_3 : decode cX9_settingAhead 3 = .ok (.invokevirtual 172, 3) := by decide +kernel
theorem dX9_settingAhead_6 : decode cX9_settingAhead 6 = .ok (.ifCond .eq 7, 3) := by decide +kernel
theorem dX9_settingAhead_9 : decode cX9_settingAhead 9 = .ok (.iconst 0, 1) := by decide +kernel
theorem dX9_settingAhead_10 : decode cX9_settingAhead 10 = .ok (.goto 69, 3) := by decide +kernel
theorem dX9_settingAhead_13 : decode cX9_settingAhead 13 = .ok (.aload_n 0, 1) := by decide +kernel
theorem dX9_settingAhead_14 : decode cX9_settingAhead 14 = .ok (.ldc 180, 2) := by decide +kernel
theorem dX9_settingAhead_16 : decode cX9_settingAhead 16 = .ok (.invokevirtual 172, 3) := by decide +kernel
theorem dX9_settingAhead_19 : decode cX9_settingAhead 19 = .ok (.ifCond .eq 7, 3) := by decide +kernel
theorem dX9_settingAhead_22 : decode cX9_settingAhead 22 = .ok (.iconst 1, 1) := by decide +kernel
theorem dX9_settingAhead_23 : decode cX9_settingAhead 23 = .ok (.goto 56, 3) := by decide +kernel
theorem dX9_settingAhead_26 : decode cX9_settingAhead 26 = .ok (.aload_n 0, 1) := by decide +kernel
theorem dX9_settingAhead_27 : decode cX9_settingAhead 27 = .ok (.ldc 182, 2) := by decide +kernel
theorem dX9_settingAhead_29 : decode cX9_settingAhead 29 = .ok (.invokevirtual 172, 3) := by decide +kernel
theorem dX9_settingAhead_32 : decode cX9_settingAhead 32 = .ok (.ifCond .eq 7, 3) := by decide +kernel
theorem dX9_settingAhead_35 : decode cX9_settingAhead 35 = .ok (.iconst 2, 1) := by decide +kernel
theorem dX9_settingAhead_36 : decode cX9_settingAhead 36 = .ok (.goto 43, 3) := by decide +kernel
theorem dX9_settingAhead_39 : decode cX9_settingAhead 39 = .ok (.aload_n 0, 1) := by decide +kernel
theorem dX9_settingAhead_40 : decode cX9_settingAhead 40 = .ok (.ldc 184, 2) := by decide +kernel
theorem dX9_settingAhead_42 : decode cX9_settingAhead 42 = .ok (.invokevirtual 172, 3) := by decide +kernel
theorem dX9_settingAhead_45 : decode cX9_settingAhead 45 = .ok (.ifCond .eq 7, 3) := by decide +kernel
theorem dX9_settingAhead_48 : decode cX9_settingAhead 48 = .ok (.iconst 3, 1) := by decide +kernel
theorem dX9_settingAhead_49 : decode cX9_settingAhead 49 = .ok (.goto 30, 3) := by decide +kernel
theorem dX9_settingAhead_52 : decode cX9_settingAhead 52 = .ok (.aload_n 0, 1) := by decide +kernel
theorem dX9_settingAhead_53 : decode cX9_settingAhead 53 = .ok (.ldc 186, 2) := by decide +kernel
theorem dX9_settingAhead_55 : decode cX9_settingAhead 55 = .ok (.invokevirtual 172, 3) := by decide +kernel
theorem dX9_settingAhead_58 : decode cX9_settingAhead 58 = .ok (.ifCond .eq 7, 3) := by decide +kernel
theorem dX9_settingAhead_61 : decode cX9_settingAhead 61 = .ok (.iconst 4, 1) := by decide +kernel
theorem dX9_settingAhead_62 : decode cX9_settingAhead 62 = .ok (.goto 17, 3) := by decide +kernel
theorem dX9_settingAhead_65 : decode cX9_settingAhead 65 = .ok (.aload_n 0, 1) := by decide +kernel
theorem dX9_settingAhead_66 : decode cX9_settingAhead 66 = .ok (.ldc 188, 2) := by decide +kernel
theorem dX9_settingAhead_68 : decode cX9_settingAhead 68 = .ok (.invokevirtual 172, 3) := by decide +kernel
theorem dX9_settingAhead_71 : decode cX9_settingAhead 71 = .ok (.ifCond .eq 7, 3) := by decide +kernel
theorem dX9_settingAhead_74 : decode cX9_settingAhead 74 = .ok (.iconst 5, 1) := by decide +kernel
theorem dX9_settingAhead_75 : decode cX9_settingAhead 75 = .ok (.goto 4, 3) := by decide +kernel
theorem dX9_settingAhead_78 : decode cX9_settingAhead 78 = .ok (.iconst (-1), 1) := by decide +kernel
theorem dX9_settingAhead_79 : decode cX9_settingAhead 79 = .ok (.ireturn, 1) := by decide +kernel
theorem dX9_readsSetting_0 : decode cX9_readsSetting 0 = .ok (.aload_n 0, 1) := by decide +kernel
theorem dX9_readsSetting_1 : decode cX9_readsSetting 1 = .ok (.invokevirtual 164, 3) := by decide +kernel
theorem dX9_readsSetting_4 : decode cX9_readsSetting 4 = .ok (.aload_n 0, 1) := by decide +kernel
theorem dX9_readsSetting_5 : decode cX9_readsSetting 5 = .ok (.iconst 0, 1) := by decide +kernel
theorem dX9_readsSetting_6 : decode cX9_readsSetting 6 = .ok (.iload_n 1, 1) := by decide +kernel
theorem dX9_readsSetting_7 : decode cX9_readsSetting 7 = .ok (.invokestatic 190, 3) := by decide +kernel
theorem dX9_readsSetting_10 : decode cX9_readsSetting 10 = .ok (.iload_n 1, 1) := by decide +kernel
theorem dX9_readsSetting_11 : decode cX9_readsSetting 11 = .ok (.invokestatic 193, 3) := by decide +kernel
theorem dX9_readsSetting_14 : decode cX9_readsSetting 14 = .ok (.invokevirtual 167, 3) := by decide +kernel
theorem dX9_readsSetting_17 : decode cX9_readsSetting 17 = .ok (.ifCond .ne 5, 3) := by decide +kernel
theorem dX9_readsSetting_20 : decode cX9_readsSetting 20 = .ok (.iconst 0, 1) := by decide +kernel
theorem dX9_readsSetting_21 : decode cX9_readsSetting 21 = .ok (.ireturn, 1) := by decide +kernel
theorem dX9_readsSetting_22 : decode cX9_readsSetting 22 = .ok (.aload_n 0, 1) := by decide +kernel
theorem dX9_readsSetting_23 : decode cX9_readsSetting 23 = .ok (.getfield 7, 3) := by decide +kernel
theorem dX9_readsSetting_26 : decode cX9_readsSetting 26 = .ok (.bipush 7, 2) := by decide +kernel
theorem dX9_readsSetting_28 : decode cX9_readsSetting 28 = .ok (.iload_n 1, 1) := by decide +kernel
theorem dX9_readsSetting_29 : decode cX9_readsSetting 29 = .ok (.iadd, 1) := by decide +kernel
theorem dX9_readsSetting_30 : decode cX9_readsSetting 30 = .ok (.aload_n 0, 1) := by decide +kernel
theorem dX9_readsSetting_31 : decode cX9_readsSetting 31 = .ok (.getfield 35, 3) := by decide +kernel
theorem dX9_readsSetting_34 : decode cX9_readsSetting 34 = .ok (.iconst 0, 1) := by decide +kernel
theorem dX9_readsSetting_35 : decode cX9_readsSetting 35 = .ok (.iaload, 1) := by decide +kernel
theorem dX9_readsSetting_36 : decode cX9_readsSetting 36 = .ok (.iastore, 1) := by decide +kernel
theorem dX9_readsSetting_37 : decode cX9_readsSetting 37 = .ok (.iconst 1, 1) := by decide +kernel
theorem dX9_readsSetting_38 : decode cX9_readsSetting 38 = .ok (.ireturn, 1) := by decide +kernel
theorem dX9_readsStatement_0 : decode cX9_readsStatement 0 = .ok (.aload_n 0, 1) := by decide +kernel
theorem dX9_readsStatement_1 : decode cX9_readsStatement 1 = .ok (.invokevirtual 196, 3) := by decide +kernel
theorem dX9_readsStatement_4 : decode cX9_readsStatement 4 = .ok (.istore_n 1, 1) := by decide +kernel
theorem dX9_readsStatement_5 : decode cX9_readsStatement 5 = .ok (.iload_n 1, 1) := by decide +kernel
theorem dX9_readsStatement_6 : decode cX9_readsStatement 6 = .ok (.iconst (-1), 1) := by decide +kernel
theorem dX9_readsStatement_7 : decode cX9_readsStatement 7 = .ok (.if_icmp .eq 9, 3) := by decide +kernel
theorem dX9_readsStatement_10 : decode cX9_readsStatement 10 = .ok (.aload_n 0, 1) := by decide +kernel
theorem dX9_readsStatement_11 : decode cX9_readsStatement 11 = .ok (.iload_n 1, 1) := by decide +kernel
theorem dX9_readsStatement_12 : decode cX9_readsStatement 12 = .ok (.invokevirtual 199, 3) := by decide +kernel
theorem dX9_readsStatement_15 : decode cX9_readsStatement 15 = .ok (.ireturn, 1) := by decide +kernel
theorem dX9_readsStatement_16 : decode cX9_readsStatement 16 = .ok (.aload_n 0, 1) := by decide +kernel
theorem dX9_readsStatement_17 : decode cX9_readsStatement 17 = .ok (.ldc 202, 2) := by decide +kernel
theorem dX9_readsStatement_19 : decode cX9_readsStatement 19 = .ok (.invokevirtual 172, 3) := by decide +kernel
theorem dX9_readsStatement_22 : decode cX9_readsStatement 22 = .ok (.ifCond .eq 61, 3) := by decide +kernel
theorem dX9_readsStatement_25 : decode cX9_readsStatement 25 = .ok (.aload_n 0, 1) := by decide +kernel
theorem dX9_readsStatement_26 : decode cX9_readsStatement 26 = .ok (.invokevirtual 164, 3) := by decide +kernel
theorem dX9_readsStatement_29 : decode cX9_readsStatement 29 = .ok (.aload_n 0, 1) := by decide +kernel
theorem dX9_readsStatement_30 : decode cX9_readsStatement 30 = .ok (.invokevirtual 204, 3) := by decide +kernel
theorem dX9_readsStatement_33 : decode cX9_readsStatement 33 = .ok (.ifCond .eq 48, 3) := by decide +kernel
theorem dX9_readsStatement_36 : decode cX9_readsStatement 36 = .ok (.aload_n 0, 1) := by decide +kernel
theorem dX9_readsStatement_37 : decode cX9_readsStatement 37 = .ok (.iconst 1, 1) := by decide +kernel
theorem dX9_readsStatement_38 : decode cX9_readsStatement 38 = .ok (.iconst 1, 1) := by decide +kernel
theorem dX9_readsStatement_39 : decode cX9_readsStatement 39 = .ok (.bipush 99, 2) := by decide +kernel
theorem dX9_readsStatement_41 : decode cX9_readsStatement 41 = .ok (.invokevirtual 167, 3) := by decide +kernel
theorem dX9_readsStatement_44 : decode cX9_readsStatement 44 = .ok (.ifCond .eq 37, 3) := by decide +kernel
theorem dX9_readsStatement_47 : decode cX9_readsStatement 47 = .ok (.aload_n 0, 1) := by decide +kernel
theorem dX9_readsStatement_48 : decode cX9_readsStatement 48 = .ok (.invokevirtual 207, 3) := by decide +kernel
theorem dX9_readsStatement_51 : decode cX9_readsStatement 51 = .ok (.ifCond .eq 30, 3) := by decide +kernel
theorem dX9_readsStatement_54 : decode cX9_readsStatement 54 = .ok (.aload_n 0, 1) := by decide +kernel
theorem dX9_readsStatement_55 : decode cX9_readsStatement 55 = .ok (.aload_n 0, 1) := by decide +kernel
theorem dX9_readsStatement_56 : decode cX9_readsStatement 56 = .ok (.aload_n 0, 1) := by decide +kernel
theorem dX9_readsStatement_57 : decode cX9_readsStatement 57 = .ok (.getfield 35, 3) := by decide +kernel
theorem dX9_readsStatement_60 : decode cX9_readsStatement 60 = .ok (.iconst 0, 1) := by decide +kernel
theorem dX9_readsStatement_61 : decode cX9_readsStatement 61 = .ok (.iaload, 1) := by decide +kernel
theorem dX9_readsStatement_62 : decode cX9_readsStatement 62 = .ok (.aload_n 0, 1) := by decide +kernel
theorem dX9_readsStatement_63 : decode cX9_readsStatement 63 = .ok (.getfield 35, 3) := by decide +kernel
theorem dX9_readsStatement_66 : decode cX9_readsStatement 66 = .ok (.iconst 1, 1) := by decide +kernel
theorem dX9_readsStatement_67 : decode cX9_readsStatement 67 = .ok (.iaload, 1) := by decide +kernel
theorem dX9_readsStatement_68 : decode cX9_readsStatement 68 = .ok (.invokevirtual 210, 3) := by decide +kernel
theorem dX9_readsStatement_71 : decode cX9_readsStatement 71 = .ok (.invokevirtual 213, 3) := by decide +kernel
theorem dX9_readsStatement_74 : decode cX9_readsStatement 74 = .ok (.ifCond .eq 7, 3) := by decide +kernel
theorem dX9_readsStatement_77 : decode cX9_readsStatement 77 = .ok (.iconst 1, 1) := by decide +kernel
theorem dX9_readsStatement_78 : decode cX9_readsStatement 78 = .ok (.goto 4, 3) := by decide +kernel
theorem dX9_readsStatement_81 : decode cX9_readsStatement 81 = .ok (.iconst 0, 1) := by decide +kernel
theorem dX9_readsStatement_82 : decode cX9_readsStatement 82 = .ok (.ireturn, 1) := by decide +kernel
theorem dX9_readsStatement_83 : decode cX9_readsStatement 83 = .ok (.aload_n 0, 1) := by decide +kernel
theorem dX9_readsStatement_84 : decode cX9_readsStatement 84 = .ok (.ldc 216, 2) := by decide +kernel
theorem dX9_readsStatement_86 : decode cX9_readsStatement 86 = .ok (.invokevirtual 172, 3) := by decide +kernel
theorem dX9_readsStatement_89 : decode cX9_readsStatement 89 = .ok (.ifCond .eq 44, 3) := by decide +kernel
theorem dX9_readsStatement_92 : decode cX9_readsStatement 92 = .ok (.aload_n 0, 1) := by decide +kernel
theorem dX9_readsStatement_93 : decode cX9_readsStatement 93 = .ok (.invokevirtual 164, 3) := by decide +kernel
theorem dX9_readsStatement_96 : decode cX9_readsStatement 96 = .ok (.aload_n 0, 1) := by decide +kernel
theorem dX9_readsStatement_97 : decode cX9_readsStatement 97 = .ok (.invokevirtual 204, 3) := by decide +kernel
theorem dX9_readsStatement_100 : decode cX9_readsStatement 100 = .ok (.ifCond .eq 31, 3) := by decide +kernel
theorem dX9_readsStatement_103 : decode cX9_readsStatement 103 = .ok (.aload_n 0, 1) := by decide +kernel
theorem dX9_readsStatement_104 : decode cX9_readsStatement 104 = .ok (.invokevirtual 207, 3) := by decide +kernel
theorem dX9_readsStatement_107 : decode cX9_readsStatement 107 = .ok (.ifCond .eq 24, 3) := by decide +kernel
theorem dX9_readsStatement_110 : decode cX9_readsStatement 110 = .ok (.aload_n 0, 1) := by decide +kernel
theorem dX9_readsStatement_111 : decode cX9_readsStatement 111 = .ok (.aload_n 0, 1) := by decide +kernel
theorem dX9_readsStatement_112 : decode cX9_readsStatement 112 = .ok (.aload_n 0, 1) := by decide +kernel
theorem dX9_readsStatement_113 : decode cX9_readsStatement 113 = .ok (.getfield 35, 3) := by decide +kernel
theorem dX9_readsStatement_116 : decode cX9_readsStatement 116 = .ok (.iconst 0, 1) := by decide +kernel
theorem dX9_readsStatement_117 : decode cX9_readsStatement 117 = .ok (.iaload, 1) := by decide +kernel
theorem dX9_readsStatement_118 : decode cX9_readsStatement 118 = .ok (.invokevirtual 218, 3) := by decide +kernel
theorem dX9_readsStatement_121 : decode cX9_readsStatement 121 = .ok (.invokevirtual 213, 3) := by decide +kernel
theorem dX9_readsStatement_124 : decode cX9_readsStatement 124 = .ok (.ifCond .eq 7, 3) := by decide +kernel
theorem dX9_readsStatement_127 : decode cX9_readsStatement 127 = .ok (.iconst 1, 1) := by decide +kernel
theorem dX9_readsStatement_128 : decode cX9_readsStatement 128 = .ok (.goto 4, 3) := by decide +kernel
theorem dX9_readsStatement_131 : decode cX9_readsStatement 131 = .ok (.iconst 0, 1) := by decide +kernel
theorem dX9_readsStatement_132 : decode cX9_readsStatement 132 = .ok (.ireturn, 1) := by decide +kernel
theorem dX9_readsStatement_133 : decode cX9_readsStatement 133 = .ok (.aload_n 0, 1) := by decide +kernel
theorem dX9_readsStatement_134 : decode cX9_readsStatement 134 = .ok (.ldc 221, 2) := by decide +kernel
theorem dX9_readsStatement_136 : decode cX9_readsStatement 136 = .ok (.invokevirtual 172, 3) := by decide +kernel
theorem dX9_readsStatement_139 : decode cX9_readsStatement 139 = .ok (.ifCond .eq 44, 3) := by decide +kernel
theorem dX9_readsStatement_142 : decode cX9_readsStatement 142 = .ok (.aload_n 0, 1) := by decide +kernel
theorem dX9_readsStatement_143 : decode cX9_readsStatement 143 = .ok (.invokevirtual 164, 3) := by decide +kernel
theorem dX9_readsStatement_146 : decode cX9_readsStatement 146 = .ok (.aload_n 0, 1) := by decide +kernel
theorem dX9_readsStatement_147 : decode cX9_readsStatement 147 = .ok (.invokevirtual 204, 3) := by decide +kernel
theorem dX9_readsStatement_150 : decode cX9_readsStatement 150 = .ok (.ifCond .eq 31, 3) := by decide +kernel
theorem dX9_readsStatement_153 : decode cX9_readsStatement 153 = .ok (.aload_n 0, 1) := by decide +kernel
theorem dX9_readsStatement_154 : decode cX9_readsStatement 154 = .ok (.invokevirtual 207, 3) := by decide +kernel
theorem dX9_readsStatement_157 : decode cX9_readsStatement 157 = .ok (.ifCond .eq 24, 3) := by decide +kernel
theorem dX9_readsStatement_160 : decode cX9_readsStatement 160 = .ok (.aload_n 0, 1) := by decide +kernel
theorem dX9_readsStatement_161 : decode cX9_readsStatement 161 = .ok (.aload_n 0, 1) := by decide +kernel
theorem dX9_readsStatement_162 : decode cX9_readsStatement 162 = .ok (.aload_n 0, 1) := by decide +kernel
theorem dX9_readsStatement_163 : decode cX9_readsStatement 163 = .ok (.getfield 35, 3) := by decide +kernel
theorem dX9_readsStatement_166 : decode cX9_readsStatement 166 = .ok (.iconst 0, 1) := by decide +kernel
theorem dX9_readsStatement_167 : decode cX9_readsStatement 167 = .ok (.iaload, 1) := by decide +kernel
theorem dX9_readsStatement_168 : decode cX9_readsStatement 168 = .ok (.invokevirtual 223, 3) := by decide +kernel
theorem dX9_readsStatement_171 : decode cX9_readsStatement 171 = .ok (.invokevirtual 213, 3) := by decide +kernel
theorem dX9_readsStatement_174 : decode cX9_readsStatement 174 = .ok (.ifCond .eq 7, 3) := by decide +kernel
theorem dX9_readsStatement_177 : decode cX9_readsStatement 177 = .ok (.iconst 1, 1) := by decide +kernel
theorem dX9_readsStatement_178 : decode cX9_readsStatement 178 = .ok (.goto 4, 3) := by decide +kernel
theorem dX9_readsStatement_181 : decode cX9_readsStatement 181 = .ok (.iconst 0, 1) := by decide +kernel
theorem dX9_readsStatement_182 : decode cX9_readsStatement 182 = .ok (.ireturn, 1) := by decide +kernel
theorem dX9_readsStatement_183 : decode cX9_readsStatement 183 = .ok (.aload_n 0, 1) := by decide +kernel
theorem dX9_readsStatement_184 : decode cX9_readsStatement 184 = .ok (.ldc 226, 2) := by decide +kernel
theorem dX9_readsStatement_186 : decode cX9_readsStatement 186 = .ok (.invokevirtual 172, 3) := by decide +kernel
theorem dX9_readsStatement_189 : decode cX9_readsStatement 189 = .ok (.ifCond .eq 61, 3) := by decide +kernel
theorem dX9_readsStatement_192 : decode cX9_readsStatement 192 = .ok (.aload_n 0, 1) := by decide +kernel
theorem dX9_readsStatement_193 : decode cX9_readsStatement 193 = .ok (.invokevirtual 164, 3) := by decide +kernel
theorem dX9_readsStatement_196 : decode cX9_readsStatement 196 = .ok (.aload_n 0, 1) := by decide +kernel
theorem dX9_readsStatement_197 : decode cX9_readsStatement 197 = .ok (.invokevirtual 204, 3) := by decide +kernel
theorem dX9_readsStatement_200 : decode cX9_readsStatement 200 = .ok (.ifCond .eq 48, 3) := by decide +kernel
theorem dX9_readsStatement_203 : decode cX9_readsStatement 203 = .ok (.aload_n 0, 1) := by decide +kernel
theorem dX9_readsStatement_204 : decode cX9_readsStatement 204 = .ok (.iconst 1, 1) := by decide +kernel
theorem dX9_readsStatement_205 : decode cX9_readsStatement 205 = .ok (.iconst 1, 1) := by decide +kernel
theorem dX9_readsStatement_206 : decode cX9_readsStatement 206 = .ok (.bipush 99, 2) := by decide +kernel
theorem dX9_readsStatement_208 : decode cX9_readsStatement 208 = .ok (.invokevirtual 167, 3) := by decide +kernel
theorem dX9_readsStatement_211 : decode cX9_readsStatement 211 = .ok (.ifCond .eq 37, 3) := by decide +kernel
theorem dX9_readsStatement_214 : decode cX9_readsStatement 214 = .ok (.aload_n 0, 1) := by decide +kernel
theorem dX9_readsStatement_215 : decode cX9_readsStatement 215 = .ok (.invokevirtual 207, 3) := by decide +kernel
theorem dX9_readsStatement_218 : decode cX9_readsStatement 218 = .ok (.ifCond .eq 30, 3) := by decide +kernel
theorem dX9_readsStatement_221 : decode cX9_readsStatement 221 = .ok (.aload_n 0, 1) := by decide +kernel
theorem dX9_readsStatement_222 : decode cX9_readsStatement 222 = .ok (.aload_n 0, 1) := by decide +kernel
theorem dX9_readsStatement_223 : decode cX9_readsStatement 223 = .ok (.aload_n 0, 1) := by decide +kernel
theorem dX9_readsStatement_224 : decode cX9_readsStatement 224 = .ok (.getfield 35, 3) := by decide +kernel
theorem dX9_readsStatement_227 : decode cX9_readsStatement 227 = .ok (.iconst 0, 1) := by decide +kernel
theorem dX9_readsStatement_228 : decode cX9_readsStatement 228 = .ok (.iaload, 1) := by decide +kernel
theorem dX9_readsStatement_229 : decode cX9_readsStatement 229 = .ok (.aload_n 0, 1) := by decide +kernel
theorem dX9_readsStatement_230 : decode cX9_readsStatement 230 = .ok (.getfield 35, 3) := by decide +kernel
theorem dX9_readsStatement_233 : decode cX9_readsStatement 233 = .ok (.iconst 1, 1) := by decide +kernel
theorem dX9_readsStatement_234 : decode cX9_readsStatement 234 = .ok (.iaload, 1) := by decide +kernel
theorem dX9_readsStatement_235 : decode cX9_readsStatement 235 = .ok (.invokevirtual 228, 3) := by decide +kernel
theorem dX9_readsStatement_238 : decode cX9_readsStatement 238 = .ok (.invokevirtual 213, 3) := by decide +kernel
theorem dX9_readsStatement_241 : decode cX9_readsStatement 241 = .ok (.ifCond .eq 7, 3) := by decide +kernel
theorem dX9_readsStatement_244 : decode cX9_readsStatement 244 = .ok (.iconst 1, 1) := by decide +kernel
theorem dX9_readsStatement_245 : decode cX9_readsStatement 245 = .ok (.goto 4, 3) := by decide +kernel
theorem dX9_readsStatement_248 : decode cX9_readsStatement 248 = .ok (.iconst 0, 1) := by decide +kernel
theorem dX9_readsStatement_249 : decode cX9_readsStatement 249 = .ok (.ireturn, 1) := by decide +kernel
theorem dX9_readsStatement_250 : decode cX9_readsStatement 250 = .ok (.aload_n 0, 1) := by decide +kernel
theorem dX9_readsStatement_251 : decode cX9_readsStatement 251 = .ok (.ldc 231, 2) := by decide +kernel
theorem dX9_readsStatement_253 : decode cX9_readsStatement 253 = .ok (.invokevirtual 172, 3) := by decide +kernel
theorem dX9_readsStatement_256 : decode cX9_readsStatement 256 = .ok (.ifCond .eq 62, 3) := by decide +kernel
theorem dX9_readsStatement_259 : decode cX9_readsStatement 259 = .ok (.aload_n 0, 1) := by decide +kernel
theorem dX9_readsStatement_260 : decode cX9_readsStatement 260 = .ok (.invokevirtual 164, 3) := by decide +kernel
theorem dX9_readsStatement_263 : decode cX9_readsStatement 263 = .ok (.aload_n 0, 1) := by decide +kernel
theorem dX9_readsStatement_264 : decode cX9_readsStatement 264 = .ok (.invokevirtual 204, 3) := by decide +kernel
theorem dX9_readsStatement_267 : decode cX9_readsStatement 267 = .ok (.ifCond .eq 49, 3) := by decide +kernel
theorem dX9_readsStatement_270 : decode cX9_readsStatement 270 = .ok (.aload_n 0, 1) := by decide +kernel
theorem dX9_readsStatement_271 : decode cX9_readsStatement 271 = .ok (.iconst 1, 1) := by decide +kernel
theorem dX9_readsStatement_272 : decode cX9_readsStatement 272 = .ok (.iconst 1, 1) := by decide +kernel
theorem dX9_readsStatement_273 : decode cX9_readsStatement 273 = .ok (.sipush 9999, 3) := by decide +kernel
theorem dX9_readsStatement_276 : decode cX9_readsStatement 276 = .ok (.invokevirtual 167, 3) := by decide +kernel
theorem dX9_readsStatement_279 : decode cX9_readsStatement 279 = .ok (.ifCond .eq 37, 3) := by decide +kernel
theorem dX9_readsStatement_282 : decode cX9_readsStatement 282 = .ok (.aload_n 0, 1) := by decide +kernel
theorem dX9_readsStatement_283 : decode cX9_readsStatement 283 = .ok (.invokevirtual 207, 3) := by decide +kernel
theorem dX9_readsStatement_286 : decode cX9_readsStatement 286 = .ok (.ifCond .eq 30, 3) := by decide +kernel
theorem dX9_readsStatement_289 : decode cX9_readsStatement 289 = .ok (.aload_n 0, 1) := by decide +kernel
theorem dX9_readsStatement_290 : decode cX9_readsStatement 290 = .ok (.aload_n 0, 1) := by decide +kernel
theorem dX9_readsStatement_291 : decode cX9_readsStatement 291 = .ok (.aload_n 0, 1) := by decide +kernel
theorem dX9_readsStatement_292 : decode cX9_readsStatement 292 = .ok (.getfield 35, 3) := by decide +kernel
theorem dX9_readsStatement_295 : decode cX9_readsStatement 295 = .ok (.iconst 0, 1) := by decide +kernel
theorem dX9_readsStatement_296 : decode cX9_readsStatement 296 = .ok (.iaload, 1) := by decide +kernel
theorem dX9_readsStatement_297 : decode cX9_readsStatement 297 = .ok (.aload_n 0, 1) := by decide +kernel
theorem dX9_readsStatement_298 : decode cX9_readsStatement 298 = .ok (.getfield 35, 3) := by decide +kernel
theorem dX9_readsStatement_301 : decode cX9_readsStatement 301 = .ok (.iconst 1, 1) := by decide +kernel
theorem dX9_readsStatement_302 : decode cX9_readsStatement 302 = .ok (.iaload, 1) := by decide +kernel
theorem dX9_readsStatement_303 : decode cX9_readsStatement 303 = .ok (.invokevirtual 233, 3) := by decide +kernel
theorem dX9_readsStatement_306 : decode cX9_readsStatement 306 = .ok (.invokevirtual 213, 3) := by decide +kernel
theorem dX9_readsStatement_309 : decode cX9_readsStatement 309 = .ok (.ifCond .eq 7, 3) := by decide +kernel
theorem dX9_readsStatement_312 : decode cX9_readsStatement 312 = .ok (.iconst 1, 1) := by decide +kernel
theorem dX9_readsStatement_313 : decode cX9_readsStatement 313 = .ok (.goto 4, 3) := by decide +kernel
theorem dX9_readsStatement_316 : decode cX9_readsStatement 316 = .ok (.iconst 0, 1) := by decide +kernel
theorem dX9_readsStatement_317 : decode cX9_readsStatement 317 = .ok (.ireturn, 1) := by decide +kernel
theorem dX9_readsStatement_318 : decode cX9_readsStatement 318 = .ok (.aload_n 0, 1) := by decide +kernel
theorem dX9_readsStatement_319 : decode cX9_readsStatement 319 = .ok (.ldc 236, 2) := by decide +kernel
theorem dX9_readsStatement_321 : decode cX9_readsStatement 321 = .ok (.invokevirtual 172, 3) := by decide +kernel
theorem dX9_readsStatement_324 : decode cX9_readsStatement 324 = .ok (.ifCond .eq 45, 3) := by decide +kernel
theorem dX9_readsStatement_327 : decode cX9_readsStatement 327 = .ok (.aload_n 0, 1) := by decide +kernel
theorem dX9_readsStatement_328 : decode cX9_readsStatement 328 = .ok (.invokevirtual 164, 3) := by decide +kernel
theorem dX9_readsStatement_331 : decode cX9_readsStatement 331 = .ok (.aload_n 0, 1) := by decide +kernel
theorem dX9_readsStatement_332 : decode cX9_readsStatement 332 = .ok (.iconst 0, 1) := by decide +kernel
theorem dX9_readsStatement_333 : decode cX9_readsStatement 333 = .ok (.iconst 1, 1) := by decide +kernel
theorem dX9_readsStatement_334 : decode cX9_readsStatement 334 = .ok (.sipush 999, 3) := by decide +kernel
theorem dX9_readsStatement_337 : decode cX9_readsStatement 337 = .ok (.invokevirtual 167, 3) := by decide +kernel
theorem dX9_readsStatement_340 : decode cX9_readsStatement 340 = .ok (.ifCond .eq 27, 3) := by decide +kernel
theorem dX9_readsStatement_343 : decode cX9_readsStatement 343 = .ok (.aload_n 0, 1) := by decide +kernel
theorem dX9_readsStatement_344 : decode cX9_readsStatement 344 = .ok (.invokevirtual 207, 3) := by decide +kernel
theorem dX9_readsStatement_347 : decode cX9_readsStatement 347 = .ok (.ifCond .eq 20, 3) := by decide +kernel
theorem dX9_readsStatement_350 : decode cX9_readsStatement 350 = .ok (.aload_n 0, 1) := by decide +kernel
theorem dX9_readsStatement_351 : decode cX9_readsStatement 351 = .ok (.aload_n 0, 1) := by decide +kernel
theorem dX9_readsStatement_352 : decode cX9_readsStatement 352 = .ok (.getfield 35, 3) := by decide +kernel
theorem dX9_readsStatement_355 : decode cX9_readsStatement 355 = .ok (.iconst 0, 1) := by decide +kernel
theorem dX9_readsStatement_356 : decode cX9_readsStatement 356 = .ok (.iaload, 1) := by decide +kernel
theorem dX9_readsStatement_357 : decode cX9_readsStatement 357 = .ok (.invokevirtual 238, 3) := by decide +kernel
theorem dX9_readsStatement_360 : decode cX9_readsStatement 360 = .ok (.ifCond .lt 7, 3) := by decide +kernel
theorem dX9_readsStatement_363 : decode cX9_readsStatement 363 = .ok (.iconst 1, 1) := by decide +kernel
theorem dX9_readsStatement_364 : decode cX9_readsStatement 364 = .ok (.goto 4, 3) := by decide +kernel
theorem dX9_readsStatement_367 : decode cX9_readsStatement 367 = .ok (.iconst 0, 1) := by decide +kernel
theorem dX9_readsStatement_368 : decode cX9_readsStatement 368 = .ok (.ireturn, 1) := by decide +kernel
theorem dX9_readsStatement_369 : decode cX9_readsStatement 369 = .ok (.aload_n 0, 1) := by decide +kernel
theorem dX9_readsStatement_370 : decode cX9_readsStatement 370 = .ok (.iconst 1, 1) := by decide +kernel
theorem dX9_readsStatement_371 : decode cX9_readsStatement 371 = .ok (.invokevirtual 155, 3) := by decide +kernel
theorem dX9_readsStatement_374 : decode cX9_readsStatement 374 = .ok (.ireturn, 1) := by decide +kernel
theorem dX9_readsAll_0 : decode cX9_readsAll 0 = .ok (.iconst 1, 1) := by decide +kernel
theorem dX9_readsAll_1 : decode cX9_readsAll 1 = .ok (.istore_n 1, 1) := by decide +kernel
theorem dX9_readsAll_2 : decode cX9_readsAll 2 = .ok (.iload_n 1, 1) := by decide +kernel
theorem dX9_readsAll_3 : decode cX9_readsAll 3 = .ok (.ifCond .ne 10, 3) := by decide +kernel
theorem dX9_readsAll_6 : decode cX9_readsAll 6 = .ok (.aload_n 0, 1) := by decide +kernel
theorem dX9_readsAll_7 : decode cX9_readsAll 7 = .ok (.getfield 143, 3) := by decide +kernel
theorem dX9_readsAll_10 : decode cX9_readsAll 10 = .ok (.ifCond .eq 49, 3) := by decide +kernel
theorem dX9_readsAll_13 : decode cX9_readsAll 13 = .ok (.iload_n 1, 1) := by decide +kernel
theorem dX9_readsAll_14 : decode cX9_readsAll 14 = .ok (.ifCond .eq 13, 3) := by decide +kernel
theorem dX9_readsAll_17 : decode cX9_readsAll 17 = .ok (.aload_n 0, 1) := by decide +kernel
theorem dX9_readsAll_18 : decode cX9_readsAll 18 = .ok (.invokevirtual 241, 3) := by decide +kernel
theorem dX9_readsAll_21 : decode cX9_readsAll 21 = .ok (.ifCond .eq 13, 3) := by decide +kernel
theorem dX9_readsAll_24 : decode cX9_readsAll 24 = .ok (.goto 12, 3) := by decide +kernel
theorem dX9_readsAll_27 : decode cX9_readsAll 27 = .ok (.aload_n 0, 1) := by decide +kernel
theorem dX9_readsAll_28 : decode cX9_readsAll 28 = .ok (.invokevirtual 244, 3) := by decide +kernel
theorem dX9_readsAll_31 : decode cX9_readsAll 31 = .ok (.ifCond .ne 5, 3) := by decide +kernel
theorem dX9_readsAll_34 : decode cX9_readsAll 34 = .ok (.iconst 0, 1) := by decide +kernel
theorem dX9_readsAll_35 : decode cX9_readsAll 35 = .ok (.ireturn, 1) := by decide +kernel
theorem dX9_readsAll_36 : decode cX9_readsAll 36 = .ok (.aload_n 0, 1) := by decide +kernel
theorem dX9_readsAll_37 : decode cX9_readsAll 37 = .ok (.getfield 143, 3) := by decide +kernel
theorem dX9_readsAll_40 : decode cX9_readsAll 40 = .ok (.iconst 1, 1) := by decide +kernel
theorem dX9_readsAll_41 : decode cX9_readsAll 41 = .ok (.if_icmp .eq 9, 3) := by decide +kernel
theorem dX9_readsAll_44 : decode cX9_readsAll 44 = .ok (.aload_n 0, 1) := by decide +kernel
theorem dX9_readsAll_45 : decode cX9_readsAll 45 = .ok (.iconst 1, 1) := by decide +kernel
theorem dX9_readsAll_46 : decode cX9_readsAll 46 = .ok (.invokevirtual 155, 3) := by decide +kernel
theorem dX9_readsAll_49 : decode cX9_readsAll 49 = .ok (.ireturn, 1) := by decide +kernel
theorem dX9_readsAll_50 : decode cX9_readsAll 50 = .ok (.aload_n 0, 1) := by decide +kernel
theorem dX9_readsAll_51 : decode cX9_readsAll 51 = .ok (.invokevirtual 164, 3) := by decide +kernel
theorem dX9_readsAll_54 : decode cX9_readsAll 54 = .ok (.iconst 0, 1) := by decide +kernel
theorem dX9_readsAll_55 : decode cX9_readsAll 55 = .ok (.istore_n 1, 1) := by decide +kernel
theorem dX9_readsAll_56 : decode cX9_readsAll 56 = .ok (.goto (-54), 3) := by decide +kernel
theorem dX9_readsAll_59 : decode cX9_readsAll 59 = .ok (.iconst 1, 1) := by decide +kernel
theorem dX9_readsAll_60 : decode cX9_readsAll 60 = .ok (.ireturn, 1) := by decide +kernel
theorem dX9_parseAll_0 : decode cX9_parseAll 0 = .ok (.iconst 0, 1) := by decide +kernel
theorem dX9_parseAll_1 : decode cX9_parseAll 1 = .ok (.istore_n 1, 1) := by decide +kernel
theorem dX9_parseAll_2 : decode cX9_parseAll 2 = .ok (.iload_n 1, 1) := by decide +kernel
theorem dX9_parseAll_3 : decode cX9_parseAll 3 = .ok (.sipush 242, 3) := by decide +kernel
theorem dX9_parseAll_6 : decode cX9_parseAll 6 = .ok (.if_icmp .ge 28, 3) := by decide +kernel
theorem dX9_parseAll_9 : decode cX9_parseAll 9 = .ok (.aload_n 0, 1) := by decide +kernel
theorem dX9_parseAll_10 : decode cX9_parseAll 10 = .ok (.getfield 13, 3) := by decide +kernel
theorem dX9_parseAll_13 : decode cX9_parseAll 13 = .ok (.iload_n 1, 1) := by decide +kernel
theorem dX9_parseAll_14 : decode cX9_parseAll 14 = .ok (.aload_n 0, 1) := by decide +kernel
theorem dX9_parseAll_15 : decode cX9_parseAll 15 = .ok (.getfield 7, 3) := by decide +kernel
theorem dX9_parseAll_18 : decode cX9_parseAll 18 = .ok (.iload_n 1, 1) := by decide +kernel
theorem dX9_parseAll_19 : decode cX9_parseAll 19 = .ok (.iaload, 1) := by decide +kernel
theorem dX9_parseAll_20 : decode cX9_parseAll 20 = .ok (.iastore, 1) := by decide +kernel
theorem dX9_parseAll_21 : decode cX9_parseAll 21 = .ok (.aload_n 0, 1) := by decide +kernel
theorem dX9_parseAll_22 : decode cX9_parseAll 22 = .ok (.getfield 7, 3) := by decide +kernel
theorem dX9_parseAll_25 : decode cX9_parseAll 25 = .ok (.iload_n 1, 1) := by decide +kernel
theorem dX9_parseAll_26 : decode cX9_parseAll 26 = .ok (.iconst 0, 1) := by decide +kernel
theorem dX9_parseAll_27 : decode cX9_parseAll 27 = .ok (.iastore, 1) := by decide +kernel
theorem dX9_parseAll_28 : decode cX9_parseAll 28 = .ok (.iinc 1 1, 3) := by decide +kernel
theorem dX9_parseAll_31 : decode cX9_parseAll 31 = .ok (.goto (-29), 3) := by decide +kernel
theorem dX9_parseAll_34 : decode cX9_parseAll 34 = .ok (.aload_n 0, 1) := by decide +kernel
theorem dX9_parseAll_35 : decode cX9_parseAll 35 = .ok (.getfield 7, 3) := by decide +kernel
theorem dX9_parseAll_38 : decode cX9_parseAll 38 = .ok (.bipush 8, 2) := by decide +kernel
theorem dX9_parseAll_40 : decode cX9_parseAll 40 = .ok (.iconst 3, 1) := by decide +kernel
theorem dX9_parseAll_41 : decode cX9_parseAll 41 = .ok (.iastore, 1) := by decide +kernel
theorem dX9_parseAll_42 : decode cX9_parseAll 42 = .ok (.aload_n 0, 1) := by decide +kernel
theorem dX9_parseAll_43 : decode cX9_parseAll 43 = .ok (.getfield 7, 3) := by decide +kernel
theorem dX9_parseAll_46 : decode cX9_parseAll 46 = .ok (.bipush 9, 2) := by decide +kernel
theorem dX9_parseAll_48 : decode cX9_parseAll 48 = .ok (.iconst 4, 1) := by decide +kernel
theorem dX9_parseAll_49 : decode cX9_parseAll 49 = .ok (.iastore, 1) := by decide +kernel
theorem dX9_parseAll_50 : decode cX9_parseAll 50 = .ok (.aload_n 0, 1) := by decide +kernel
theorem dX9_parseAll_51 : decode cX9_parseAll 51 = .ok (.getfield 7, 3) := by decide +kernel
theorem dX9_parseAll_54 : decode cX9_parseAll 54 = .ok (.bipush 10, 2) := by decide +kernel
theorem dX9_parseAll_56 : decode cX9_parseAll 56 = .ok (.iconst 1, 1) := by decide +kernel
theorem dX9_parseAll_57 : decode cX9_parseAll 57 = .ok (.iastore, 1) := by decide +kernel
theorem dX9_parseAll_58 : decode cX9_parseAll 58 = .ok (.aload_n 0, 1) := by decide +kernel
theorem dX9_parseAll_59 : decode cX9_parseAll 59 = .ok (.getfield 7, 3) := by decide +kernel
theorem dX9_parseAll_62 : decode cX9_parseAll 62 = .ok (.bipush 11, 2) := by decide +kernel
theorem dX9_parseAll_64 : decode cX9_parseAll 64 = .ok (.iconst 5, 1) := by decide +kernel
theorem dX9_parseAll_65 : decode cX9_parseAll 65 = .ok (.iastore, 1) := by decide +kernel
theorem dX9_parseAll_66 : decode cX9_parseAll 66 = .ok (.aload_n 0, 1) := by decide +kernel
theorem dX9_parseAll_67 : decode cX9_parseAll 67 = .ok (.getfield 7, 3) := by decide +kernel
theorem dX9_parseAll_70 : decode cX9_parseAll 70 = .ok (.bipush 12, 2) := by decide +kernel
theorem dX9_parseAll_72 : decode cX9_parseAll 72 = .ok (.iconst 3, 1) := by decide +kernel
theorem dX9_parseAll_73 : decode cX9_parseAll 73 = .ok (.iastore, 1) := by decide +kernel
theorem dX9_parseAll_74 : decode cX9_parseAll 74 = .ok (.aload_n 0, 1) := by decide +kernel
theorem dX9_parseAll_75 : decode cX9_parseAll 75 = .ok (.iconst 0, 1) := by decide +kernel
theorem dX9_parseAll_76 : decode cX9_parseAll 76 = .ok (.putfield 152, 3) := by decide +kernel
theorem dX9_parseAll_79 : decode cX9_parseAll 79 = .ok (.aload_n 0, 1) := by decide +kernel
theorem dX9_parseAll_80 : decode cX9_parseAll 80 = .ok (.iconst 0, 1) := by decide +kernel
theorem dX9_parseAll_81 : decode cX9_parseAll 81 = .ok (.putfield 137, 3) := by decide +kernel
theorem dX9_parseAll_84 : decode cX9_parseAll 84 = .ok (.aload_n 0, 1) := by decide +kernel
theorem dX9_parseAll_85 : decode cX9_parseAll 85 = .ok (.invokevirtual 164, 3) := by decide +kernel
theorem dX9_parseAll_88 : decode cX9_parseAll 88 = .ok (.aload_n 0, 1) := by decide +kernel
theorem dX9_parseAll_89 : decode cX9_parseAll 89 = .ok (.invokevirtual 247, 3) := by decide +kernel
theorem dX9_parseAll_92 : decode cX9_parseAll 92 = .ok (.ifCond .ne 32, 3) := by decide +kernel
theorem dX9_parseAll_95 : decode cX9_parseAll 95 = .ok (.iconst 0, 1) := by decide +kernel
theorem dX9_parseAll_96 : decode cX9_parseAll 96 = .ok (.istore_n 1, 1) := by decide +kernel
theorem dX9_parseAll_97 : decode cX9_parseAll 97 = .ok (.iload_n 1, 1) := by decide +kernel
theorem dX9_parseAll_98 : decode cX9_parseAll 98 = .ok (.sipush 242, 3) := by decide +kernel
theorem dX9_parseAll_101 : decode cX9_parseAll 101 = .ok (.if_icmp .ge 21, 3) := by decide +kernel
theorem dX9_parseAll_104 : decode cX9_parseAll 104 = .ok (.aload_n 0, 1) := by decide +kernel
theorem dX9_parseAll_105 : decode cX9_parseAll 105 = .ok (.getfield 7, 3) := by decide +kernel
theorem dX9_parseAll_108 : decode cX9_parseAll 108 = .ok (.iload_n 1, 1) := by decide +kernel
theorem dX9_parseAll_109 : decode cX9_parseAll 109 = .ok (.aload_n 0, 1) := by decide +kernel
theorem dX9_parseAll_110 : decode cX9_parseAll 110 = .ok (.getfield 13, 3) := by decide +kernel
theorem dX9_parseAll_113 : decode cX9_parseAll 113 = .ok (.iload_n 1, 1) := by decide +kernel
theorem dX9_parseAll_114 : decode cX9_parseAll 114 = .ok (.iaload, 1) := by decide +kernel
theorem dX9_parseAll_115 : decode cX9_parseAll 115 = .ok (.iastore, 1) := by decide +kernel
theorem dX9_parseAll_116 : decode cX9_parseAll 116 = .ok (.iinc 1 1, 3) := by decide +kernel
theorem dX9_parseAll_119 : decode cX9_parseAll 119 = .ok (.goto (-22), 3) := by decide +kernel
theorem dX9_parseAll_122 : decode cX9_parseAll 122 = .ok (.iconst 0, 1) := by decide +kernel
theorem dX9_parseAll_123 : decode cX9_parseAll 123 = .ok (.ireturn, 1) := by decide +kernel
theorem dX9_parseAll_124 : decode cX9_parseAll 124 = .ok (.aload_n 0, 1) := by decide +kernel
theorem dX9_parseAll_125 : decode cX9_parseAll 125 = .ok (.iconst 0, 1) := by decide +kernel
theorem dX9_parseAll_126 : decode cX9_parseAll 126 = .ok (.putfield 250, 3) := by decide +kernel
theorem dX9_parseAll_129 : decode cX9_parseAll 129 = .ok (.aload_n 0, 1) := by decide +kernel
theorem dX9_parseAll_130 : decode cX9_parseAll 130 = .ok (.iconst 0, 1) := by decide +kernel
theorem dX9_parseAll_131 : decode cX9_parseAll 131 = .ok (.putfield 253, 3) := by decide +kernel
theorem dX9_parseAll_134 : decode cX9_parseAll 134 = .ok (.iconst 1, 1) := by decide +kernel
theorem dX9_parseAll_135 : decode cX9_parseAll 135 = .ok (.ireturn, 1) := by decide +kernel
theorem dX9_append_0 : decode cX9_append 0 = .ok (.aload_n 0, 1) := by decide +kernel
theorem dX9_append_1 : decode cX9_append 1 = .ok (.iconst 0, 1) := by decide +kernel
theorem dX9_append_2 : decode cX9_append 2 = .ok (.putfield 42, 3) := by decide +kernel
theorem dX9_append_5 : decode cX9_append 5 = .ok (.aload_n 0, 1) := by decide +kernel
theorem dX9_append_6 : decode cX9_append 6 = .ok (.getfield 256, 3) := by decide +kernel
theorem dX9_append_9 : decode cX9_append 9 = .ok (.bipush 20, 2) := by decide +kernel
theorem dX9_append_11 : decode cX9_append 11 = .ok (.iadd, 1) := by decide +kernel
theorem dX9_append_12 : decode cX9_append 12 = .ok (.sipush 700, 3) := by decide +kernel
theorem dX9_append_15 : decode cX9_append 15 = .ok (.if_icmp .le 5, 3) := by decide +kernel
theorem dX9_append_18 : decode cX9_append 18 = .ok (.iconst (-1), 1) := by decide +kernel
theorem dX9_append_19 : decode cX9_append 19 = .ok (.ireturn, 1) := by decide +kernel
theorem dX9_append_20 : decode cX9_append 20 = .ok (.aload_n 0, 1) := by decide +kernel
theorem dX9_append_21 : decode cX9_append 21 = .ok (.iload_n 1, 1) := by decide +kernel
theorem dX9_append_22 : decode cX9_append 22 = .ok (.invokevirtual 259, 3) := by decide +kernel
theorem dX9_append_25 : decode cX9_append 25 = .ok (.aload_n 0, 1) := by decide +kernel
theorem dX9_append_26 : decode cX9_append 26 = .ok (.iload_n 2, 1) := by decide +kernel
theorem dX9_append_27 : decode cX9_append 27 = .ok (.invokevirtual 259, 3) := by decide +kernel
theorem dX9_append_30 : decode cX9_append 30 = .ok (.aload_n 0, 1) := by decide +kernel
theorem dX9_append_31 : decode cX9_append 31 = .ok (.iload_n 3, 1) := by decide +kernel
theorem dX9_append_32 : decode cX9_append 32 = .ok (.invokevirtual 259, 3) := by decide +kernel
theorem dX9_append_35 : decode cX9_append 35 = .ok (.aload_n 0, 1) := by decide +kernel
theorem dX9_append_36 : decode cX9_append 36 = .ok (.iload 4, 2) := by decide +kernel
theorem dX9_append_38 : decode cX9_append 38 = .ok (.invokevirtual 259, 3) := by decide +kernel
theorem dX9_append_41 : decode cX9_append 41 = .ok (.aload_n 0, 1) := by decide +kernel
theorem dX9_append_42 : decode cX9_append 42 = .ok (.iload 5, 2) := by decide +kernel
theorem dX9_append_44 : decode cX9_append 44 = .ok (.invokevirtual 259, 3) := by decide +kernel
theorem dX9_append_47 : decode cX9_append 47 = .ok (.aload_n 0, 1) := by decide +kernel
theorem dX9_append_48 : decode cX9_append 48 = .ok (.getfield 256, 3) := by decide +kernel
theorem dX9_append_51 : decode cX9_append 51 = .ok (.ireturn, 1) := by decide +kernel
theorem dX9_type_0 : decode cX9_type 0 = .ok (.bipush 24, 2) := by decide +kernel
theorem dX9_type_2 : decode cX9_type 2 = .ok (.istore_n 2, 1) := by decide +kernel
theorem dX9_type_3 : decode cX9_type 3 = .ok (.iload_n 2, 1) := by decide +kernel
theorem dX9_type_4 : decode cX9_type 4 = .ok (.ifCond .lt 35, 3) := by decide +kernel
theorem dX9_type_7 : decode cX9_type 7 = .ok (.aload_n 0, 1) := by decide +kernel
theorem dX9_type_8 : decode cX9_type 8 = .ok (.getfield 25, 3) := by decide +kernel
theorem dX9_type_11 : decode cX9_type 11 = .ok (.aload_n 0, 1) := by decide +kernel
theorem dX9_type_12 : decode cX9_type 12 = .ok (.getfield 256, 3) := by decide +kernel
theorem dX9_type_15 : decode cX9_type 15 = .ok (.iload_n 1, 1) := by decide +kernel
theorem dX9_type_16 : decode cX9_type 16 = .ok (.iload_n 2, 1) := by decide +kernel
theorem dX9_type_17 : decode cX9_type 17 = .ok (.ishr, 1) := by decide +kernel
theorem dX9_type_18 : decode cX9_type 18 = .ok (.sipush 255, 3) := by decide +kernel
theorem dX9_type_21 : decode cX9_type 21 = .ok (.iand, 1) := by decide +kernel
theorem dX9_type_22 : decode cX9_type 22 = .ok (.iastore, 1) := by decide +kernel
theorem dX9_type_23 : decode cX9_type 23 = .ok (.aload_n 0, 1) := by decide +kernel
theorem dX9_type_24 : decode cX9_type 24 = .ok (.dup, 1) := by decide +kernel
theorem dX9_type_25 : decode cX9_type 25 = .ok (.getfield 256, 3) := by decide +kernel
theorem dX9_type_28 : decode cX9_type 28 = .ok (.iconst 1, 1) := by decide +kernel
theorem dX9_type_29 : decode cX9_type 29 = .ok (.iadd, 1) := by decide +kernel
theorem dX9_type_30 : decode cX9_type 30 = .ok (.putfield 256, 3) := by decide +kernel
theorem dX9_type_33 : decode cX9_type 33 = .ok (.iinc 2 (-8), 3) := by decide +kernel
theorem dX9_type_36 : decode cX9_type 36 = .ok (.goto (-33), 3) := by decide +kernel
theorem dX9_type_39 : decode cX9_type 39 = .ok (.return_, 1) := by decide +kernel
theorem dX9_parse_0 : decode cX9_parse 0 = .ok (.aload_n 0, 1) := by decide +kernel
theorem dX9_parse_1 : decode cX9_parse 1 = .ok (.iload_n 1, 1) := by decide +kernel
theorem dX9_parse_2 : decode cX9_parse 2 = .ok (.iconst 0, 1) := by decide +kernel
theorem dX9_parse_3 : decode cX9_parse 3 = .ok (.aload_n 0, 1) := by decide +kernel
theorem dX9_parse_4 : decode cX9_parse 4 = .ok (.getfield 256, 3) := by decide +kernel
theorem dX9_parse_7 : decode cX9_parse 7 = .ok (.invokestatic 46, 3) := by decide +kernel
theorem dX9_parse_10 : decode cX9_parse 10 = .ok (.ifCond .ne 7, 3) := by decide +kernel
theorem dX9_parse_13 : decode cX9_parse 13 = .ok (.iconst 1, 1) := by decide +kernel
theorem dX9_parse_14 : decode cX9_parse 14 = .ok (.goto 4, 3) := by decide +kernel
theorem dX9_parse_17 : decode cX9_parse 17 = .ok (.iconst 0, 1) := by decide +kernel
theorem dX9_parse_18 : decode cX9_parse 18 = .ok (.invokevirtual 262, 3) := by decide +kernel
theorem dX9_parse_21 : decode cX9_parse 21 = .ok (.ifCond .eq 5, 3) := by decide +kernel
theorem dX9_parse_24 : decode cX9_parse 24 = .ok (.iconst 0, 1) := by decide +kernel
theorem dX9_parse_25 : decode cX9_parse 25 = .ok (.ireturn, 1) := by decide +kernel
theorem dX9_parse_26 : decode cX9_parse 26 = .ok (.iconst 0, 1) := by decide +kernel
theorem dX9_parse_27 : decode cX9_parse 27 = .ok (.istore_n 2, 1) := by decide +kernel
theorem dX9_parse_28 : decode cX9_parse 28 = .ok (.iload_n 2, 1) := by decide +kernel
theorem dX9_parse_29 : decode cX9_parse 29 = .ok (.iload_n 1, 1) := by decide +kernel
theorem dX9_parse_30 : decode cX9_parse 30 = .ok (.if_icmp .ge 21, 3) := by decide +kernel
theorem dX9_parse_33 : decode cX9_parse 33 = .ok (.aload_n 0, 1) := by decide +kernel
theorem dX9_parse_34 : decode cX9_parse 34 = .ok (.getfield 28, 3) := by decide +kernel
theorem dX9_parse_37 : decode cX9_parse 37 = .ok (.iload_n 2, 1) := by decide +kernel
theorem dX9_parse_38 : decode cX9_parse 38 = .ok (.aload_n 0, 1) := by decide +kernel
theorem dX9_parse_39 : decode cX9_parse 39 = .ok (.getfield 25, 3) := by decide +kernel
theorem dX9_parse_42 : decode cX9_parse 42 = .ok (.iload_n 2, 1) := by decide +kernel
theorem dX9_parse_43 : decode cX9_parse 43 = .ok (.iaload, 1) := by decide +kernel
theorem dX9_parse_44 : decode cX9_parse 44 = .ok (.iastore, 1) := by decide +kernel
theorem dX9_parse_45 : decode cX9_parse 45 = .ok (.iinc 2 1, 3) := by decide +kernel
theorem dX9_parse_48 : decode cX9_parse 48 = .ok (.goto (-20), 3) := by decide +kernel
theorem dX9_parse_51 : decode cX9_parse 51 = .ok (.aload_n 0, 1) := by decide +kernel
theorem dX9_parse_52 : decode cX9_parse 52 = .ok (.iload_n 1, 1) := by decide +kernel
theorem dX9_parse_53 : decode cX9_parse 53 = .ok (.putfield 114, 3) := by decide +kernel
theorem dX9_parse_56 : decode cX9_parse 56 = .ok (.aload_n 0, 1) := by decide +kernel
theorem dX9_parse_57 : decode cX9_parse 57 = .ok (.iconst 0, 1) := by decide +kernel
theorem dX9_parse_58 : decode cX9_parse 58 = .ok (.putfield 256, 3) := by decide +kernel
theorem dX9_parse_61 : decode cX9_parse 61 = .ok (.aload_n 0, 1) := by decide +kernel
theorem dX9_parse_62 : decode cX9_parse 62 = .ok (.invokevirtual 133, 3) := by decide +kernel
theorem dX9_parse_65 : decode cX9_parse 65 = .ok (.ifCond .eq 12, 3) := by decide +kernel
theorem dX9_parse_68 : decode cX9_parse 68 = .ok (.aload_n 0, 1) := by decide +kernel
theorem dX9_parse_69 : decode cX9_parse 69 = .ok (.getfield 7, 3) := by decide +kernel
theorem dX9_parse_72 : decode cX9_parse 72 = .ok (.iconst 0, 1) := by decide +kernel
theorem dX9_parse_73 : decode cX9_parse 73 = .ok (.iaload, 1) := by decide +kernel
theorem dX9_parse_74 : decode cX9_parse 74 = .ok (.goto 10, 3) := by decide +kernel
theorem dX9_parse_77 : decode cX9_parse 77 = .ok (.bipush (-2), 2) := by decide +kernel
theorem dX9_parse_79 : decode cX9_parse 79 = .ok (.aload_n 0, 1) := by decide +kernel
theorem dX9_parse_80 : decode cX9_parse 80 = .ok (.getfield 152, 3) := by decide +kernel
theorem dX9_parse_83 : decode cX9_parse 83 = .ok (.isub, 1) := by decide +kernel
theorem dX9_parse_84 : decode cX9_parse 84 = .ok (.ireturn, 1) := by decide +kernel
theorem dX9_load_0 : decode cX9_load 0 = .ok (.aload_n 0, 1) := by decide +kernel
theorem dX9_load_1 : decode cX9_load 1 = .ok (.iload_n 1, 1) := by decide +kernel
theorem dX9_load_2 : decode cX9_load 2 = .ok (.iconst 0, 1) := by decide +kernel
theorem dX9_load_3 : decode cX9_load 3 = .ok (.iconst 2, 1) := by decide +kernel
theorem dX9_load_4 : decode cX9_load 4 = .ok (.invokestatic 46, 3) := by decide +kernel
theorem dX9_load_7 : decode cX9_load 7 = .ok (.ifCond .ne 7, 3) := by decide +kernel
theorem dX9_load_10 : decode cX9_load 10 = .ok (.iconst 1, 1) := by decide +kernel
theorem dX9_load_11 : decode cX9_load 11 = .ok (.goto 4, 3) := by decide +kernel
theorem dX9_load_14 : decode cX9_load 14 = .ok (.iconst 0, 1) := by decide +kernel
theorem dX9_load_15 : decode cX9_load 15 = .ok (.invokevirtual 262, 3) := by decide +kernel
theorem dX9_load_18 : decode cX9_load 18 = .ok (.ifCond .eq 5, 3) := by decide +kernel
theorem dX9_load_21 : decode cX9_load 21 = .ok (.iconst 0, 1) := by decide +kernel
theorem dX9_load_22 : decode cX9_load 22 = .ok (.ireturn, 1) := by decide +kernel
theorem dX9_load_23 : decode cX9_load 23 = .ok (.aload_n 0, 1) := by decide +kernel
theorem dX9_load_24 : decode cX9_load 24 = .ok (.iload_n 1, 1) := by decide +kernel
theorem dX9_load_25 : decode cX9_load 25 = .ok (.invokevirtual 38, 3) := by decide +kernel
theorem dX9_load_28 : decode cX9_load 28 = .ok (.aload_n 0, 1) := by decide +kernel
theorem dX9_load_29 : decode cX9_load 29 = .ok (.getfield 7, 3) := by decide +kernel
theorem dX9_load_32 : decode cX9_load 32 = .ok (.iconst 0, 1) := by decide +kernel
theorem dX9_load_33 : decode cX9_load 33 = .ok (.iaload, 1) := by decide +kernel
theorem dX9_load_34 : decode cX9_load 34 = .ok (.ireturn, 1) := by decide +kernel
theorem dX9_sizeOf_0 : decode cX9_sizeOf 0 = .ok (.iload_n 1, 1) := by decide +kernel
theorem dX9_sizeOf_1 : decode cX9_sizeOf 1 = .ok (.tableswitch 181 0 12 #[67, 74, 81, 88, 108, 115, 136, 144, 152, 158, 166, 171, 176], 67) := by decide +kernel
theorem dX9_sizeOf_68 : decode cX9_sizeOf 68 = .ok (.aload_n 0, 1) := by decide +kernel
theorem dX9_sizeOf_69 : decode cX9_sizeOf 69 = .ok (.getfield 7, 3) := by decide +kernel
theorem dX9_sizeOf_72 : decode cX9_sizeOf 72 = .ok (.iconst 0, 1) := by decide +kernel
theorem dX9_sizeOf_73 : decode cX9_sizeOf 73 = .ok (.iaload, 1) := by decide +kernel
theorem dX9_sizeOf_74 : decode cX9_sizeOf 74 = .ok (.ireturn, 1) := by decide +kernel
theorem dX9_sizeOf_75 : decode cX9_sizeOf 75 = .ok (.aload_n 0, 1) := by decide +kernel
theorem dX9_sizeOf_76 : decode cX9_sizeOf 76 = .ok (.getfield 7, 3) := by decide +kernel
theorem dX9_sizeOf_79 : decode cX9_sizeOf 79 = .ok (.iconst 1, 1) := by decide +kernel
theorem dX9_sizeOf_80 : decode cX9_sizeOf 80 = .ok (.iaload, 1) := by decide +kernel
theorem dX9_sizeOf_81 : decode cX9_sizeOf 81 = .ok (.ireturn, 1) := by decide +kernel
theorem dX9_sizeOf_82 : decode cX9_sizeOf 82 = .ok (.aload_n 0, 1) := by decide +kernel
theorem dX9_sizeOf_83 : decode cX9_sizeOf 83 = .ok (.getfield 7, 3) := by decide +kernel
theorem dX9_sizeOf_86 : decode cX9_sizeOf 86 = .ok (.iconst 2, 1) := by decide +kernel
theorem dX9_sizeOf_87 : decode cX9_sizeOf 87 = .ok (.iaload, 1) := by decide +kernel
theorem dX9_sizeOf_88 : decode cX9_sizeOf 88 = .ok (.ireturn, 1) := by decide +kernel
theorem dX9_sizeOf_89 : decode cX9_sizeOf 89 = .ok (.aload_n 0, 1) := by decide +kernel
theorem dX9_sizeOf_90 : decode cX9_sizeOf 90 = .ok (.getfield 7, 3) := by decide +kernel
theorem dX9_sizeOf_93 : decode cX9_sizeOf 93 = .ok (.iconst 2, 1) := by decide +kernel
theorem dX9_sizeOf_94 : decode cX9_sizeOf 94 = .ok (.iaload, 1) := by decide +kernel
theorem dX9_sizeOf_95 : decode cX9_sizeOf 95 = .ok (.ifCond .ne 7, 3) := by decide +kernel
theorem dX9_sizeOf_98 : decode cX9_sizeOf 98 = .ok (.iconst (-1), 1) := by decide +kernel
theorem dX9_sizeOf_99 : decode cX9_sizeOf 99 = .ok (.goto 9, 3) := by decide +kernel
theorem dX9_sizeOf_102 : decode cX9_sizeOf 102 = .ok (.aload_n 0, 1) := by decide +kernel
theorem dX9_sizeOf_103 : decode cX9_sizeOf 103 = .ok (.getfield 7, 3) := by decide +kernel
theorem dX9_sizeOf_106 : decode cX9_sizeOf 106 = .ok (.iconst 3, 1) := by decide +kernel
theorem dX9_sizeOf_107 : decode cX9_sizeOf 107 = .ok (.iaload, 1) := by decide +kernel
theorem dX9_sizeOf_108 : decode cX9_sizeOf 108 = .ok (.ireturn, 1) := by decide +kernel
theorem dX9_sizeOf_109 : decode cX9_sizeOf 109 = .ok (.aload_n 0, 1) := by decide +kernel
theorem dX9_sizeOf_110 : decode cX9_sizeOf 110 = .ok (.getfield 7, 3) := by decide +kernel
theorem dX9_sizeOf_113 : decode cX9_sizeOf 113 = .ok (.iconst 4, 1) := by decide +kernel
theorem dX9_sizeOf_114 : decode cX9_sizeOf 114 = .ok (.iaload, 1) := by decide +kernel
theorem dX9_sizeOf_115 : decode cX9_sizeOf 115 = .ok (.ireturn, 1) := by decide +kernel
theorem dX9_sizeOf_116 : decode cX9_sizeOf 116 = .ok (.aload_n 0, 1) := by decide +kernel
theorem dX9_sizeOf_117 : decode cX9_sizeOf 117 = .ok (.getfield 7, 3) := by decide +kernel
theorem dX9_sizeOf_120 : decode cX9_sizeOf 120 = .ok (.iconst 2, 1) := by decide +kernel
theorem dX9_sizeOf_121 : decode cX9_sizeOf 121 = .ok (.iaload, 1) := by decide +kernel
theorem dX9_sizeOf_122 : decode cX9_sizeOf 122 = .ok (.iconst 2, 1) := by decide +kernel
theorem dX9_sizeOf_123 : decode cX9_sizeOf 123 = .ok (.if_icmp .ne 12, 3) := by decide +kernel
theorem dX9_sizeOf_126 : decode cX9_sizeOf 126 = .ok (.aload_n 0, 1) := by decide +kernel
theorem dX9_sizeOf_127 : decode cX9_sizeOf 127 = .ok (.getfield 7, 3) := by decide +kernel
theorem dX9_sizeOf_130 : decode cX9_sizeOf 130 = .ok (.iconst 5, 1) := by decide +kernel
theorem dX9_sizeOf_131 : decode cX9_sizeOf 131 = .ok (.iaload, 1) := by decide +kernel
theorem dX9_sizeOf_132 : decode cX9_sizeOf 132 = .ok (.goto 4, 3) := by decide +kernel
theorem dX9_sizeOf_135 : decode cX9_sizeOf 135 = .ok (.iconst 0, 1) := by decide +kernel
theorem dX9_sizeOf_136 : decode cX9_sizeOf 136 = .ok (.ireturn, 1) := by decide +kernel
theorem dX9_sizeOf_137 : decode cX9_sizeOf 137 = .ok (.aload_n 0, 1) := by decide +kernel
theorem dX9_sizeOf_138 : decode cX9_sizeOf 138 = .ok (.getfield 7, 3) := by decide +kernel
theorem dX9_sizeOf_141 : decode cX9_sizeOf 141 = .ok (.bipush 6, 2) := by decide +kernel
theorem dX9_sizeOf_143 : decode cX9_sizeOf 143 = .ok (.iaload, 1) := by decide +kernel
theorem dX9_sizeOf_144 : decode cX9_sizeOf 144 = .ok (.ireturn, 1) := by decide +kernel
theorem dX9_sizeOf_145 : decode cX9_sizeOf 145 = .ok (.aload_n 0, 1) := by decide +kernel
theorem dX9_sizeOf_146 : decode cX9_sizeOf 146 = .ok (.getfield 7, 3) := by decide +kernel
theorem dX9_sizeOf_149 : decode cX9_sizeOf 149 = .ok (.bipush 30, 2) := by decide +kernel
theorem dX9_sizeOf_151 : decode cX9_sizeOf 151 = .ok (.iaload, 1) := by decide +kernel
theorem dX9_sizeOf_152 : decode cX9_sizeOf 152 = .ok (.ireturn, 1) := by decide +kernel
theorem dX9_sizeOf_153 : decode cX9_sizeOf 153 = .ok (.aload_n 0, 1) := by decide +kernel
theorem dX9_sizeOf_154 : decode cX9_sizeOf 154 = .ok (.iconst 1, 1) := by decide +kernel
theorem dX9_sizeOf_155 : decode cX9_sizeOf 155 = .ok (.invokevirtual 266, 3) := by decide +kernel
theorem dX9_sizeOf_158 : decode cX9_sizeOf 158 = .ok (.ireturn, 1) := by decide +kernel
theorem dX9_sizeOf_159 : decode cX9_sizeOf 159 = .ok (.aload_n 0, 1) := by decide +kernel
theorem dX9_sizeOf_160 : decode cX9_sizeOf 160 = .ok (.getfield 7, 3) := by decide +kernel
theorem dX9_sizeOf_163 : decode cX9_sizeOf 163 = .ok (.bipush 13, 2) := by decide +kernel
theorem dX9_sizeOf_165 : decode cX9_sizeOf 165 = .ok (.iaload, 1) := by decide +kernel
theorem dX9_sizeOf_166 : decode cX9_sizeOf 166 = .ok (.ireturn, 1) := by decide +kernel
theorem dX9_sizeOf_167 : decode cX9_sizeOf 167 = .ok (.aload_n 0, 1) := by decide +kernel
theorem dX9_sizeOf_168 : decode cX9_sizeOf 168 = .ok (.invokevirtual 269, 3) := by decide +kernel
theorem dX9_sizeOf_171 : decode cX9_sizeOf 171 = .ok (.ireturn, 1) := by decide +kernel
theorem dX9_sizeOf_172 : decode cX9_sizeOf 172 = .ok (.aload_n 0, 1) := by decide +kernel
theorem dX9_sizeOf_173 : decode cX9_sizeOf 173 = .ok (.getfield 250, 3) := by decide +kernel
theorem dX9_sizeOf_176 : decode cX9_sizeOf 176 = .ok (.ireturn, 1) := by decide +kernel
theorem dX9_sizeOf_177 : decode cX9_sizeOf 177 = .ok (.aload_n 0, 1) := by decide +kernel
theorem dX9_sizeOf_178 : decode cX9_sizeOf 178 = .ok (.getfield 256, 3) := by decide +kernel
theorem dX9_sizeOf_181 : decode cX9_sizeOf 181 = .ok (.ireturn, 1) := by decide +kernel
theorem dX9_sizeOf_182 : decode cX9_sizeOf 182 = .ok (.aload_n 0, 1) := by decide +kernel
theorem dX9_sizeOf_183 : decode cX9_sizeOf 183 = .ok (.getfield 272, 3) := by decide +kernel
theorem dX9_sizeOf_186 : decode cX9_sizeOf 186 = .ok (.ireturn, 1) := by decide +kernel
theorem dX9_size_0 : decode cX9_size 0 = .ok (.aload_n 0, 1) := by decide +kernel
theorem dX9_size_1 : decode cX9_size 1 = .ok (.iload_n 1, 1) := by decide +kernel
theorem dX9_size_2 : decode cX9_size 2 = .ok (.iconst 0, 1) := by decide +kernel
theorem dX9_size_3 : decode cX9_size 3 = .ok (.bipush 13, 2) := by decide +kernel
theorem dX9_size_5 : decode cX9_size 5 = .ok (.invokestatic 46, 3) := by decide +kernel
theorem dX9_size_8 : decode cX9_size 8 = .ok (.ifCond .ne 7, 3) := by decide +kernel
theorem dX9_size_11 : decode cX9_size 11 = .ok (.iconst 1, 1) := by decide +kernel
theorem dX9_size_12 : decode cX9_size 12 = .ok (.goto 4, 3) := by decide +kernel
theorem dX9_size_15 : decode cX9_size 15 = .ok (.iconst 0, 1) := by decide +kernel
theorem dX9_size_16 : decode cX9_size 16 = .ok (.invokevirtual 262, 3) := by decide +kernel
theorem dX9_size_19 : decode cX9_size 19 = .ok (.ifCond .eq 7, 3) := by decide +kernel
theorem dX9_size_22 : decode cX9_size 22 = .ok (.iconst 0, 1) := by decide +kernel
theorem dX9_size_23 : decode cX9_size 23 = .ok (.goto 8, 3) := by decide +kernel
theorem dX9_size_26 : decode cX9_size 26 = .ok (.aload_n 0, 1) := by decide +kernel
theorem dX9_size_27 : decode cX9_size 27 = .ok (.iload_n 1, 1) := by decide +kernel
theorem dX9_size_28 : decode cX9_size 28 = .ok (.invokevirtual 275, 3) := by decide +kernel
theorem dX9_size_31 : decode cX9_size 31 = .ok (.ireturn, 1) := by decide +kernel
theorem dX9_setting_0 : decode cX9_setting 0 = .ok (.aload_n 0, 1) := by decide +kernel
theorem dX9_setting_1 : decode cX9_setting 1 = .ok (.iload_n 1, 1) := by decide +kernel
theorem dX9_setting_2 : decode cX9_setting 2 = .ok (.iconst 0, 1) := by decide +kernel
theorem dX9_setting_3 : decode cX9_setting 3 = .ok (.iconst 5, 1) := by decide +kernel
theorem dX9_setting_4 : decode cX9_setting 4 = .ok (.invokestatic 46, 3) := by decide +kernel
theorem dX9_setting_7 : decode cX9_setting 7 = .ok (.ifCond .ne 7, 3) := by decide +kernel
theorem dX9_setting_10 : decode cX9_setting 10 = .ok (.iconst 1, 1) := by decide +kernel
theorem dX9_setting_11 : decode cX9_setting 11 = .ok (.goto 4, 3) := by decide +kernel
theorem dX9_setting_14 : decode cX9_setting 14 = .ok (.iconst 0, 1) := by decide +kernel
theorem dX9_setting_15 : decode cX9_setting 15 = .ok (.invokevirtual 262, 3) := by decide +kernel
theorem dX9_setting_18 : decode cX9_setting 18 = .ok (.ifCond .eq 7, 3) := by decide +kernel
theorem dX9_setting_21 : decode cX9_setting 21 = .ok (.iconst 0, 1) := by decide +kernel
theorem dX9_setting_22 : decode cX9_setting 22 = .ok (.goto 12, 3) := by decide +kernel
theorem dX9_setting_25 : decode cX9_setting 25 = .ok (.aload_n 0, 1) := by decide +kernel
theorem dX9_setting_26 : decode cX9_setting 26 = .ok (.getfield 7, 3) := by decide +kernel
theorem dX9_setting_29 : decode cX9_setting 29 = .ok (.bipush 7, 2) := by decide +kernel
theorem dX9_setting_31 : decode cX9_setting 31 = .ok (.iload_n 1, 1) := by decide +kernel
theorem dX9_setting_32 : decode cX9_setting 32 = .ok (.iadd, 1) := by decide +kernel
theorem dX9_setting_33 : decode cX9_setting 33 = .ok (.iaload, 1) := by decide +kernel
theorem dX9_setting_34 : decode cX9_setting 34 = .ok (.ireturn, 1) := by decide +kernel
theorem dX9_flatTold_0 : decode cX9_flatTold 0 = .ok (.iload_n 2, 1) := by decide +kernel
theorem dX9_flatTold_1 : decode cX9_flatTold 1 = .ok (.tableswitch 82 5 10 #[39, 45, 52, 60, 68, 74], 39) := by decide +kernel
theorem dX9_flatTold_40 : decode cX9_flatTold 40 = .ok (.aload_n 0, 1) := by decide +kernel
theorem dX9_flatTold_41 : decode cX9_flatTold 41 = .ok (.iload_n 1, 1) := by decide +kernel
theorem dX9_flatTold_42 : decode cX9_flatTold 42 = .ok (.invokevirtual 54, 3) := by decide +kernel
theorem dX9_flatTold_45 : decode cX9_flatTold 45 = .ok (.ireturn, 1) := by decide +kernel
theorem dX9_flatTold_46 : decode cX9_flatTold 46 = .ok (.aload_n 0, 1) := by decide +kernel
theorem dX9_flatTold_47 : decode cX9_flatTold 47 = .ok (.iload_n 1, 1) := by decide +kernel
theorem dX9_flatTold_48 : decode cX9_flatTold 48 = .ok (.iconst 5, 1) := by decide +kernel
theorem dX9_flatTold_49 : decode cX9_flatTold 49 = .ok (.invokevirtual 50, 3) := by decide +kernel
theorem dX9_flatTold_52 : decode cX9_flatTold 52 = .ok (.ireturn, 1) := by decide +kernel
theorem dX9_flatTold_53 : decode cX9_flatTold 53 = .ok (.aload_n 0, 1) := by decide +kernel
theorem dX9_flatTold_54 : decode cX9_flatTold 54 = .ok (.iload_n 1, 1) := by decide +kernel
theorem dX9_flatTold_55 : decode cX9_flatTold 55 = .ok (.bipush 6, 2) := by decide +kernel
theorem dX9_flatTold_57 : decode cX9_flatTold 57 = .ok (.invokevirtual 50, 3) := by decide +kernel
theorem dX9_flatTold_60 : decode cX9_flatTold 60 = .ok (.ireturn, 1) := by decide +kernel
theorem dX9_flatTold_61 : decode cX9_flatTold 61 = .ok (.aload_n 0, 1) := by decide +kernel
theorem dX9_flatTold_62 : decode cX9_flatTold 62 = .ok (.iload_n 1, 1) := by decide +kernel
theorem dX9_flatTold_63 : decode cX9_flatTold 63 = .ok (.bipush 7, 2) := by decide +kernel
theorem dX9_flatTold_65 : decode cX9_flatTold 65 = .ok (.invokevirtual 50, 3) := by decide +kernel
theorem dX9_flatTold_68 : decode cX9_flatTold 68 = .ok (.ireturn, 1) := by decide +kernel
theorem dX9_flatTold_69 : decode cX9_flatTold 69 = .ok (.aload_n 0, 1) := by decide +kernel
theorem dX9_flatTold_70 : decode cX9_flatTold 70 = .ok (.iload_n 1, 1) := by decide +kernel
theorem dX9_flatTold_71 : decode cX9_flatTold 71 = .ok (.invokevirtual 278, 3) := by decide +kernel
theorem dX9_flatTold_74 : decode cX9_flatTold 74 = .ok (.ireturn, 1) := by decide +kernel
theorem dX9_flatTold_75 : decode cX9_flatTold 75 = .ok (.aload_n 0, 1) := by decide +kernel
theorem dX9_flatTold_76 : decode cX9_flatTold 76 = .ok (.iload_n 1, 1) := by decide +kernel
theorem dX9_flatTold_77 : decode cX9_flatTold 77 = .ok (.bipush 8, 2) := by decide +kernel
theorem dX9_flatTold_79 : decode cX9_flatTold 79 = .ok (.invokevirtual 50, 3) := by decide +kernel
theorem dX9_flatTold_82 : decode cX9_flatTold 82 = .ok (.ireturn, 1) := by decide +kernel
theorem dX9_flatTold_83 : decode cX9_flatTold 83 = .ok (.aload_n 0, 1) := by decide +kernel
theorem dX9_flatTold_84 : decode cX9_flatTold 84 = .ok (.iload_n 1, 1) := by decide +kernel
theorem dX9_flatTold_85 : decode cX9_flatTold 85 = .ok (.iload_n 2, 1) := by decide +kernel
theorem dX9_flatTold_86 : decode cX9_flatTold 86 = .ok (.invokevirtual 50, 3) := by decide +kernel
theorem dX9_flatTold_89 : decode cX9_flatTold 89 = .ok (.ireturn, 1) := by decide +kernel
theorem dX9_flat_0 : decode cX9_flat 0 = .ok (.aload_n 0, 1) := by decide +kernel
theorem dX9_flat_1 : decode cX9_flat 1 = .ok (.aload_n 0, 1) := by decide +kernel
theorem dX9_flat_2 : decode cX9_flat 2 = .ok (.iload_n 1, 1) := by decide +kernel
theorem dX9_flat_3 : decode cX9_flat 3 = .ok (.invokevirtual 281, 3) := by decide +kernel
theorem dX9_flat_6 : decode cX9_flat 6 = .ok (.ifCond .ne 7, 3) := by decide +kernel
theorem dX9_flat_9 : decode cX9_flat 9 = .ok (.iconst 1, 1) := by decide +kernel
theorem dX9_flat_10 : decode cX9_flat 10 = .ok (.goto 4, 3) := by decide +kernel
theorem dX9_flat_13 : decode cX9_flat 13 = .ok (.iconst 0, 1) := by decide +kernel
theorem dX9_flat_14 : decode cX9_flat 14 = .ok (.iload_n 2, 1) := by decide +kernel
theorem dX9_flat_15 : decode cX9_flat 15 = .ok (.iconst 0, 1) := by decide +kernel
theorem dX9_flat_16 : decode cX9_flat 16 = .ok (.bipush 10, 2) := by decide +kernel
theorem dX9_flat_18 : decode cX9_flat 18 = .ok (.invokestatic 46, 3) := by decide +kernel
theorem dX9_flat_21 : decode cX9_flat 21 = .ok (.ifCond .ne 7, 3) := by decide +kernel
theorem dX9_flat_24 : decode cX9_flat 24 = .ok (.iconst 1, 1) := by decide +kernel
theorem dX9_flat_25 : decode cX9_flat 25 = .ok (.goto 4, 3) := by decide +kernel
theorem dX9_flat_28 : decode cX9_flat 28 = .ok (.iconst 0, 1) := by decide +kernel
theorem dX9_flat_29 : decode cX9_flat 29 = .ok (.invokevirtual 284, 3) := by decide +kernel
theorem dX9_flat_32 : decode cX9_flat 32 = .ok (.ifCond .eq 7, 3) := by decide +kernel
theorem dX9_flat_35 : decode cX9_flat 35 = .ok (.iconst 0, 1) := by decide +kernel
theorem dX9_flat_36 : decode cX9_flat 36 = .ok (.goto 9, 3) := by decide +kernel
theorem dX9_flat_39 : decode cX9_flat 39 = .ok (.aload_n 0, 1) := by decide +kernel
theorem dX9_flat_40 : decode cX9_flat 40 = .ok (.iload_n 1, 1) := by decide +kernel
theorem dX9_flat_41 : decode cX9_flat 41 = .ok (.iload_n 2, 1) := by decide +kernel
theorem dX9_flat_42 : decode cX9_flat 42 = .ok (.invokevirtual 287, 3) := by decide +kernel
theorem dX9_flat_45 : decode cX9_flat 45 = .ok (.ireturn, 1) := by decide +kernel
theorem dX9_queued_0 : decode cX9_queued 0 = .ok (.aload_n 0, 1) := by decide +kernel
theorem dX9_queued_1 : decode cX9_queued 1 = .ok (.iconst 0, 1) := by decide +kernel
theorem dX9_queued_2 : decode cX9_queued 2 = .ok (.putfield 42, 3) := by decide +kernel
theorem dX9_queued_5 : decode cX9_queued 5 = .ok (.iload_n 1, 1) := by decide +kernel
theorem dX9_queued_6 : decode cX9_queued 6 = .ok (.iconst 0, 1) := by decide +kernel
theorem dX9_queued_7 : decode cX9_queued 7 = .ok (.aload_n 0, 1) := by decide +kernel
theorem dX9_queued_8 : decode cX9_queued 8 = .ok (.getfield 7, 3) := by decide +kernel
theorem dX9_queued_11 : decode cX9_queued 11 = .ok (.bipush 30, 2) := by decide +kernel
theorem dX9_queued_13 : decode cX9_queued 13 = .ok (.iaload, 1) := by decide +kernel
theorem dX9_queued_14 : decode cX9_queued 14 = .ok (.iconst 1, 1) := by decide +kernel
theorem dX9_queued_15 : decode cX9_queued 15 = .ok (.isub, 1) := by decide +kernel
theorem dX9_queued_16 : decode cX9_queued 16 = .ok (.invokestatic 46, 3) := by decide +kernel
theorem dX9_queued_19 : decode cX9_queued 19 = .ok (.ifCond .eq 15, 3) := by decide +kernel
theorem dX9_queued_22 : decode cX9_queued 22 = .ok (.aload_n 0, 1) := by decide +kernel
theorem dX9_queued_23 : decode cX9_queued 23 = .ok (.getfield 7, 3) := by decide +kernel
theorem dX9_queued_26 : decode cX9_queued 26 = .ok (.bipush 31, 2) := by decide +kernel
theorem dX9_queued_28 : decode cX9_queued 28 = .ok (.iload_n 1, 1) := by decide +kernel
theorem dX9_queued_29 : decode cX9_queued 29 = .ok (.iadd, 1) := by decide +kernel
theorem dX9_queued_30 : decode cX9_queued 30 = .ok (.iaload, 1) := by decide +kernel
theorem dX9_queued_31 : decode cX9_queued 31 = .ok (.goto 4, 3) := by decide +kernel
theorem dX9_queued_34 : decode cX9_queued 34 = .ok (.iconst (-1), 1) := by decide +kernel
theorem dX9_queued_35 : decode cX9_queued 35 = .ok (.ireturn, 1) := by decide +kernel
theorem dX9_message_0 : decode cX9_message 0 = .ok (.aload_n 0, 1) := by decide +kernel
theorem dX9_message_1 : decode cX9_message 1 = .ok (.iload_n 1, 1) := by decide +kernel
theorem dX9_message_2 : decode cX9_message 2 = .ok (.iconst 0, 1) := by decide +kernel
theorem dX9_message_3 : decode cX9_message 3 = .ok (.aload_n 0, 1) := by decide +kernel
theorem dX9_message_4 : decode cX9_message 4 = .ok (.getfield 7, 3) := by decide +kernel
theorem dX9_message_7 : decode cX9_message 7 = .ok (.bipush 13, 2) := by decide +kernel
theorem dX9_message_9 : decode cX9_message 9 = .ok (.iaload, 1) := by decide +kernel
theorem dX9_message_10 : decode cX9_message 10 = .ok (.iconst 1, 1) := by decide +kernel
theorem dX9_message_11 : decode cX9_message 11 = .ok (.isub, 1) := by decide +kernel
theorem dX9_message_12 : decode cX9_message 12 = .ok (.invokestatic 46, 3) := by decide +kernel
theorem dX9_message_15 : decode cX9_message 15 = .ok (.ifCond .ne 7, 3) := by decide +kernel
theorem dX9_message_18 : decode cX9_message 18 = .ok (.iconst 1, 1) := by decide +kernel
theorem dX9_message_19 : decode cX9_message 19 = .ok (.goto 4, 3) := by decide +kernel
theorem dX9_message_22 : decode cX9_message 22 = .ok (.iconst 0, 1) := by decide +kernel
theorem dX9_message_23 : decode cX9_message 23 = .ok (.iload_n 2, 1) := by decide +kernel
theorem dX9_message_24 : decode cX9_message 24 = .ok (.iconst 0, 1) := by decide +kernel
theorem dX9_message_25 : decode cX9_message 25 = .ok (.iconst 1, 1) := by decide +kernel
theorem dX9_message_26 : decode cX9_message 26 = .ok (.invokestatic 46, 3) := by decide +kernel
theorem dX9_message_29 : decode cX9_message 29 = .ok (.ifCond .ne 7, 3) := by decide +kernel
theorem dX9_message_32 : decode cX9_message 32 = .ok (.iconst 1, 1) := by decide +kernel
theorem dX9_message_33 : decode cX9_message 33 = .ok (.goto 4, 3) := by decide +kernel
theorem dX9_message_36 : decode cX9_message 36 = .ok (.iconst 0, 1) := by decide +kernel
theorem dX9_message_37 : decode cX9_message 37 = .ok (.invokevirtual 284, 3) := by decide +kernel
theorem dX9_message_40 : decode cX9_message 40 = .ok (.ifCond .eq 7, 3) := by decide +kernel
theorem dX9_message_43 : decode cX9_message 43 = .ok (.iconst 0, 1) := by decide +kernel
theorem dX9_message_44 : decode cX9_message 44 = .ok (.goto 16, 3) := by decide +kernel
theorem dX9_message_47 : decode cX9_message 47 = .ok (.aload_n 0, 1) := by decide +kernel
theorem dX9_message_48 : decode cX9_message 48 = .ok (.getfield 7, 3) := by decide +kernel
theorem dX9_message_51 : decode cX9_message 51 = .ok (.bipush 14, 2) := by decide +kernel
theorem dX9_message_53 : decode cX9_message 53 = .ok (.iconst 2, 1) := by decide +kernel
theorem dX9_message_54 : decode cX9_message 54 = .ok (.iload_n 1, 1) := by decide +kernel
theorem dX9_message_55 : decode cX9_message 55 = .ok (.imul, 1) := by decide +kernel
theorem dX9_message_56 : decode cX9_message 56 = .ok (.iadd, 1) := by decide +kernel
theorem dX9_message_57 : decode cX9_message 57 = .ok (.iload_n 2, 1) := by decide +kernel
theorem dX9_message_58 : decode cX9_message 58 = .ok (.iadd, 1) := by decide +kernel
theorem dX9_message_59 : decode cX9_message 59 = .ok (.iaload, 1) := by decide +kernel
theorem dX9_message_60 : decode cX9_message 60 = .ok (.ireturn, 1) := by decide +kernel
theorem dX9_heard_0 : decode cX9_heard 0 = .ok (.aload_n 0, 1) := by decide +kernel
theorem dX9_heard_1 : decode cX9_heard 1 = .ok (.aload_n 0, 1) := by decide +kernel
theorem dX9_heard_2 : decode cX9_heard 2 = .ok (.iload_n 1, 1) := by decide +kernel
theorem dX9_heard_3 : decode cX9_heard 3 = .ok (.invokevirtual 281, 3) := by decide +kernel
theorem dX9_heard_6 : decode cX9_heard 6 = .ok (.ifCond .eq 11, 3) := by decide +kernel
theorem dX9_heard_9 : decode cX9_heard 9 = .ok (.aload_n 0, 1) := by decide +kernel
theorem dX9_heard_10 : decode cX9_heard 10 = .ok (.iload_n 2, 1) := by decide +kernel
theorem dX9_heard_11 : decode cX9_heard 11 = .ok (.invokevirtual 281, 3) := by decide +kernel
theorem dX9_heard_14 : decode cX9_heard 14 = .ok (.ifCond .ne 7, 3) := by decide +kernel
theorem dX9_heard_17 : decode cX9_heard 17 = .ok (.iconst 1, 1) := by decide +kernel
theorem dX9_heard_18 : decode cX9_heard 18 = .ok (.goto 4, 3) := by decide +kernel
theorem dX9_heard_21 : decode cX9_heard 21 = .ok (.iconst 0, 1) := by decide +kernel
theorem dX9_heard_22 : decode cX9_heard 22 = .ok (.invokevirtual 262, 3) := by decide +kernel
theorem dX9_heard_25 : decode cX9_heard 25 = .ok (.ifCond .eq 7, 3) := by decide +kernel
theorem dX9_heard_28 : decode cX9_heard 28 = .ok (.iconst 0, 1) := by decide +kernel
theorem dX9_heard_29 : decode cX9_heard 29 = .ok (.goto 9, 3) := by decide +kernel
theorem dX9_heard_32 : decode cX9_heard 32 = .ok (.aload_n 0, 1) := by decide +kernel
theorem dX9_heard_33 : decode cX9_heard 33 = .ok (.iload_n 1, 1) := by decide +kernel
theorem dX9_heard_34 : decode cX9_heard 34 = .ok (.iload_n 2, 1) := by decide +kernel
theorem dX9_heard_35 : decode cX9_heard 35 = .ok (.invokevirtual 290, 3) := by decide +kernel
theorem dX9_heard_38 : decode cX9_heard 38 = .ok (.ireturn, 1) := by decide +kernel
theorem dX9_knowers_0 : decode cX9_knowers 0 = .ok (.iconst 0, 1) := by decide +kernel
theorem dX9_knowers_1 : decode cX9_knowers 1 = .ok (.istore_n 2, 1) := by decide +kernel
theorem dX9_knowers_2 : decode cX9_knowers 2 = .ok (.iconst 0, 1) := by decide +kernel
theorem dX9_knowers_3 : decode cX9_knowers 3 = .ok (.istore_n 3, 1) := by decide +kernel
theorem dX9_knowers_4 : decode cX9_knowers 4 = .ok (.iload_n 3, 1) := by decide +kernel
theorem dX9_knowers_5 : decode cX9_knowers 5 = .ok (.aload_n 0, 1) := by decide +kernel
theorem dX9_knowers_6 : decode cX9_knowers 6 = .ok (.getfield 7, 3) := by decide +kernel
theorem dX9_knowers_9 : decode cX9_knowers 9 = .ok (.iconst 0, 1) := by decide +kernel
theorem dX9_knowers_10 : decode cX9_knowers 10 = .ok (.iaload, 1) := by decide +kernel
theorem dX9_knowers_11 : decode cX9_knowers 11 = .ok (.if_icmp .ge 35, 3) := by decide +kernel
theorem dX9_knowers_14 : decode cX9_knowers 14 = .ok (.iload_n 2, 1) := by decide +kernel
theorem dX9_knowers_15 : decode cX9_knowers 15 = .ok (.aload_n 0, 1) := by decide +kernel
theorem dX9_knowers_16 : decode cX9_knowers 16 = .ok (.iload_n 3, 1) := by decide +kernel
theorem dX9_knowers_17 : decode cX9_knowers 17 = .ok (.iload_n 1, 1) := by decide +kernel
theorem dX9_knowers_18 : decode cX9_knowers 18 = .ok (.invokevirtual 290, 3) := by decide +kernel
theorem dX9_knowers_21 : decode cX9_knowers 21 = .ok (.aload_n 0, 1) := by decide +kernel
theorem dX9_knowers_22 : decode cX9_knowers 22 = .ok (.getfield 7, 3) := by decide +kernel
theorem dX9_knowers_25 : decode cX9_knowers 25 = .ok (.bipush 11, 2) := by decide +kernel
theorem dX9_knowers_27 : decode cX9_knowers 27 = .ok (.iaload, 1) := by decide +kernel
theorem dX9_knowers_28 : decode cX9_knowers 28 = .ok (.if_icmp .lt 9, 3) := by decide +kernel
theorem dX9_knowers_31 : decode cX9_knowers 31 = .ok (.iconst 1, 1) := by decide +kernel
theorem dX9_knowers_32 : decode cX9_knowers 32 = .ok (.iload_n 3, 1) := by decide +kernel
theorem dX9_knowers_33 : decode cX9_knowers 33 = .ok (.ishl, 1) := by decide +kernel
theorem dX9_knowers_34 : decode cX9_knowers 34 = .ok (.goto 4, 3) := by decide +kernel
theorem dX9_knowers_37 : decode cX9_knowers 37 = .ok (.iconst 0, 1) := by decide +kernel
theorem dX9_knowers_38 : decode cX9_knowers 38 = .ok (.ior, 1) := by decide +kernel
theorem dX9_knowers_39 : decode cX9_knowers 39 = .ok (.istore_n 2, 1) := by decide +kernel
theorem dX9_knowers_40 : decode cX9_knowers 40 = .ok (.iinc 3 1, 3) := by decide +kernel
theorem dX9_knowers_43 : decode cX9_knowers 43 = .ok (.goto (-39), 3) := by decide +kernel
theorem dX9_knowers_46 : decode cX9_knowers 46 = .ok (.iload_n 2, 1) := by decide +kernel
theorem dX9_knowers_47 : decode cX9_knowers 47 = .ok (.ireturn, 1) := by decide +kernel
theorem dX9_knowing_0 : decode cX9_knowing 0 = .ok (.aload_n 0, 1) := by decide +kernel
theorem dX9_knowing_1 : decode cX9_knowing 1 = .ok (.aload_n 0, 1) := by decide +kernel
theorem dX9_knowing_2 : decode cX9_knowing 2 = .ok (.iload_n 1, 1) := by decide +kernel
theorem dX9_knowing_3 : decode cX9_knowing 3 = .ok (.invokevirtual 281, 3) := by decide +kernel
theorem dX9_knowing_6 : decode cX9_knowing 6 = .ok (.ifCond .ne 7, 3) := by decide +kernel
theorem dX9_knowing_9 : decode cX9_knowing 9 = .ok (.iconst 1, 1) := by decide +kernel
theorem dX9_knowing_10 : decode cX9_knowing 10 = .ok (.goto 4, 3) := by decide +kernel
theorem dX9_knowing_13 : decode cX9_knowing 13 = .ok (.iconst 0, 1) := by decide +kernel
theorem dX9_knowing_14 : decode cX9_knowing 14 = .ok (.invokevirtual 262, 3) := by decide +kernel
theorem dX9_knowing_17 : decode cX9_knowing 17 = .ok (.ifCond .eq 7, 3) := by decide +kernel
theorem dX9_knowing_20 : decode cX9_knowing 20 = .ok (.iconst 0, 1) := by decide +kernel
theorem dX9_knowing_21 : decode cX9_knowing 21 = .ok (.goto 8, 3) := by decide +kernel
theorem dX9_knowing_24 : decode cX9_knowing 24 = .ok (.aload_n 0, 1) := by decide +kernel
theorem dX9_knowing_25 : decode cX9_knowing 25 = .ok (.iload_n 1, 1) := by decide +kernel
theorem dX9_knowing_26 : decode cX9_knowing 26 = .ok (.invokevirtual 293, 3) := by decide +kernel
theorem dX9_knowing_29 : decode cX9_knowing 29 = .ok (.ireturn, 1) := by decide +kernel
theorem dX9_listening_0 : decode cX9_listening 0 = .ok (.aload_n 0, 1) := by decide +kernel
theorem dX9_listening_1 : decode cX9_listening 1 = .ok (.aload_n 0, 1) := by decide +kernel
theorem dX9_listening_2 : decode cX9_listening 2 = .ok (.iload_n 1, 1) := by decide +kernel
theorem dX9_listening_3 : decode cX9_listening 3 = .ok (.invokevirtual 281, 3) := by decide +kernel
theorem dX9_listening_6 : decode cX9_listening 6 = .ok (.ifCond .ne 7, 3) := by decide +kernel
theorem dX9_listening_9 : decode cX9_listening 9 = .ok (.iconst 1, 1) := by decide +kernel
theorem dX9_listening_10 : decode cX9_listening 10 = .ok (.goto 4, 3) := by decide +kernel
theorem dX9_listening_13 : decode cX9_listening 13 = .ok (.iconst 0, 1) := by decide +kernel
theorem dX9_listening_14 : decode cX9_listening 14 = .ok (.invokevirtual 262, 3) := by decide +kernel
theorem dX9_listening_17 : decode cX9_listening 17 = .ok (.ifCond .eq 5, 3) := by decide +kernel
theorem dX9_listening_20 : decode cX9_listening 20 = .ok (.iconst 0, 1) := by decide +kernel
theorem dX9_listening_21 : decode cX9_listening 21 = .ok (.ireturn, 1) := by decide +kernel
theorem dX9_listening_22 : decode cX9_listening 22 = .ok (.iconst 0, 1) := by decide +kernel
theorem dX9_listening_23 : decode cX9_listening 23 = .ok (.istore_n 2, 1) := by decide +kernel
theorem dX9_listening_24 : decode cX9_listening 24 = .ok (.iconst 0, 1) := by decide +kernel
theorem dX9_listening_25 : decode cX9_listening 25 = .ok (.istore_n 3, 1) := by decide +kernel
theorem dX9_listening_26 : decode cX9_listening 26 = .ok (.iload_n 3, 1) := by decide +kernel
theorem dX9_listening_27 : decode cX9_listening 27 = .ok (.aload_n 0, 1) := by decide +kernel
theorem dX9_listening_28 : decode cX9_listening 28 = .ok (.getfield 7, 3) := by decide +kernel
theorem dX9_listening_31 : decode cX9_listening 31 = .ok (.iconst 0, 1) := by decide +kernel
theorem dX9_listening_32 : decode cX9_listening 32 = .ok (.iaload, 1) := by decide +kernel
theorem dX9_listening_33 : decode cX9_listening 33 = .ok (.if_icmp .ge 28, 3) := by decide +kernel
theorem dX9_listening_36 : decode cX9_listening 36 = .ok (.iload_n 2, 1) := by decide +kernel
theorem dX9_listening_37 : decode cX9_listening 37 = .ok (.aload_n 0, 1) := by decide +kernel
theorem dX9_listening_38 : decode cX9_listening 38 = .ok (.iload_n 3, 1) := by decide +kernel
theorem dX9_listening_39 : decode cX9_listening 39 = .ok (.iload_n 1, 1) := by decide +kernel
theorem dX9_listening_40 : decode cX9_listening 40 = .ok (.invokevirtual 75, 3) := by decide +kernel
theorem dX9_listening_43 : decode cX9_listening 43 = .ok (.ifCond .eq 9, 3) := by decide +kernel
theorem dX9_listening_46 : decode cX9_listening 46 = .ok (.iconst 1, 1) := by decide +kernel
theorem dX9_listening_47 : decode cX9_listening 47 = .ok (.iload_n 3, 1) := by decide +kernel
theorem dX9_listening_48 : decode cX9_listening 48 = .ok (.ishl, 1) := by decide +kernel
theorem dX9_listening_49 : decode cX9_listening 49 = .ok (.goto 4, 3) := by decide +kernel
theorem dX9_listening_52 : decode cX9_listening 52 = .ok (.iconst 0, 1) := by decide +kernel
theorem dX9_listening_53 : decode cX9_listening 53 = .ok (.ior, 1) := by decide +kernel
theorem dX9_listening_54 : decode cX9_listening 54 = .ok (.istore_n 2, 1) := by decide +kernel
theorem dX9_listening_55 : decode cX9_listening 55 = .ok (.iinc 3 1, 3) := by decide +kernel
theorem dX9_listening_58 : decode cX9_listening 58 = .ok (.goto (-32), 3) := by decide +kernel
theorem dX9_listening_61 : decode cX9_listening 61 = .ok (.iload_n 2, 1) := by decide +kernel
theorem dX9_listening_62 : decode cX9_listening 62 = .ok (.ireturn, 1) := by decide +kernel
theorem dX9_bits_0 : decode cX9_bits 0 = .ok (.iconst 0, 1) := by decide +kernel
theorem dX9_bits_1 : decode cX9_bits 1 = .ok (.istore_n 1, 1) := by decide +kernel
theorem dX9_bits_2 : decode cX9_bits 2 = .ok (.iload_n 0, 1) := by decide +kernel
theorem dX9_bits_3 : decode cX9_bits 3 = .ok (.istore_n 2, 1) := by decide +kernel
theorem dX9_bits_4 : decode cX9_bits 4 = .ok (.iload_n 2, 1) := by decide +kernel
theorem dX9_bits_5 : decode cX9_bits 5 = .ok (.ifCond .le 16, 3) := by decide +kernel
theorem dX9_bits_8 : decode cX9_bits 8 = .ok (.iload_n 1, 1) := by decide +kernel
theorem dX9_bits_9 : decode cX9_bits 9 = .ok (.iload_n 2, 1) := by decide +kernel
theorem dX9_bits_10 : decode cX9_bits 10 = .ok (.iconst 2, 1) := by decide +kernel
theorem dX9_bits_11 : decode cX9_bits 11 = .ok (.irem, 1) := by decide +kernel
theorem dX9_bits_12 : decode cX9_bits 12 = .ok (.iadd, 1) := by decide +kernel
theorem dX9_bits_13 : decode cX9_bits 13 = .ok (.istore_n 1, 1) := by decide +kernel
theorem dX9_bits_14 : decode cX9_bits 14 = .ok (.iload_n 2, 1) := by decide +kernel
theorem dX9_bits_15 : decode cX9_bits 15 = .ok (.iconst 2, 1) := by decide +kernel
theorem dX9_bits_16 : decode cX9_bits 16 = .ok (.idiv, 1) := by decide +kernel
theorem dX9_bits_17 : decode cX9_bits 17 = .ok (.istore_n 2, 1) := by decide +kernel
theorem dX9_bits_18 : decode cX9_bits 18 = .ok (.goto (-14), 3) := by decide +kernel
theorem dX9_bits_21 : decode cX9_bits 21 = .ok (.iload_n 1, 1) := by decide +kernel
theorem dX9_bits_22 : decode cX9_bits 22 = .ok (.ireturn, 1) := by decide +kernel
theorem dX9_mostKnown_0 : decode cX9_mostKnown 0 = .ok (.aload_n 0, 1) := by decide +kernel
theorem dX9_mostKnown_1 : decode cX9_mostKnown 1 = .ok (.iconst 0, 1) := by decide +kernel
theorem dX9_mostKnown_2 : decode cX9_mostKnown 2 = .ok (.putfield 42, 3) := by decide +kernel
theorem dX9_mostKnown_5 : decode cX9_mostKnown 5 = .ok (.iconst (-1), 1) := by decide +kernel
theorem dX9_mostKnown_6 : decode cX9_mostKnown 6 = .ok (.istore_n 1, 1) := by decide +kernel
theorem dX9_mostKnown_7 : decode cX9_mostKnown 7 = .ok (.iconst 0, 1) := by decide +kernel
theorem dX9_mostKnown_8 : decode cX9_mostKnown 8 = .ok (.istore_n 2, 1) := by decide +kernel
theorem dX9_mostKnown_9 : decode cX9_mostKnown 9 = .ok (.iconst 0, 1) := by decide +kernel
theorem dX9_mostKnown_10 : decode cX9_mostKnown 10 = .ok (.istore_n 3, 1) := by decide +kernel
theorem dX9_mostKnown_11 : decode cX9_mostKnown 11 = .ok (.iload_n 3, 1) := by decide +kernel
theorem dX9_mostKnown_12 : decode cX9_mostKnown 12 = .ok (.aload_n 0, 1) := by decide +kernel
theorem dX9_mostKnown_13 : decode cX9_mostKnown 13 = .ok (.getfield 7, 3) := by decide +kernel
theorem dX9_mostKnown_16 : decode cX9_mostKnown 16 = .ok (.iconst 0, 1) := by decide +kernel
theorem dX9_mostKnown_17 : decode cX9_mostKnown 17 = .ok (.iaload, 1) := by decide +kernel
theorem dX9_mostKnown_18 : decode cX9_mostKnown 18 = .ok (.if_icmp .ge 30, 3) := by decide +kernel
theorem dX9_mostKnown_21 : decode cX9_mostKnown 21 = .ok (.aload_n 0, 1) := by decide +kernel
theorem dX9_mostKnown_22 : decode cX9_mostKnown 22 = .ok (.iload_n 3, 1) := by decide +kernel
theorem dX9_mostKnown_23 : decode cX9_mostKnown 23 = .ok (.invokevirtual 293, 3) := by decide +kernel
theorem dX9_mostKnown_26 : decode cX9_mostKnown 26 = .ok (.invokestatic 296, 3) := by decide +kernel
theorem dX9_mostKnown_29 : decode cX9_mostKnown 29 = .ok (.istore 4, 2) := by decide +kernel
theorem dX9_mostKnown_31 : decode cX9_mostKnown 31 = .ok (.iload 4, 2) := by decide +kernel
theorem dX9_mostKnown_33 : decode cX9_mostKnown 33 = .ok (.iload_n 2, 1) := by decide +kernel
theorem dX9_mostKnown_34 : decode cX9_mostKnown 34 = .ok (.if_icmp .le 8, 3) := by decide +kernel
theorem dX9_mostKnown_37 : decode cX9_mostKnown 37 = .ok (.iload 4, 2) := by decide +kernel
theorem dX9_mostKnown_39 : decode cX9_mostKnown 39 = .ok (.istore_n 2, 1) := by decide +kernel
theorem dX9_mostKnown_40 : decode cX9_mostKnown 40 = .ok (.iload_n 3, 1) := by decide +kernel
theorem dX9_mostKnown_41 : decode cX9_mostKnown 41 = .ok (.istore_n 1, 1) := by decide +kernel
theorem dX9_mostKnown_42 : decode cX9_mostKnown 42 = .ok (.iinc 3 1, 3) := by decide +kernel
theorem dX9_mostKnown_45 : decode cX9_mostKnown 45 = .ok (.goto (-34), 3) := by decide +kernel
theorem dX9_mostKnown_48 : decode cX9_mostKnown 48 = .ok (.iload_n 1, 1) := by decide +kernel
theorem dX9_mostKnown_49 : decode cX9_mostKnown 49 = .ok (.ireturn, 1) := by decide +kernel
theorem dX9_cost_0 : decode cX9_cost 0 = .ok (.aload_n 0, 1) := by decide +kernel
theorem dX9_cost_1 : decode cX9_cost 1 = .ok (.iload_n 1, 1) := by decide +kernel
theorem dX9_cost_2 : decode cX9_cost 2 = .ok (.iconst 1, 1) := by decide +kernel
theorem dX9_cost_3 : decode cX9_cost 3 = .ok (.bipush 99, 2) := by decide +kernel
theorem dX9_cost_5 : decode cX9_cost 5 = .ok (.invokestatic 46, 3) := by decide +kernel
theorem dX9_cost_8 : decode cX9_cost 8 = .ok (.ifCond .ne 7, 3) := by decide +kernel
theorem dX9_cost_11 : decode cX9_cost 11 = .ok (.iconst 1, 1) := by decide +kernel
theorem dX9_cost_12 : decode cX9_cost 12 = .ok (.goto 4, 3) := by decide +kernel
theorem dX9_cost_15 : decode cX9_cost 15 = .ok (.iconst 0, 1) := by decide +kernel
theorem dX9_cost_16 : decode cX9_cost 16 = .ok (.invokevirtual 262, 3) := by decide +kernel
theorem dX9_cost_19 : decode cX9_cost 19 = .ok (.ifCond .eq 7, 3) := by decide +kernel
theorem dX9_cost_22 : decode cX9_cost 22 = .ok (.iconst 0, 1) := by decide +kernel
theorem dX9_cost_23 : decode cX9_cost 23 = .ok (.goto 8, 3) := by decide +kernel
theorem dX9_cost_26 : decode cX9_cost 26 = .ok (.aload_n 0, 1) := by decide +kernel
theorem dX9_cost_27 : decode cX9_cost 27 = .ok (.iload_n 1, 1) := by decide +kernel
theorem dX9_cost_28 : decode cX9_cost 28 = .ok (.invokevirtual 66, 3) := by decide +kernel
theorem dX9_cost_31 : decode cX9_cost 31 = .ok (.ireturn, 1) := by decide +kernel
theorem dX9_reason_0 : decode cX9_reason 0 = .ok (.aload_n 0, 1) := by decide +kernel
theorem dX9_reason_1 : decode cX9_reason 1 = .ok (.iload_n 1, 1) := by decide +kernel
theorem dX9_reason_2 : decode cX9_reason 2 = .ok (.iconst 2, 1) := by decide +kernel
theorem dX9_reason_3 : decode cX9_reason 3 = .ok (.invokevirtual 50, 3) := by decide +kernel
theorem dX9_reason_6 : decode cX9_reason 6 = .ok (.tableswitch 36 0 3 #[32, 34, 36, 30], 30) := by decide +kernel
theorem dX9_reason_36 : decode cX9_reason 36 = .ok (.iconst 0, 1) := by decide +kernel
theorem dX9_reason_37 : decode cX9_reason 37 = .ok (.ireturn, 1) := by decide +kernel
theorem dX9_reason_38 : decode cX9_reason 38 = .ok (.iconst 1, 1) := by decide +kernel
theorem dX9_reason_39 : decode cX9_reason 39 = .ok (.ireturn, 1) := by decide +kernel
theorem dX9_reason_40 : decode cX9_reason 40 = .ok (.iconst 2, 1) := by decide +kernel
theorem dX9_reason_41 : decode cX9_reason 41 = .ok (.ireturn, 1) := by decide +kernel
theorem dX9_reason_42 : decode cX9_reason 42 = .ok (.aload_n 0, 1) := by decide +kernel
theorem dX9_reason_43 : decode cX9_reason 43 = .ok (.getfield 7, 3) := by decide +kernel
theorem dX9_reason_46 : decode cX9_reason 46 = .ok (.iconst 2, 1) := by decide +kernel
theorem dX9_reason_47 : decode cX9_reason 47 = .ok (.iaload, 1) := by decide +kernel
theorem dX9_reason_48 : decode cX9_reason 48 = .ok (.iconst 2, 1) := by decide +kernel
theorem dX9_reason_49 : decode cX9_reason 49 = .ok (.if_icmp .ne 7, 3) := by decide +kernel
theorem dX9_reason_52 : decode cX9_reason 52 = .ok (.iconst 3, 1) := by decide +kernel
theorem dX9_reason_53 : decode cX9_reason 53 = .ok (.goto 18, 3) := by decide +kernel
theorem dX9_reason_56 : decode cX9_reason 56 = .ok (.aload_n 0, 1) := by decide +kernel
theorem dX9_reason_57 : decode cX9_reason 57 = .ok (.getfield 7, 3) := by decide +kernel
theorem dX9_reason_60 : decode cX9_reason 60 = .ok (.iconst 2, 1) := by decide +kernel
theorem dX9_reason_61 : decode cX9_reason 61 = .ok (.iaload, 1) := by decide +kernel
theorem dX9_reason_62 : decode cX9_reason 62 = .ok (.iconst 1, 1) := by decide +kernel
theorem dX9_reason_63 : decode cX9_reason 63 = .ok (.if_icmp .ne 7, 3) := by decide +kernel
theorem dX9_reason_66 : decode cX9_reason 66 = .ok (.iconst 4, 1) := by decide +kernel
theorem dX9_reason_67 : decode cX9_reason 67 = .ok (.goto 4, 3) := by decide +kernel
theorem dX9_reason_70 : decode cX9_reason 70 = .ok (.iconst 5, 1) := by decide +kernel
theorem dX9_reason_71 : decode cX9_reason 71 = .ok (.ireturn, 1) := by decide +kernel
theorem dX9_why_0 : decode cX9_why 0 = .ok (.aload_n 0, 1) := by decide +kernel
theorem dX9_why_1 : decode cX9_why 1 = .ok (.aload_n 0, 1) := by decide +kernel
theorem dX9_why_2 : decode cX9_why 2 = .ok (.iload_n 1, 1) := by decide +kernel
theorem dX9_why_3 : decode cX9_why 3 = .ok (.invokevirtual 281, 3) := by decide +kernel
theorem dX9_why_6 : decode cX9_why 6 = .ok (.ifCond .ne 7, 3) := by decide +kernel
theorem dX9_why_9 : decode cX9_why 9 = .ok (.iconst 1, 1) := by decide +kernel
theorem dX9_why_10 : decode cX9_why 10 = .ok (.goto 4, 3) := by decide +kernel
theorem dX9_why_13 : decode cX9_why 13 = .ok (.iconst 0, 1) := by decide +kernel
theorem dX9_why_14 : decode cX9_why 14 = .ok (.iload_n 2, 1) := by decide +kernel
theorem dX9_why_15 : decode cX9_why 15 = .ok (.iconst 0, 1) := by decide +kernel
theorem dX9_why_16 : decode cX9_why 16 = .ok (.iconst 1, 1) := by decide +kernel
theorem dX9_why_17 : decode cX9_why 17 = .ok (.invokestatic 46, 3) := by decide +kernel
theorem dX9_why_20 : decode cX9_why 20 = .ok (.ifCond .ne 7, 3) := by decide +kernel
theorem dX9_why_23 : decode cX9_why 23 = .ok (.iconst 1, 1) := by decide +kernel
theorem dX9_why_24 : decode cX9_why 24 = .ok (.goto 4, 3) := by decide +kernel
theorem dX9_why_27 : decode cX9_why 27 = .ok (.iconst 0, 1) := by decide +kernel
theorem dX9_why_28 : decode cX9_why 28 = .ok (.invokevirtual 284, 3) := by decide +kernel
theorem dX9_why_31 : decode cX9_why 31 = .ok (.ifCond .eq 5, 3) := by decide +kernel
theorem dX9_why_34 : decode cX9_why 34 = .ok (.iconst 0, 1) := by decide +kernel
theorem dX9_why_35 : decode cX9_why 35 = .ok (.ireturn, 1) := by decide +kernel
theorem dX9_why_36 : decode cX9_why 36 = .ok (.aload_n 0, 1) := by decide +kernel
theorem dX9_why_37 : decode cX9_why 37 = .ok (.iload_n 1, 1) := by decide +kernel
theorem dX9_why_38 : decode cX9_why 38 = .ok (.invokevirtual 299, 3) := by decide +kernel
theorem dX9_why_41 : decode cX9_why 41 = .ok (.istore_n 3, 1) := by decide +kernel
theorem dX9_why_42 : decode cX9_why 42 = .ok (.iload_n 2, 1) := by decide +kernel
theorem dX9_why_43 : decode cX9_why 43 = .ok (.ifCond .ne 5, 3) := by decide +kernel
theorem dX9_why_46 : decode cX9_why 46 = .ok (.iload_n 3, 1) := by decide +kernel
theorem dX9_why_47 : decode cX9_why 47 = .ok (.ireturn, 1) := by decide +kernel
theorem dX9_why_48 : decode cX9_why 48 = .ok (.iload_n 3, 1) := by decide +kernel
theorem dX9_why_49 : decode cX9_why 49 = .ok (.tableswitch 65 0 5 #[39, 46, 52, 65, 65, 59], 39) := by decide +kernel
theorem dX9_why_88 : decode cX9_why 88 = .ok (.aload_n 0, 1) := by decide +kernel
theorem dX9_why_89 : decode cX9_why 89 = .ok (.getfield 7, 3) := by decide +kernel
theorem dX9_why_92 : decode cX9_why 92 = .ok (.iconst 4, 1) := by decide +kernel
theorem dX9_why_93 : decode cX9_why 93 = .ok (.iaload, 1) := by decide +kernel
theorem dX9_why_94 : decode cX9_why 94 = .ok (.ireturn, 1) := by decide +kernel
theorem dX9_why_95 : decode cX9_why 95 = .ok (.aload_n 0, 1) := by decide +kernel
theorem dX9_why_96 : decode cX9_why 96 = .ok (.iload_n 1, 1) := by decide +kernel
theorem dX9_why_97 : decode cX9_why 97 = .ok (.invokevirtual 278, 3) := by decide +kernel
theorem dX9_why_100 : decode cX9_why 100 = .ok (.ireturn, 1) := by decide +kernel
theorem dX9_why_101 : decode cX9_why 101 = .ok (.aload_n 0, 1) := by decide +kernel
theorem dX9_why_102 : decode cX9_why 102 = .ok (.iload_n 1, 1) := by decide +kernel
theorem dX9_why_103 : decode cX9_why 103 = .ok (.iconst 3, 1) := by decide +kernel
theorem dX9_why_104 : decode cX9_why 104 = .ok (.invokevirtual 50, 3) := by decide +kernel
theorem dX9_why_107 : decode cX9_why 107 = .ok (.ireturn, 1) := by decide +kernel
theorem dX9_why_108 : decode cX9_why 108 = .ok (.aload_n 0, 1) := by decide +kernel
theorem dX9_why_109 : decode cX9_why 109 = .ok (.iload_n 1, 1) := by decide +kernel
theorem dX9_why_110 : decode cX9_why 110 = .ok (.invokevirtual 54, 3) := by decide +kernel
theorem dX9_why_113 : decode cX9_why 113 = .ok (.ireturn, 1) := by decide +kernel
theorem dX9_why_114 : decode cX9_why 114 = .ok (.aload_n 0, 1) := by decide +kernel
theorem dX9_why_115 : decode cX9_why 115 = .ok (.getfield 7, 3) := by decide +kernel
theorem dX9_why_118 : decode cX9_why 118 = .ok (.iconst 3, 1) := by decide +kernel
theorem dX9_why_119 : decode cX9_why 119 = .ok (.iaload, 1) := by decide +kernel
theorem dX9_why_120 : decode cX9_why 120 = .ok (.ireturn, 1) := by decide +kernel
theorem dX9_tillSpeaks_0 : decode cX9_tillSpeaks 0 = .ok (.iconst 0, 1) := by decide +kernel
theorem dX9_tillSpeaks_1 : decode cX9_tillSpeaks 1 = .ok (.istore_n 2, 1) := by decide +kernel
theorem dX9_tillSpeaks_2 : decode cX9_tillSpeaks 2 = .ok (.iload_n 2, 1) := by decide +kernel
theorem dX9_tillSpeaks_3 : decode cX9_tillSpeaks 3 = .ok (.sipush 500, 3) := by decide +kernel
theorem dX9_tillSpeaks_6 : decode cX9_tillSpeaks 6 = .ok (.if_icmp .gt 25, 3) := by decide +kernel
theorem dX9_tillSpeaks_9 : decode cX9_tillSpeaks 9 = .ok (.aload_n 0, 1) := by decide +kernel
theorem dX9_tillSpeaks_10 : decode cX9_tillSpeaks 10 = .ok (.iload_n 1, 1) := by decide +kernel
theorem dX9_tillSpeaks_11 : decode cX9_tillSpeaks 11 = .ok (.iconst 2, 1) := by decide +kernel
theorem dX9_tillSpeaks_12 : decode cX9_tillSpeaks 12 = .ok (.invokevirtual 50, 3) := by decide +kernel
theorem dX9_tillSpeaks_15 : decode cX9_tillSpeaks 15 = .ok (.iconst 3, 1) := by decide +kernel
theorem dX9_tillSpeaks_16 : decode cX9_tillSpeaks 16 = .ok (.if_icmp .ne 5, 3) := by decide +kernel
theorem dX9_tillSpeaks_19 : decode cX9_tillSpeaks 19 = .ok (.iload_n 2, 1) := by decide +kernel
theorem dX9_tillSpeaks_20 : decode cX9_tillSpeaks 20 = .ok (.ireturn, 1) := by decide +kernel
theorem dX9_tillSpeaks_21 : decode cX9_tillSpeaks 21 = .ok (.aload_n 0, 1) := by decide +kernel
theorem dX9_tillSpeaks_22 : decode cX9_tillSpeaks 22 = .ok (.invokevirtual 102, 3) := by decide +kernel
theorem dX9_tillSpeaks_25 : decode cX9_tillSpeaks 25 = .ok (.iinc 2 1, 3) := by decide +kernel
theorem dX9_tillSpeaks_28 : decode cX9_tillSpeaks 28 = .ok (.goto (-26), 3) := by decide +kernel
theorem dX9_tillSpeaks_31 : decode cX9_tillSpeaks 31 = .ok (.iconst (-1), 1) := by decide +kernel
theorem dX9_tillSpeaks_32 : decode cX9_tillSpeaks 32 = .ok (.ireturn, 1) := by decide +kernel
theorem dX9_speaksIn_0 : decode cX9_speaksIn 0 = .ok (.aload_n 0, 1) := by decide +kernel
theorem dX9_speaksIn_1 : decode cX9_speaksIn 1 = .ok (.aload_n 0, 1) := by decide +kernel
theorem dX9_speaksIn_2 : decode cX9_speaksIn 2 = .ok (.iload_n 1, 1) := by decide +kernel
theorem dX9_speaksIn_3 : decode cX9_speaksIn 3 = .ok (.invokevirtual 281, 3) := by decide +kernel
theorem dX9_speaksIn_6 : decode cX9_speaksIn 6 = .ok (.ifCond .ne 7, 3) := by decide +kernel
theorem dX9_speaksIn_9 : decode cX9_speaksIn 9 = .ok (.iconst 1, 1) := by decide +kernel
theorem dX9_speaksIn_10 : decode cX9_speaksIn 10 = .ok (.goto 4, 3) := by decide +kernel
theorem dX9_speaksIn_13 : decode cX9_speaksIn 13 = .ok (.iconst 0, 1) := by decide +kernel
theorem dX9_speaksIn_14 : decode cX9_speaksIn 14 = .ok (.invokevirtual 262, 3) := by decide +kernel
theorem dX9_speaksIn_17 : decode cX9_speaksIn 17 = .ok (.ifCond .eq 5, 3) := by decide +kernel
theorem dX9_speaksIn_20 : decode cX9_speaksIn 20 = .ok (.iconst 0, 1) := by decide +kernel
theorem dX9_speaksIn_21 : decode cX9_speaksIn 21 = .ok (.ireturn, 1) := by decide +kernel
theorem dX9_speaksIn_22 : decode cX9_speaksIn 22 = .ok (.aload_n 0, 1) := by decide +kernel
theorem dX9_speaksIn_23 : decode cX9_speaksIn 23 = .ok (.invokevirtual 302, 3) := by decide +kernel
theorem dX9_speaksIn_26 : decode cX9_speaksIn 26 = .ok (.aload_n 0, 1) := by decide +kernel
theorem dX9_speaksIn_27 : decode cX9_speaksIn 27 = .ok (.iload_n 1, 1) := by decide +kernel
theorem dX9_speaksIn_28 : decode cX9_speaksIn 28 = .ok (.invokevirtual 305, 3) := by decide +kernel
theorem dX9_speaksIn_31 : decode cX9_speaksIn 31 = .ok (.istore_n 2, 1) := by decide +kernel
theorem dX9_speaksIn_32 : decode cX9_speaksIn 32 = .ok (.aload_n 0, 1) := by decide +kernel
theorem dX9_speaksIn_33 : decode cX9_speaksIn 33 = .ok (.invokevirtual 308, 3) := by decide +kernel
theorem dX9_speaksIn_36 : decode cX9_speaksIn 36 = .ok (.iload_n 2, 1) := by decide +kernel
theorem dX9_speaksIn_37 : decode cX9_speaksIn 37 = .ok (.ireturn, 1) := by decide +kernel
theorem dX9_freeIn_0 : decode cX9_freeIn 0 = .ok (.aload_n 0, 1) := by decide +kernel
theorem dX9_freeIn_1 : decode cX9_freeIn 1 = .ok (.iconst 0, 1) := by decide +kernel
theorem dX9_freeIn_2 : decode cX9_freeIn 2 = .ok (.putfield 42, 3) := by decide +kernel
theorem dX9_freeIn_5 : decode cX9_freeIn 5 = .ok (.aload_n 0, 1) := by decide +kernel
theorem dX9_freeIn_6 : decode cX9_freeIn 6 = .ok (.invokevirtual 302, 3) := by decide +kernel
theorem dX9_freeIn_9 : decode cX9_freeIn 9 = .ok (.iconst 0, 1) := by decide +kernel
theorem dX9_freeIn_10 : decode cX9_freeIn 10 = .ok (.istore_n 1, 1) := by decide +kernel
theorem dX9_freeIn_11 : decode cX9_freeIn 11 = .ok (.iload_n 1, 1) := by decide +kernel
theorem dX9_freeIn_12 : decode cX9_freeIn 12 = .ok (.sipush 500, 3) := by decide +kernel
theorem dX9_freeIn_15 : decode cX9_freeIn 15 = .ok (.if_icmp .gt 22, 3) := by decide +kernel
theorem dX9_freeIn_18 : decode cX9_freeIn 18 = .ok (.aload_n 0, 1) := by decide +kernel
theorem dX9_freeIn_19 : decode cX9_freeIn 19 = .ok (.getfield 7, 3) := by decide +kernel
theorem dX9_freeIn_22 : decode cX9_freeIn 22 = .ok (.iconst 2, 1) := by decide +kernel
theorem dX9_freeIn_23 : decode cX9_freeIn 23 = .ok (.iaload, 1) := by decide +kernel
theorem dX9_freeIn_24 : decode cX9_freeIn 24 = .ok (.ifCond .eq 13, 3) := by decide +kernel
theorem dX9_freeIn_27 : decode cX9_freeIn 27 = .ok (.aload_n 0, 1) := by decide +kernel
theorem dX9_freeIn_28 : decode cX9_freeIn 28 = .ok (.invokevirtual 102, 3) := by decide +kernel
theorem dX9_freeIn_31 : decode cX9_freeIn 31 = .ok (.iinc 1 1, 3) := by decide +kernel
theorem dX9_freeIn_34 : decode cX9_freeIn 34 = .ok (.goto (-23), 3) := by decide +kernel
theorem dX9_freeIn_37 : decode cX9_freeIn 37 = .ok (.aload_n 0, 1) := by decide +kernel
theorem dX9_freeIn_38 : decode cX9_freeIn 38 = .ok (.invokevirtual 308, 3) := by decide +kernel
theorem dX9_freeIn_41 : decode cX9_freeIn 41 = .ok (.iload_n 1, 1) := by decide +kernel
theorem dX9_freeIn_42 : decode cX9_freeIn 42 = .ok (.sipush 500, 3) := by decide +kernel
theorem dX9_freeIn_45 : decode cX9_freeIn 45 = .ok (.if_icmp .gt 7, 3) := by decide +kernel
theorem dX9_freeIn_48 : decode cX9_freeIn 48 = .ok (.iload_n 1, 1) := by decide +kernel
theorem dX9_freeIn_49 : decode cX9_freeIn 49 = .ok (.goto 4, 3) := by decide +kernel
theorem dX9_freeIn_52 : decode cX9_freeIn 52 = .ok (.iconst (-1), 1) := by decide +kernel
theorem dX9_freeIn_53 : decode cX9_freeIn 53 = .ok (.ireturn, 1) := by decide +kernel
theorem dX9_flatIn_0 : decode cX9_flatIn 0 = .ok (.aload_n 0, 1) := by decide +kernel
theorem dX9_flatIn_1 : decode cX9_flatIn 1 = .ok (.aload_n 0, 1) := by decide +kernel
theorem dX9_flatIn_2 : decode cX9_flatIn 2 = .ok (.iload_n 1, 1) := by decide +kernel
theorem dX9_flatIn_3 : decode cX9_flatIn 3 = .ok (.invokevirtual 281, 3) := by decide +kernel
theorem dX9_flatIn_6 : decode cX9_flatIn 6 = .ok (.ifCond .ne 7, 3) := by decide +kernel
theorem dX9_flatIn_9 : decode cX9_flatIn 9 = .ok (.iconst 1, 1) := by decide +kernel
theorem dX9_flatIn_10 : decode cX9_flatIn 10 = .ok (.goto 4, 3) := by decide +kernel
theorem dX9_flatIn_13 : decode cX9_flatIn 13 = .ok (.iconst 0, 1) := by decide +kernel
theorem dX9_flatIn_14 : decode cX9_flatIn 14 = .ok (.iload_n 2, 1) := by decide +kernel
theorem dX9_flatIn_15 : decode cX9_flatIn 15 = .ok (.iconst 0, 1) := by decide +kernel
theorem dX9_flatIn_16 : decode cX9_flatIn 16 = .ok (.sipush 500, 3) := by decide +kernel
theorem dX9_flatIn_19 : decode cX9_flatIn 19 = .ok (.invokestatic 46, 3) := by decide +kernel
theorem dX9_flatIn_22 : decode cX9_flatIn 22 = .ok (.ifCond .ne 7, 3) := by decide +kernel
theorem dX9_flatIn_25 : decode cX9_flatIn 25 = .ok (.iconst 1, 1) := by decide +kernel
theorem dX9_flatIn_26 : decode cX9_flatIn 26 = .ok (.goto 4, 3) := by decide +kernel
theorem dX9_flatIn_29 : decode cX9_flatIn 29 = .ok (.iconst 0, 1) := by decide +kernel
theorem dX9_flatIn_30 : decode cX9_flatIn 30 = .ok (.invokevirtual 284, 3) := by decide +kernel
theorem dX9_flatIn_33 : decode cX9_flatIn 33 = .ok (.ifCond .eq 5, 3) := by decide +kernel
theorem dX9_flatIn_36 : decode cX9_flatIn 36 = .ok (.iconst 0, 1) := by decide +kernel
theorem dX9_flatIn_37 : decode cX9_flatIn 37 = .ok (.ireturn, 1) := by decide +kernel
theorem dX9_flatIn_38 : decode cX9_flatIn 38 = .ok (.aload_n 0, 1) := by decide +kernel
theorem dX9_flatIn_39 : decode cX9_flatIn 39 = .ok (.invokevirtual 302, 3) := by decide +kernel
theorem dX9_flatIn_42 : decode cX9_flatIn 42 = .ok (.aload_n 0, 1) := by decide +kernel
theorem dX9_flatIn_43 : decode cX9_flatIn 43 = .ok (.iload_n 2, 1) := by decide +kernel
theorem dX9_flatIn_44 : decode cX9_flatIn 44 = .ok (.invokevirtual 238, 3) := by decide +kernel
theorem dX9_flatIn_47 : decode cX9_flatIn 47 = .ok (.pop, 1) := by decide +kernel
theorem dX9_flatIn_48 : decode cX9_flatIn 48 = .ok (.aload_n 0, 1) := by decide +kernel
theorem dX9_flatIn_49 : decode cX9_flatIn 49 = .ok (.iload_n 1, 1) := by decide +kernel
theorem dX9_flatIn_50 : decode cX9_flatIn 50 = .ok (.iconst 2, 1) := by decide +kernel
theorem dX9_flatIn_51 : decode cX9_flatIn 51 = .ok (.invokevirtual 50, 3) := by decide +kernel
theorem dX9_flatIn_54 : decode cX9_flatIn 54 = .ok (.istore_n 3, 1) := by decide +kernel
theorem dX9_flatIn_55 : decode cX9_flatIn 55 = .ok (.aload_n 0, 1) := by decide +kernel
theorem dX9_flatIn_56 : decode cX9_flatIn 56 = .ok (.invokevirtual 308, 3) := by decide +kernel
theorem dX9_flatIn_59 : decode cX9_flatIn 59 = .ok (.iload_n 3, 1) := by decide +kernel
theorem dX9_flatIn_60 : decode cX9_flatIn 60 = .ok (.ireturn, 1) := by decide +kernel
theorem dX9_debtIn_0 : decode cX9_debtIn 0 = .ok (.aload_n 0, 1) := by decide +kernel
theorem dX9_debtIn_1 : decode cX9_debtIn 1 = .ok (.aload_n 0, 1) := by decide +kernel
theorem dX9_debtIn_2 : decode cX9_debtIn 2 = .ok (.iload_n 1, 1) := by decide +kernel
theorem dX9_debtIn_3 : decode cX9_debtIn 3 = .ok (.invokevirtual 281, 3) := by decide +kernel
theorem dX9_debtIn_6 : decode cX9_debtIn 6 = .ok (.ifCond .ne 7, 3) := by decide +kernel
theorem dX9_debtIn_9 : decode cX9_debtIn 9 = .ok (.iconst 1, 1) := by decide +kernel
theorem dX9_debtIn_10 : decode cX9_debtIn 10 = .ok (.goto 4, 3) := by decide +kernel
theorem dX9_debtIn_13 : decode cX9_debtIn 13 = .ok (.iconst 0, 1) := by decide +kernel
theorem dX9_debtIn_14 : decode cX9_debtIn 14 = .ok (.iload_n 2, 1) := by decide +kernel
theorem dX9_debtIn_15 : decode cX9_debtIn 15 = .ok (.iconst 0, 1) := by decide +kernel
theorem dX9_debtIn_16 : decode cX9_debtIn 16 = .ok (.sipush 500, 3) := by decide +kernel
theorem dX9_debtIn_19 : decode cX9_debtIn 19 = .ok (.invokestatic 46, 3) := by decide +kernel
theorem dX9_debtIn_22 : decode cX9_debtIn 22 = .ok (.ifCond .ne 7, 3) := by decide +kernel
theorem dX9_debtIn_25 : decode cX9_debtIn 25 = .ok (.iconst 1, 1) := by decide +kernel
theorem dX9_debtIn_26 : decode cX9_debtIn 26 = .ok (.goto 4, 3) := by decide +kernel
theorem dX9_debtIn_29 : decode cX9_debtIn 29 = .ok (.iconst 0, 1) := by decide +kernel
theorem dX9_debtIn_30 : decode cX9_debtIn 30 = .ok (.invokevirtual 284, 3) := by decide +kernel
theorem dX9_debtIn_33 : decode cX9_debtIn 33 = .ok (.ifCond .eq 5, 3) := by decide +kernel
theorem dX9_debtIn_36 : decode cX9_debtIn 36 = .ok (.iconst 0, 1) := by decide +kernel
theorem dX9_debtIn_37 : decode cX9_debtIn 37 = .ok (.ireturn, 1) := by decide +kernel
theorem dX9_debtIn_38 : decode cX9_debtIn 38 = .ok (.aload_n 0, 1) := by decide +kernel
theorem dX9_debtIn_39 : decode cX9_debtIn 39 = .ok (.invokevirtual 302, 3) := by decide +kernel
theorem dX9_debtIn_42 : decode cX9_debtIn 42 = .ok (.aload_n 0, 1) := by decide +kernel
theorem dX9_debtIn_43 : decode cX9_debtIn 43 = .ok (.iload_n 2, 1) := by decide +kernel
theorem dX9_debtIn_44 : decode cX9_debtIn 44 = .ok (.invokevirtual 238, 3) := by decide +kernel
theorem dX9_debtIn_47 : decode cX9_debtIn 47 = .ok (.pop, 1) := by decide +kernel
theorem dX9_debtIn_48 : decode cX9_debtIn 48 = .ok (.aload_n 0, 1) := by decide +kernel
theorem dX9_debtIn_49 : decode cX9_debtIn 49 = .ok (.iload_n 1, 1) := by decide +kernel
theorem dX9_debtIn_50 : decode cX9_debtIn 50 = .ok (.iconst 5, 1) := by decide +kernel
theorem dX9_debtIn_51 : decode cX9_debtIn 51 = .ok (.invokevirtual 50, 3) := by decide +kernel
theorem dX9_debtIn_54 : decode cX9_debtIn 54 = .ok (.istore_n 3, 1) := by decide +kernel
theorem dX9_debtIn_55 : decode cX9_debtIn 55 = .ok (.aload_n 0, 1) := by decide +kernel
theorem dX9_debtIn_56 : decode cX9_debtIn 56 = .ok (.invokevirtual 308, 3) := by decide +kernel
theorem dX9_debtIn_59 : decode cX9_debtIn 59 = .ok (.iload_n 3, 1) := by decide +kernel
theorem dX9_debtIn_60 : decode cX9_debtIn 60 = .ok (.ireturn, 1) := by decide +kernel
theorem dX9_waitIf_0 : decode cX9_waitIf 0 = .ok (.aload_n 0, 1) := by decide +kernel
theorem dX9_waitIf_1 : decode cX9_waitIf 1 = .ok (.aload_n 0, 1) := by decide +kernel
theorem dX9_waitIf_2 : decode cX9_waitIf 2 = .ok (.iload_n 1, 1) := by decide +kernel
theorem dX9_waitIf_3 : decode cX9_waitIf 3 = .ok (.invokevirtual 281, 3) := by decide +kernel
theorem dX9_waitIf_6 : decode cX9_waitIf 6 = .ok (.ifCond .ne 7, 3) := by decide +kernel
theorem dX9_waitIf_9 : decode cX9_waitIf 9 = .ok (.iconst 1, 1) := by decide +kernel
theorem dX9_waitIf_10 : decode cX9_waitIf 10 = .ok (.goto 4, 3) := by decide +kernel
theorem dX9_waitIf_13 : decode cX9_waitIf 13 = .ok (.iconst 0, 1) := by decide +kernel
theorem dX9_waitIf_14 : decode cX9_waitIf 14 = .ok (.invokevirtual 262, 3) := by decide +kernel
theorem dX9_waitIf_17 : decode cX9_waitIf 17 = .ok (.ifCond .ne 12, 3) := by decide +kernel
theorem dX9_waitIf_20 : decode cX9_waitIf 20 = .ok (.aload_n 0, 1) := by decide +kernel
theorem dX9_waitIf_21 : decode cX9_waitIf 21 = .ok (.iload_n 1, 1) := by decide +kernel
theorem dX9_waitIf_22 : decode cX9_waitIf 22 = .ok (.iconst 2, 1) := by decide +kernel
theorem dX9_waitIf_23 : decode cX9_waitIf 23 = .ok (.invokevirtual 50, 3) := by decide +kernel
theorem dX9_waitIf_26 : decode cX9_waitIf 26 = .ok (.ifCond .eq 16, 3) := by decide +kernel
theorem dX9_waitIf_29 : decode cX9_waitIf 29 = .ok (.aload_n 0, 1) := by decide +kernel
theorem dX9_waitIf_30 : decode cX9_waitIf 30 = .ok (.getfield 42, 3) := by decide +kernel
theorem dX9_waitIf_33 : decode cX9_waitIf 33 = .ok (.ifCond .ne 7, 3) := by decide +kernel
theorem dX9_waitIf_36 : decode cX9_waitIf 36 = .ok (.iconst (-1), 1) := by decide +kernel
theorem dX9_waitIf_37 : decode cX9_waitIf 37 = .ok (.goto 4, 3) := by decide +kernel
theorem dX9_waitIf_40 : decode cX9_waitIf 40 = .ok (.iconst 0, 1) := by decide +kernel
theorem dX9_waitIf_41 : decode cX9_waitIf 41 = .ok (.ireturn, 1) := by decide +kernel
theorem dX9_waitIf_42 : decode cX9_waitIf 42 = .ok (.aload_n 0, 1) := by decide +kernel
theorem dX9_waitIf_43 : decode cX9_waitIf 43 = .ok (.invokevirtual 302, 3) := by decide +kernel
theorem dX9_waitIf_46 : decode cX9_waitIf 46 = .ok (.aload_n 0, 1) := by decide +kernel
theorem dX9_waitIf_47 : decode cX9_waitIf 47 = .ok (.iload_n 1, 1) := by decide +kernel
theorem dX9_waitIf_48 : decode cX9_waitIf 48 = .ok (.iconst 1, 1) := by decide +kernel
theorem dX9_waitIf_49 : decode cX9_waitIf 49 = .ok (.invokevirtual 210, 3) := by decide +kernel
theorem dX9_waitIf_52 : decode cX9_waitIf 52 = .ok (.pop, 1) := by decide +kernel
theorem dX9_waitIf_53 : decode cX9_waitIf 53 = .ok (.aload_n 0, 1) := by decide +kernel
theorem dX9_waitIf_54 : decode cX9_waitIf 54 = .ok (.iload_n 1, 1) := by decide +kernel
theorem dX9_waitIf_55 : decode cX9_waitIf 55 = .ok (.invokevirtual 305, 3) := by decide +kernel
theorem dX9_waitIf_58 : decode cX9_waitIf 58 = .ok (.istore_n 2, 1) := by decide +kernel
theorem dX9_waitIf_59 : decode cX9_waitIf 59 = .ok (.aload_n 0, 1) := by decide +kernel
theorem dX9_waitIf_60 : decode cX9_waitIf 60 = .ok (.invokevirtual 308, 3) := by decide +kernel
theorem dX9_waitIf_63 : decode cX9_waitIf 63 = .ok (.iload_n 2, 1) := by decide +kernel
theorem dX9_waitIf_64 : decode cX9_waitIf 64 = .ok (.ireturn, 1) := by decide +kernel
theorem dX9_waiting_0 : decode cX9_waiting 0 = .ok (.iconst 0, 1) := by decide +kernel
theorem dX9_waiting_1 : decode cX9_waiting 1 = .ok (.istore_n 1, 1) := by decide +kernel
theorem dX9_waiting_2 : decode cX9_waiting 2 = .ok (.iconst 0, 1) := by decide +kernel
theorem dX9_waiting_3 : decode cX9_waiting 3 = .ok (.istore_n 2, 1) := by decide +kernel
theorem dX9_waiting_4 : decode cX9_waiting 4 = .ok (.iload_n 2, 1) := by decide +kernel
theorem dX9_waiting_5 : decode cX9_waiting 5 = .ok (.aload_n 0, 1) := by decide +kernel
theorem dX9_waiting_6 : decode cX9_waiting 6 = .ok (.getfield 7, 3) := by decide +kernel
theorem dX9_waiting_9 : decode cX9_waiting 9 = .ok (.iconst 0, 1) := by decide +kernel
theorem dX9_waiting_10 : decode cX9_waiting 10 = .ok (.iaload, 1) := by decide +kernel
theorem dX9_waiting_11 : decode cX9_waiting 11 = .ok (.if_icmp .ge 39, 3) := by decide +kernel
theorem dX9_waiting_14 : decode cX9_waiting 14 = .ok (.iload_n 1, 1) := by decide +kernel
theorem dX9_waiting_15 : decode cX9_waiting 15 = .ok (.aload_n 0, 1) := by decide +kernel
theorem dX9_waiting_16 : decode cX9_waiting 16 = .ok (.iload_n 2, 1) := by decide +kernel
theorem dX9_waiting_17 : decode cX9_waiting 17 = .ok (.iconst 2, 1) := by decide +kernel
theorem dX9_waiting_18 : decode cX9_waiting 18 = .ok (.invokevirtual 50, 3) := by decide +kernel
theorem dX9_waiting_21 : decode cX9_waiting 21 = .ok (.iconst 2, 1) := by decide +kernel
theorem dX9_waiting_22 : decode cX9_waiting 22 = .ok (.if_icmp .eq 13, 3) := by decide +kernel
theorem dX9_waiting_25 : decode cX9_waiting 25 = .ok (.aload_n 0, 1) := by decide +kernel
theorem dX9_waiting_26 : decode cX9_waiting 26 = .ok (.iload_n 2, 1) := by decide +kernel
theorem dX9_waiting_27 : decode cX9_waiting 27 = .ok (.iconst 2, 1) := by decide +kernel
theorem dX9_waiting_28 : decode cX9_waiting 28 = .ok (.invokevirtual 50, 3) := by decide +kernel
theorem dX9_waiting_31 : decode cX9_waiting 31 = .ok (.iconst 1, 1) := by decide +kernel
theorem dX9_waiting_32 : decode cX9_waiting 32 = .ok (.if_icmp .ne 9, 3) := by decide +kernel
theorem dX9_waiting_35 : decode cX9_waiting 35 = .ok (.iconst 1, 1) := by decide +kernel
theorem dX9_waiting_36 : decode cX9_waiting 36 = .ok (.iload_n 2, 1) := by decide +kernel
theorem dX9_waiting_37 : decode cX9_waiting 37 = .ok (.ishl, 1) := by decide +kernel
theorem dX9_waiting_38 : decode cX9_waiting 38 = .ok (.goto 4, 3) := by decide +kernel
theorem dX9_waiting_41 : decode cX9_waiting 41 = .ok (.iconst 0, 1) := by decide +kernel
theorem dX9_waiting_42 : decode cX9_waiting 42 = .ok (.ior, 1) := by decide +kernel
theorem dX9_waiting_43 : decode cX9_waiting 43 = .ok (.istore_n 1, 1) := by decide +kernel
theorem dX9_waiting_44 : decode cX9_waiting 44 = .ok (.iinc 2 1, 3) := by decide +kernel
theorem dX9_waiting_47 : decode cX9_waiting 47 = .ok (.goto (-43), 3) := by decide +kernel
theorem dX9_waiting_50 : decode cX9_waiting 50 = .ok (.iload_n 1, 1) := by decide +kernel
theorem dX9_waiting_51 : decode cX9_waiting 51 = .ok (.ireturn, 1) := by decide +kernel
theorem dX9_tillAll_0 : decode cX9_tillAll 0 = .ok (.iload_n 1, 1) := by decide +kernel
theorem dX9_tillAll_1 : decode cX9_tillAll 1 = .ok (.istore_n 2, 1) := by decide +kernel
theorem dX9_tillAll_2 : decode cX9_tillAll 2 = .ok (.iconst 0, 1) := by decide +kernel
theorem dX9_tillAll_3 : decode cX9_tillAll 3 = .ok (.istore_n 3, 1) := by decide +kernel
theorem dX9_tillAll_4 : decode cX9_tillAll 4 = .ok (.iload_n 3, 1) := by decide +kernel
theorem dX9_tillAll_5 : decode cX9_tillAll 5 = .ok (.sipush 500, 3) := by decide +kernel
theorem dX9_tillAll_8 : decode cX9_tillAll 8 = .ok (.if_icmp .gt 42, 3) := by decide +kernel
theorem dX9_tillAll_11 : decode cX9_tillAll 11 = .ok (.aload_n 0, 1) := by decide +kernel
theorem dX9_tillAll_12 : decode cX9_tillAll 12 = .ok (.getfield 7, 3) := by decide +kernel
theorem dX9_tillAll_15 : decode cX9_tillAll 15 = .ok (.iconst 2, 1) := by decide +kernel
theorem dX9_tillAll_16 : decode cX9_tillAll 16 = .ok (.iaload, 1) := by decide +kernel
theorem dX9_tillAll_17 : decode cX9_tillAll 17 = .ok (.iconst 2, 1) := by decide +kernel
theorem dX9_tillAll_18 : decode cX9_tillAll 18 = .ok (.if_icmp .ne 16, 3) := by decide +kernel
theorem dX9_tillAll_21 : decode cX9_tillAll 21 = .ok (.iload_n 2, 1) := by decide +kernel
theorem dX9_tillAll_22 : decode cX9_tillAll 22 = .ok (.iconst 1, 1) := by decide +kernel
theorem dX9_tillAll_23 : decode cX9_tillAll 23 = .ok (.aload_n 0, 1) := by decide +kernel
theorem dX9_tillAll_24 : decode cX9_tillAll 24 = .ok (.getfield 7, 3) := by decide +kernel
theorem dX9_tillAll_27 : decode cX9_tillAll 27 = .ok (.iconst 3, 1) := by decide +kernel
theorem dX9_tillAll_28 : decode cX9_tillAll 28 = .ok (.iaload, 1) := by decide +kernel
theorem dX9_tillAll_29 : decode cX9_tillAll 29 = .ok (.ishl, 1) := by decide +kernel
theorem dX9_tillAll_30 : decode cX9_tillAll 30 = .ok (.iconst (-1), 1) := by decide +kernel
theorem dX9_tillAll_31 : decode cX9_tillAll 31 = .ok (.ixor, 1) := by decide +kernel
theorem dX9_tillAll_32 : decode cX9_tillAll 32 = .ok (.iand, 1) := by decide +kernel
theorem dX9_tillAll_33 : decode cX9_tillAll 33 = .ok (.istore_n 2, 1) := by decide +kernel
theorem dX9_tillAll_34 : decode cX9_tillAll 34 = .ok (.iload_n 2, 1) := by decide +kernel
theorem dX9_tillAll_35 : decode cX9_tillAll 35 = .ok (.ifCond .ne 5, 3) := by decide +kernel
theorem dX9_tillAll_38 : decode cX9_tillAll 38 = .ok (.iload_n 3, 1) := by decide +kernel
theorem dX9_tillAll_39 : decode cX9_tillAll 39 = .ok (.ireturn, 1) := by decide +kernel
theorem dX9_tillAll_40 : decode cX9_tillAll 40 = .ok (.aload_n 0, 1) := by decide +kernel
theorem dX9_tillAll_41 : decode cX9_tillAll 41 = .ok (.invokevirtual 102, 3) := by decide +kernel
theorem dX9_tillAll_44 : decode cX9_tillAll 44 = .ok (.iinc 3 1, 3) := by decide +kernel
theorem dX9_tillAll_47 : decode cX9_tillAll 47 = .ok (.goto (-43), 3) := by decide +kernel
theorem dX9_tillAll_50 : decode cX9_tillAll 50 = .ok (.iconst (-1), 1) := by decide +kernel
theorem dX9_tillAll_51 : decode cX9_tillAll 51 = .ok (.ireturn, 1) := by decide +kernel
theorem dX9_bestLimit_0 : decode cX9_bestLimit 0 = .ok (.aload_n 0, 1) := by decide +kernel
theorem dX9_bestLimit_1 : decode cX9_bestLimit 1 = .ok (.iconst 0, 1) := by decide +kernel
theorem dX9_bestLimit_2 : decode cX9_bestLimit 2 = .ok (.putfield 42, 3) := by decide +kernel
theorem dX9_bestLimit_5 : decode cX9_bestLimit 5 = .ok (.aload_n 0, 1) := by decide +kernel
theorem dX9_bestLimit_6 : decode cX9_bestLimit 6 = .ok (.invokevirtual 311, 3) := by decide +kernel
theorem dX9_bestLimit_9 : decode cX9_bestLimit 9 = .ok (.istore_n 1, 1) := by decide +kernel
theorem dX9_bestLimit_10 : decode cX9_bestLimit 10 = .ok (.iconst (-1), 1) := by decide +kernel
theorem dX9_bestLimit_11 : decode cX9_bestLimit 11 = .ok (.istore_n 2, 1) := by decide +kernel
theorem dX9_bestLimit_12 : decode cX9_bestLimit 12 = .ok (.iconst 0, 1) := by decide +kernel
theorem dX9_bestLimit_13 : decode cX9_bestLimit 13 = .ok (.istore_n 3, 1) := by decide +kernel
theorem dX9_bestLimit_14 : decode cX9_bestLimit 14 = .ok (.iconst 1, 1) := by decide +kernel
theorem dX9_bestLimit_15 : decode cX9_bestLimit 15 = .ok (.istore 4, 2) := by decide +kernel
theorem dX9_bestLimit_17 : decode cX9_bestLimit 17 = .ok (.iload 4, 2) := by decide +kernel
theorem dX9_bestLimit_19 : decode cX9_bestLimit 19 = .ok (.bipush 60, 2) := by decide +kernel
theorem dX9_bestLimit_21 : decode cX9_bestLimit 21 = .ok (.if_icmp .gt 60, 3) := by decide +kernel
theorem dX9_bestLimit_24 : decode cX9_bestLimit 24 = .ok (.iload_n 1, 1) := by decide +kernel
theorem dX9_bestLimit_25 : decode cX9_bestLimit 25 = .ok (.ifCond .eq 56, 3) := by decide +kernel
theorem dX9_bestLimit_28 : decode cX9_bestLimit 28 = .ok (.aload_n 0, 1) := by decide +kernel
theorem dX9_bestLimit_29 : decode cX9_bestLimit 29 = .ok (.invokevirtual 302, 3) := by decide +kernel
theorem dX9_bestLimit_32 : decode cX9_bestLimit 32 = .ok (.aload_n 0, 1) := by decide +kernel
theorem dX9_bestLimit_33 : decode cX9_bestLimit 33 = .ok (.getfield 7, 3) := by decide +kernel
theorem dX9_bestLimit_36 : decode cX9_bestLimit 36 = .ok (.bipush 7, 2) := by decide +kernel
theorem dX9_bestLimit_38 : decode cX9_bestLimit 38 = .ok (.iload 4, 2) := by decide +kernel
theorem dX9_bestLimit_40 : decode cX9_bestLimit 40 = .ok (.iastore, 1) := by decide +kernel
theorem dX9_bestLimit_41 : decode cX9_bestLimit 41 = .ok (.aload_n 0, 1) := by decide +kernel
theorem dX9_bestLimit_42 : decode cX9_bestLimit 42 = .ok (.iload_n 1, 1) := by decide +kernel
theorem dX9_bestLimit_43 : decode cX9_bestLimit 43 = .ok (.invokevirtual 314, 3) := by decide +kernel
theorem dX9_bestLimit_46 : decode cX9_bestLimit 46 = .ok (.istore 5, 2) := by decide +kernel
theorem dX9_bestLimit_48 : decode cX9_bestLimit 48 = .ok (.aload_n 0, 1) := by decide +kernel
theorem dX9_bestLimit_49 : decode cX9_bestLimit 49 = .ok (.invokevirtual 308, 3) := by decide +kernel
theorem dX9_bestLimit_52 : decode cX9_bestLimit 52 = .ok (.iload 5, 2) := by decide +kernel
theorem dX9_bestLimit_54 : decode cX9_bestLimit 54 = .ok (.iconst (-1), 1) := by decide +kernel
theorem dX9_bestLimit_55 : decode cX9_bestLimit 55 = .ok (.if_icmp .eq 20, 3) := by decide +kernel
theorem dX9_bestLimit_58 : decode cX9_bestLimit 58 = .ok (.iload_n 2, 1) := by decide +kernel
theorem dX9_bestLimit_59 : decode cX9_bestLimit 59 = .ok (.iconst (-1), 1) := by decide +kernel
theorem dX9_bestLimit_60 : decode cX9_bestLimit 60 = .ok (.if_icmp .eq 9, 3) := by decide +kernel
theorem dX9_bestLimit_63 : decode cX9_bestLimit 63 = .ok (.iload 5, 2) := by decide +kernel
theorem dX9_bestLimit_65 : decode cX9_bestLimit 65 = .ok (.iload_n 3, 1) := by decide +kernel
theorem dX9_bestLimit_66 : decode cX9_bestLimit 66 = .ok (.if_icmp .ge 9, 3) := by decide +kernel
theorem dX9_bestLimit_69 : decode cX9_bestLimit 69 = .ok (.iload 4, 2) := by decide +kernel
theorem dX9_bestLimit_71 : decode cX9_bestLimit 71 = .ok (.istore_n 2, 1) := by decide +kernel
theorem dX9_bestLimit_72 : decode cX9_bestLimit 72 = .ok (.iload 5, 2) := by decide +kernel
theorem dX9_bestLimit_74 : decode cX9_bestLimit 74 = .ok (.istore_n 3, 1) := by decide +kernel
theorem dX9_bestLimit_75 : decode cX9_bestLimit 75 = .ok (.iinc 4 1, 3) := by decide +kernel
theorem dX9_bestLimit_78 : decode cX9_bestLimit 78 = .ok (.goto (-61), 3) := by decide +kernel
theorem dX9_bestLimit_81 : decode cX9_bestLimit 81 = .ok (.iload_n 2, 1) := by decide +kernel
theorem dX9_bestLimit_82 : decode cX9_bestLimit 82 = .ok (.ireturn, 1) := by decide +kernel
theorem dX9_known_0 : decode cX9_known 0 = .ok (.iconst 0, 1) := by decide +kernel
theorem dX9_known_1 : decode cX9_known 1 = .ok (.istore_n 2, 1) := by decide +kernel
theorem dX9_known_2 : decode cX9_known 2 = .ok (.iconst 0, 1) := by decide +kernel
theorem dX9_known_3 : decode cX9_known 3 = .ok (.istore_n 3, 1) := by decide +kernel
theorem dX9_known_4 : decode cX9_known 4 = .ok (.iload_n 3, 1) := by decide +kernel
theorem dX9_known_5 : decode cX9_known 5 = .ok (.aload_n 0, 1) := by decide +kernel
theorem dX9_known_6 : decode cX9_known 6 = .ok (.getfield 7, 3) := by decide +kernel
theorem dX9_known_9 : decode cX9_known 9 = .ok (.iconst 0, 1) := by decide +kernel
theorem dX9_known_10 : decode cX9_known 10 = .ok (.iaload, 1) := by decide +kernel
theorem dX9_known_11 : decode cX9_known 11 = .ok (.if_icmp .ge 35, 3) := by decide +kernel
theorem dX9_known_14 : decode cX9_known 14 = .ok (.iload_n 2, 1) := by decide +kernel
theorem dX9_known_15 : decode cX9_known 15 = .ok (.aload_n 0, 1) := by decide +kernel
theorem dX9_known_16 : decode cX9_known 16 = .ok (.iload_n 1, 1) := by decide +kernel
theorem dX9_known_17 : decode cX9_known 17 = .ok (.iload_n 3, 1) := by decide +kernel
theorem dX9_known_18 : decode cX9_known 18 = .ok (.invokevirtual 290, 3) := by decide +kernel
theorem dX9_known_21 : decode cX9_known 21 = .ok (.aload_n 0, 1) := by decide +kernel
theorem dX9_known_22 : decode cX9_known 22 = .ok (.getfield 7, 3) := by decide +kernel
theorem dX9_known_25 : decode cX9_known 25 = .ok (.bipush 11, 2) := by decide +kernel
theorem dX9_known_27 : decode cX9_known 27 = .ok (.iaload, 1) := by decide +kernel
theorem dX9_known_28 : decode cX9_known 28 = .ok (.if_icmp .lt 9, 3) := by decide +kernel
theorem dX9_known_31 : decode cX9_known 31 = .ok (.iconst 1, 1) := by decide +kernel
theorem dX9_known_32 : decode cX9_known 32 = .ok (.iload_n 3, 1) := by decide +kernel
theorem dX9_known_33 : decode cX9_known 33 = .ok (.ishl, 1) := by decide +kernel
theorem dX9_known_34 : decode cX9_known 34 = .ok (.goto 4, 3) := by decide +kernel
theorem dX9_known_37 : decode cX9_known 37 = .ok (.iconst 0, 1) := by decide +kernel
theorem dX9_known_38 : decode cX9_known 38 = .ok (.ior, 1) := by decide +kernel
theorem dX9_known_39 : decode cX9_known 39 = .ok (.istore_n 2, 1) := by decide +kernel
theorem dX9_known_40 : decode cX9_known 40 = .ok (.iinc 3 1, 3) := by decide +kernel
theorem dX9_known_43 : decode cX9_known 43 = .ok (.goto (-39), 3) := by decide +kernel
theorem dX9_known_46 : decode cX9_known 46 = .ok (.iload_n 2, 1) := by decide +kernel
theorem dX9_known_47 : decode cX9_known 47 = .ok (.ireturn, 1) := by decide +kernel
theorem dX9_learnsIn_0 : decode cX9_learnsIn 0 = .ok (.aload_n 0, 1) := by decide +kernel
theorem dX9_learnsIn_1 : decode cX9_learnsIn 1 = .ok (.aload_n 0, 1) := by decide +kernel
theorem dX9_learnsIn_2 : decode cX9_learnsIn 2 = .ok (.iload_n 1, 1) := by decide +kernel
theorem dX9_learnsIn_3 : decode cX9_learnsIn 3 = .ok (.invokevirtual 281, 3) := by decide +kernel
theorem dX9_learnsIn_6 : decode cX9_learnsIn 6 = .ok (.ifCond .ne 7, 3) := by decide +kernel
theorem dX9_learnsIn_9 : decode cX9_learnsIn 9 = .ok (.iconst 1, 1) := by decide +kernel
theorem dX9_learnsIn_10 : decode cX9_learnsIn 10 = .ok (.goto 4, 3) := by decide +kernel
theorem dX9_learnsIn_13 : decode cX9_learnsIn 13 = .ok (.iconst 0, 1) := by decide +kernel
theorem dX9_learnsIn_14 : decode cX9_learnsIn 14 = .ok (.iload_n 2, 1) := by decide +kernel
theorem dX9_learnsIn_15 : decode cX9_learnsIn 15 = .ok (.iconst 0, 1) := by decide +kernel
theorem dX9_learnsIn_16 : decode cX9_learnsIn 16 = .ok (.sipush 500, 3) := by decide +kernel
theorem dX9_learnsIn_19 : decode cX9_learnsIn 19 = .ok (.invokestatic 46, 3) := by decide +kernel
theorem dX9_learnsIn_22 : decode cX9_learnsIn 22 = .ok (.ifCond .ne 7, 3) := by decide +kernel
theorem dX9_learnsIn_25 : decode cX9_learnsIn 25 = .ok (.iconst 1, 1) := by decide +kernel
theorem dX9_learnsIn_26 : decode cX9_learnsIn 26 = .ok (.goto 4, 3) := by decide +kernel
theorem dX9_learnsIn_29 : decode cX9_learnsIn 29 = .ok (.iconst 0, 1) := by decide +kernel
theorem dX9_learnsIn_30 : decode cX9_learnsIn 30 = .ok (.invokevirtual 284, 3) := by decide +kernel
theorem dX9_learnsIn_33 : decode cX9_learnsIn 33 = .ok (.ifCond .eq 5, 3) := by decide +kernel
theorem dX9_learnsIn_36 : decode cX9_learnsIn 36 = .ok (.iconst 0, 1) := by decide +kernel
theorem dX9_learnsIn_37 : decode cX9_learnsIn 37 = .ok (.ireturn, 1) := by decide +kernel
theorem dX9_learnsIn_38 : decode cX9_learnsIn 38 = .ok (.aload_n 0, 1) := by decide +kernel
theorem dX9_learnsIn_39 : decode cX9_learnsIn 39 = .ok (.iload_n 1, 1) := by decide +kernel
theorem dX9_learnsIn_40 : decode cX9_learnsIn 40 = .ok (.invokevirtual 317, 3) := by decide +kernel
theorem dX9_learnsIn_43 : decode cX9_learnsIn 43 = .ok (.istore_n 3, 1) := by decide +kernel
theorem dX9_learnsIn_44 : decode cX9_learnsIn 44 = .ok (.aload_n 0, 1) := by decide +kernel
theorem dX9_learnsIn_45 : decode cX9_learnsIn 45 = .ok (.invokevirtual 302, 3) := by decide +kernel
theorem dX9_learnsIn_48 : decode cX9_learnsIn 48 = .ok (.aload_n 0, 1) := by decide +kernel
theorem dX9_learnsIn_49 : decode cX9_learnsIn 49 = .ok (.iload_n 2, 1) := by decide +kernel
theorem dX9_learnsIn_50 : decode cX9_learnsIn 50 = .ok (.invokevirtual 238, 3) := by decide +kernel
theorem dX9_learnsIn_53 : decode cX9_learnsIn 53 = .ok (.pop, 1) := by decide +kernel
theorem dX9_learnsIn_54 : decode cX9_learnsIn 54 = .ok (.aload_n 0, 1) := by decide +kernel
theorem dX9_learnsIn_55 : decode cX9_learnsIn 55 = .ok (.iload_n 1, 1) := by decide +kernel
theorem dX9_learnsIn_56 : decode cX9_learnsIn 56 = .ok (.invokevirtual 317, 3) := by decide +kernel
theorem dX9_learnsIn_59 : decode cX9_learnsIn 59 = .ok (.istore 4, 2) := by decide +kernel
theorem dX9_learnsIn_61 : decode cX9_learnsIn 61 = .ok (.aload_n 0, 1) := by decide +kernel
theorem dX9_learnsIn_62 : decode cX9_learnsIn 62 = .ok (.invokevirtual 308, 3) := by decide +kernel
theorem dX9_learnsIn_65 : decode cX9_learnsIn 65 = .ok (.iload 4, 2) := by decide +kernel
theorem dX9_learnsIn_67 : decode cX9_learnsIn 67 = .ok (.iload_n 3, 1) := by decide +kernel
theorem dX9_learnsIn_68 : decode cX9_learnsIn 68 = .ok (.iconst (-1), 1) := by decide +kernel
theorem dX9_learnsIn_69 : decode cX9_learnsIn 69 = .ok (.ixor, 1) := by decide +kernel
theorem dX9_learnsIn_70 : decode cX9_learnsIn 70 = .ok (.iand, 1) := by decide +kernel
theorem dX9_learnsIn_71 : decode cX9_learnsIn 71 = .ok (.ireturn, 1) := by decide +kernel
theorem dX9_ifRung_0 : decode cX9_ifRung 0 = .ok (.aload_n 0, 1) := by decide +kernel
theorem dX9_ifRung_1 : decode cX9_ifRung 1 = .ok (.aload_n 0, 1) := by decide +kernel
theorem dX9_ifRung_2 : decode cX9_ifRung 2 = .ok (.iload_n 1, 1) := by decide +kernel
theorem dX9_ifRung_3 : decode cX9_ifRung 3 = .ok (.invokevirtual 281, 3) := by decide +kernel
theorem dX9_ifRung_6 : decode cX9_ifRung 6 = .ok (.ifCond .ne 7, 3) := by decide +kernel
theorem dX9_ifRung_9 : decode cX9_ifRung 9 = .ok (.iconst 1, 1) := by decide +kernel
theorem dX9_ifRung_10 : decode cX9_ifRung 10 = .ok (.goto 4, 3) := by decide +kernel
theorem dX9_ifRung_13 : decode cX9_ifRung 13 = .ok (.iconst 0, 1) := by decide +kernel
theorem dX9_ifRung_14 : decode cX9_ifRung 14 = .ok (.invokevirtual 262, 3) := by decide +kernel
theorem dX9_ifRung_17 : decode cX9_ifRung 17 = .ok (.ifCond .eq 7, 3) := by decide +kernel
theorem dX9_ifRung_20 : decode cX9_ifRung 20 = .ok (.iconst 0, 1) := by decide +kernel
theorem dX9_ifRung_21 : decode cX9_ifRung 21 = .ok (.goto 8, 3) := by decide +kernel
theorem dX9_ifRung_24 : decode cX9_ifRung 24 = .ok (.aload_n 0, 1) := by decide +kernel
theorem dX9_ifRung_25 : decode cX9_ifRung 25 = .ok (.iload_n 1, 1) := by decide +kernel
theorem dX9_ifRung_26 : decode cX9_ifRung 26 = .ok (.invokevirtual 105, 3) := by decide +kernel
theorem dX9_ifRung_29 : decode cX9_ifRung 29 = .ok (.ireturn, 1) := by decide +kernel
theorem dX9_balance_0 : decode cX9_balance 0 = .ok (.aload_n 0, 1) := by decide +kernel
theorem dX9_balance_1 : decode cX9_balance 1 = .ok (.getfield 7, 3) := by decide +kernel
theorem dX9_balance_4 : decode cX9_balance 4 = .ok (.bipush 46, 2) := by decide +kernel
theorem dX9_balance_6 : decode cX9_balance 6 = .ok (.iaload, 1) := by decide +kernel
theorem dX9_balance_7 : decode cX9_balance 7 = .ok (.aload_n 0, 1) := by decide +kernel
theorem dX9_balance_8 : decode cX9_balance 8 = .ok (.getfield 7, 3) := by decide +kernel
theorem dX9_balance_11 : decode cX9_balance 11 = .ok (.bipush 47, 2) := by decide +kernel
theorem dX9_balance_13 : decode cX9_balance 13 = .ok (.iaload, 1) := by decide +kernel
theorem dX9_balance_14 : decode cX9_balance 14 = .ok (.isub, 1) := by decide +kernel
theorem dX9_balance_15 : decode cX9_balance 15 = .ok (.aload_n 0, 1) := by decide +kernel
theorem dX9_balance_16 : decode cX9_balance 16 = .ok (.invokevirtual 269, 3) := by decide +kernel
theorem dX9_balance_19 : decode cX9_balance 19 = .ok (.isub, 1) := by decide +kernel
theorem dX9_balance_20 : decode cX9_balance 20 = .ok (.aload_n 0, 1) := by decide +kernel
theorem dX9_balance_21 : decode cX9_balance 21 = .ok (.getfield 7, 3) := by decide +kernel
theorem dX9_balance_24 : decode cX9_balance 24 = .ok (.bipush 48, 2) := by decide +kernel
theorem dX9_balance_26 : decode cX9_balance 26 = .ok (.iaload, 1) := by decide +kernel
theorem dX9_balance_27 : decode cX9_balance 27 = .ok (.iadd, 1) := by decide +kernel
theorem dX9_balance_28 : decode cX9_balance 28 = .ok (.aload_n 0, 1) := by decide +kernel
theorem dX9_balance_29 : decode cX9_balance 29 = .ok (.getfield 7, 3) := by decide +kernel
theorem dX9_balance_32 : decode cX9_balance 32 = .ok (.bipush 49, 2) := by decide +kernel
theorem dX9_balance_34 : decode cX9_balance 34 = .ok (.iaload, 1) := by decide +kernel
theorem dX9_balance_35 : decode cX9_balance 35 = .ok (.isub, 1) := by decide +kernel
theorem dX9_balance_36 : decode cX9_balance 36 = .ok (.aload_n 0, 1) := by decide +kernel
theorem dX9_balance_37 : decode cX9_balance 37 = .ok (.getfield 7, 3) := by decide +kernel
theorem dX9_balance_40 : decode cX9_balance 40 = .ok (.bipush 13, 2) := by decide +kernel
theorem dX9_balance_42 : decode cX9_balance 42 = .ok (.iaload, 1) := by decide +kernel
theorem dX9_balance_43 : decode cX9_balance 43 = .ok (.isub, 1) := by decide +kernel
theorem dX9_balance_44 : decode cX9_balance 44 = .ok (.ireturn, 1) := by decide +kernel
theorem dX9_account_0 : decode cX9_account 0 = .ok (.aload_n 0, 1) := by decide +kernel
theorem dX9_account_1 : decode cX9_account 1 = .ok (.iload_n 1, 1) := by decide +kernel
theorem dX9_account_2 : decode cX9_account 2 = .ok (.iconst 0, 1) := by decide +kernel
theorem dX9_account_3 : decode cX9_account 3 = .ok (.bipush 10, 2) := by decide +kernel
theorem dX9_account_5 : decode cX9_account 5 = .ok (.invokestatic 46, 3) := by decide +kernel
theorem dX9_account_8 : decode cX9_account 8 = .ok (.ifCond .ne 7, 3) := by decide +kernel
theorem dX9_account_11 : decode cX9_account 11 = .ok (.iconst 1, 1) := by decide +kernel
theorem dX9_account_12 : decode cX9_account 12 = .ok (.goto 4, 3) := by decide +kernel
theorem dX9_account_15 : decode cX9_account 15 = .ok (.iconst 0, 1) := by decide +kernel
theorem dX9_account_16 : decode cX9_account 16 = .ok (.invokevirtual 262, 3) := by decide +kernel
theorem dX9_account_19 : decode cX9_account 19 = .ok (.ifCond .eq 7, 3) := by decide +kernel
theorem dX9_account_22 : decode cX9_account 22 = .ok (.iconst 0, 1) := by decide +kernel
theorem dX9_account_23 : decode cX9_account 23 = .ok (.goto 25, 3) := by decide +kernel
theorem dX9_account_26 : decode cX9_account 26 = .ok (.iload_n 1, 1) := by decide +kernel
theorem dX9_account_27 : decode cX9_account 27 = .ok (.bipush 10, 2) := by decide +kernel
theorem dX9_account_29 : decode cX9_account 29 = .ok (.if_icmp .ge 15, 3) := by decide +kernel
theorem dX9_account_32 : decode cX9_account 32 = .ok (.aload_n 0, 1) := by decide +kernel
theorem dX9_account_33 : decode cX9_account 33 = .ok (.getfield 7, 3) := by decide +kernel
theorem dX9_account_36 : decode cX9_account 36 = .ok (.bipush 42, 2) := by decide +kernel
theorem dX9_account_38 : decode cX9_account 38 = .ok (.iload_n 1, 1) := by decide +kernel
theorem dX9_account_39 : decode cX9_account 39 = .ok (.iadd, 1) := by decide +kernel
theorem dX9_account_40 : decode cX9_account 40 = .ok (.iaload, 1) := by decide +kernel
theorem dX9_account_41 : decode cX9_account 41 = .ok (.goto 7, 3) := by decide +kernel
theorem dX9_account_44 : decode cX9_account 44 = .ok (.aload_n 0, 1) := by decide +kernel
theorem dX9_account_45 : decode cX9_account 45 = .ok (.invokevirtual 320, 3) := by decide +kernel
theorem dX9_account_48 : decode cX9_account 48 = .ok (.ireturn, 1) := by decide +kernel
theorem dX9_meanCall_0 : decode cX9_meanCall 0 = .ok (.aload_n 0, 1) := by decide +kernel
theorem dX9_meanCall_1 : decode cX9_meanCall 1 = .ok (.iconst 0, 1) := by decide +kernel
theorem dX9_meanCall_2 : decode cX9_meanCall 2 = .ok (.putfield 42, 3) := by decide +kernel
theorem dX9_meanCall_5 : decode cX9_meanCall 5 = .ok (.aload_n 0, 1) := by decide +kernel
theorem dX9_meanCall_6 : decode cX9_meanCall 6 = .ok (.getfield 7, 3) := by decide +kernel
theorem dX9_meanCall_9 : decode cX9_meanCall 9 = .ok (.bipush 43, 2) := by decide +kernel
theorem dX9_meanCall_11 : decode cX9_meanCall 11 = .ok (.iaload, 1) := by decide +kernel
theorem dX9_meanCall_12 : decode cX9_meanCall 12 = .ok (.ifCond .ne 7, 3) := by decide +kernel
theorem dX9_meanCall_15 : decode cX9_meanCall 15 = .ok (.dconst 0, 1) := by decide +kernel
theorem dX9_meanCall_16 : decode cX9_meanCall 16 = .ok (.goto 20, 3) := by decide +kernel
theorem dX9_meanCall_19 : decode cX9_meanCall 19 = .ok (.aload_n 0, 1) := by decide +kernel
theorem dX9_meanCall_20 : decode cX9_meanCall 20 = .ok (.getfield 7, 3) := by decide +kernel
theorem dX9_meanCall_23 : decode cX9_meanCall 23 = .ok (.bipush 41, 2) := by decide +kernel
theorem dX9_meanCall_25 : decode cX9_meanCall 25 = .ok (.iaload, 1) := by decide +kernel
theorem dX9_meanCall_26 : decode cX9_meanCall 26 = .ok (.i2d, 1) := by decide +kernel
theorem dX9_meanCall_27 : decode cX9_meanCall 27 = .ok (.aload_n 0, 1) := by decide +kernel
theorem dX9_meanCall_28 : decode cX9_meanCall 28 = .ok (.getfield 7, 3) := by decide +kernel
theorem dX9_meanCall_31 : decode cX9_meanCall 31 = .ok (.bipush 43, 2) := by decide +kernel
theorem dX9_meanCall_33 : decode cX9_meanCall 33 = .ok (.iaload, 1) := by decide +kernel
theorem dX9_meanCall_34 : decode cX9_meanCall 34 = .ok (.i2d, 1) := by decide +kernel
theorem dX9_meanCall_35 : decode cX9_meanCall 35 = .ok (.ddiv, 1) := by decide +kernel
theorem dX9_meanCall_36 : decode cX9_meanCall 36 = .ok (.dreturn, 1) := by decide +kernel
theorem dX9_busyShare_0 : decode cX9_busyShare 0 = .ok (.aload_n 0, 1) := by decide +kernel
theorem dX9_busyShare_1 : decode cX9_busyShare 1 = .ok (.iconst 0, 1) := by decide +kernel
theorem dX9_busyShare_2 : decode cX9_busyShare 2 = .ok (.putfield 42, 3) := by decide +kernel
theorem dX9_busyShare_5 : decode cX9_busyShare 5 = .ok (.aload_n 0, 1) := by decide +kernel
theorem dX9_busyShare_6 : decode cX9_busyShare 6 = .ok (.getfield 7, 3) := by decide +kernel
theorem dX9_busyShare_9 : decode cX9_busyShare 9 = .ok (.bipush 42, 2) := by decide +kernel
theorem dX9_busyShare_11 : decode cX9_busyShare 11 = .ok (.iaload, 1) := by decide +kernel
theorem dX9_busyShare_12 : decode cX9_busyShare 12 = .ok (.ifCond .ne 7, 3) := by decide +kernel
theorem dX9_busyShare_15 : decode cX9_busyShare 15 = .ok (.fconst 0, 1) := by decide +kernel
theorem dX9_busyShare_16 : decode cX9_busyShare 16 = .ok (.goto 20, 3) := by decide +kernel
theorem dX9_busyShare_19 : decode cX9_busyShare 19 = .ok (.aload_n 0, 1) := by decide +kernel
theorem dX9_busyShare_20 : decode cX9_busyShare 20 = .ok (.getfield 7, 3) := by decide +kernel
theorem dX9_busyShare_23 : decode cX9_busyShare 23 = .ok (.bipush 45, 2) := by decide +kernel
theorem dX9_busyShare_25 : decode cX9_busyShare 25 = .ok (.iaload, 1) := by decide +kernel
theorem dX9_busyShare_26 : decode cX9_busyShare 26 = .ok (.i2f, 1) := by decide +kernel
theorem dX9_busyShare_27 : decode cX9_busyShare 27 = .ok (.aload_n 0, 1) := by decide +kernel
theorem dX9_busyShare_28 : decode cX9_busyShare 28 = .ok (.getfield 7, 3) := by decide +kernel
theorem dX9_busyShare_31 : decode cX9_busyShare 31 = .ok (.bipush 42, 2) := by decide +kernel
theorem dX9_busyShare_33 : decode cX9_busyShare 33 = .ok (.iaload, 1) := by decide +kernel
theorem dX9_busyShare_34 : decode cX9_busyShare 34 = .ok (.i2f, 1) := by decide +kernel
theorem dX9_busyShare_35 : decode cX9_busyShare 35 = .ok (.fdiv, 1) := by decide +kernel
theorem dX9_busyShare_36 : decode cX9_busyShare 36 = .ok (.freturn, 1) := by decide +kernel
theorem dX9_write_0 : decode cX9_write 0 = .ok (.aload_n 0, 1) := by decide +kernel
theorem dX9_write_1 : decode cX9_write 1 = .ok (.getfield 31, 3) := by decide +kernel
theorem dX9_write_4 : decode cX9_write 4 = .ok (.aload_n 0, 1) := by decide +kernel
theorem dX9_write_5 : decode cX9_write 5 = .ok (.getfield 272, 3) := by decide +kernel
theorem dX9_write_8 : decode cX9_write 8 = .ok (.iload_n 1, 1) := by decide +kernel
theorem dX9_write_9 : decode cX9_write 9 = .ok (.i2c, 1) := by decide +kernel
theorem dX9_write_10 : decode cX9_write 10 = .ok (.castore, 1) := by decide +kernel
theorem dX9_write_11 : decode cX9_write 11 = .ok (.aload_n 0, 1) := by decide +kernel
theorem dX9_write_12 : decode cX9_write 12 = .ok (.dup, 1) := by decide +kernel
theorem dX9_write_13 : decode cX9_write 13 = .ok (.getfield 272, 3) := by decide +kernel
theorem dX9_write_16 : decode cX9_write 16 = .ok (.iconst 1, 1) := by decide +kernel
theorem dX9_write_17 : decode cX9_write 17 = .ok (.iadd, 1) := by decide +kernel
theorem dX9_write_18 : decode cX9_write 18 = .ok (.putfield 272, 3) := by decide +kernel
theorem dX9_write_21 : decode cX9_write 21 = .ok (.return_, 1) := by decide +kernel
theorem dX9_writeNumber_0 : decode cX9_writeNumber 0 = .ok (.iload_n 1, 1) := by decide +kernel
theorem dX9_writeNumber_1 : decode cX9_writeNumber 1 = .ok (.bipush 9, 2) := by decide +kernel
theorem dX9_writeNumber_3 : decode cX9_writeNumber 3 = .ok (.if_icmp .le 11, 3) := by decide +kernel
theorem dX9_writeNumber_6 : decode cX9_writeNumber 6 = .ok (.aload_n 0, 1) := by decide +kernel
theorem dX9_writeNumber_7 : decode cX9_writeNumber 7 = .ok (.iload_n 1, 1) := by decide +kernel
theorem dX9_writeNumber_8 : decode cX9_writeNumber 8 = .ok (.bipush 10, 2) := by decide +kernel
theorem dX9_writeNumber_10 : decode cX9_writeNumber 10 = .ok (.idiv, 1) := by decide +kernel
theorem dX9_writeNumber_11 : decode cX9_writeNumber 11 = .ok (.invokevirtual 323, 3) := by decide +kernel
theorem dX9_writeNumber_14 : decode cX9_writeNumber 14 = .ok (.aload_n 0, 1) := by decide +kernel
theorem dX9_writeNumber_15 : decode cX9_writeNumber 15 = .ok (.bipush 48, 2) := by decide +kernel
theorem dX9_writeNumber_17 : decode cX9_writeNumber 17 = .ok (.iload_n 1, 1) := by decide +kernel
theorem dX9_writeNumber_18 : decode cX9_writeNumber 18 = .ok (.bipush 10, 2) := by decide +kernel
theorem dX9_writeNumber_20 : decode cX9_writeNumber 20 = .ok (.irem, 1) := by decide +kernel
theorem dX9_writeNumber_21 : decode cX9_writeNumber 21 = .ok (.iadd, 1) := by decide +kernel
theorem dX9_writeNumber_22 : decode cX9_writeNumber 22 = .ok (.invokevirtual 326, 3) := by decide +kernel
theorem dX9_writeNumber_25 : decode cX9_writeNumber 25 = .ok (.return_, 1) := by decide +kernel
theorem dX9_writeFlat_0 : decode cX9_writeFlat 0 = .ok (.aload_n 0, 1) := by decide +kernel
theorem dX9_writeFlat_1 : decode cX9_writeFlat 1 = .ok (.iload_n 1, 1) := by decide +kernel
theorem dX9_writeFlat_2 : decode cX9_writeFlat 2 = .ok (.invokevirtual 323, 3) := by decide +kernel
theorem dX9_writeFlat_5 : decode cX9_writeFlat 5 = .ok (.aload_n 0, 1) := by decide +kernel
theorem dX9_writeFlat_6 : decode cX9_writeFlat 6 = .ok (.iload_n 1, 1) := by decide +kernel
theorem dX9_writeFlat_7 : decode cX9_writeFlat 7 = .ok (.iconst 2, 1) := by decide +kernel
theorem dX9_writeFlat_8 : decode cX9_writeFlat 8 = .ok (.invokevirtual 50, 3) := by decide +kernel
theorem dX9_writeFlat_11 : decode cX9_writeFlat 11 = .ok (.tableswitch 71 0 2 #[25, 34, 53], 25) := by decide +kernel
theorem dX9_writeFlat_36 : decode cX9_writeFlat 36 = .ok (.aload_n 0, 1) := by decide +kernel
theorem dX9_writeFlat_37 : decode cX9_writeFlat 37 = .ok (.bipush 46, 2) := by decide +kernel
theorem dX9_writeFlat_39 : decode cX9_writeFlat 39 = .ok (.invokevirtual 326, 3) := by decide +kernel
theorem dX9_writeFlat_42 : decode cX9_writeFlat 42 = .ok (.goto 56, 3) := by decide +kernel
theorem dX9_writeFlat_45 : decode cX9_writeFlat 45 = .ok (.aload_n 0, 1) := by decide +kernel
theorem dX9_writeFlat_46 : decode cX9_writeFlat 46 = .ok (.bipush 60, 2) := by decide +kernel
theorem dX9_writeFlat_48 : decode cX9_writeFlat 48 = .ok (.invokevirtual 326, 3) := by decide +kernel
theorem dX9_writeFlat_51 : decode cX9_writeFlat 51 = .ok (.aload_n 0, 1) := by decide +kernel
theorem dX9_writeFlat_52 : decode cX9_writeFlat 52 = .ok (.aload_n 0, 1) := by decide +kernel
theorem dX9_writeFlat_53 : decode cX9_writeFlat 53 = .ok (.iload_n 1, 1) := by decide +kernel
theorem dX9_writeFlat_54 : decode cX9_writeFlat 54 = .ok (.iconst 3, 1) := by decide +kernel
theorem dX9_writeFlat_55 : decode cX9_writeFlat 55 = .ok (.invokevirtual 50, 3) := by decide +kernel
theorem dX9_writeFlat_58 : decode cX9_writeFlat 58 = .ok (.invokevirtual 323, 3) := by decide +kernel
theorem dX9_writeFlat_61 : decode cX9_writeFlat 61 = .ok (.goto 37, 3) := by decide +kernel
theorem dX9_writeFlat_64 : decode cX9_writeFlat 64 = .ok (.aload_n 0, 1) := by decide +kernel
theorem dX9_writeFlat_65 : decode cX9_writeFlat 65 = .ok (.bipush 35, 2) := by decide +kernel
theorem dX9_writeFlat_67 : decode cX9_writeFlat 67 = .ok (.invokevirtual 326, 3) := by decide +kernel
theorem dX9_writeFlat_70 : decode cX9_writeFlat 70 = .ok (.aload_n 0, 1) := by decide +kernel
theorem dX9_writeFlat_71 : decode cX9_writeFlat 71 = .ok (.aload_n 0, 1) := by decide +kernel
theorem dX9_writeFlat_72 : decode cX9_writeFlat 72 = .ok (.iload_n 1, 1) := by decide +kernel
theorem dX9_writeFlat_73 : decode cX9_writeFlat 73 = .ok (.invokevirtual 54, 3) := by decide +kernel
theorem dX9_writeFlat_76 : decode cX9_writeFlat 76 = .ok (.invokevirtual 323, 3) := by decide +kernel
theorem dX9_writeFlat_79 : decode cX9_writeFlat 79 = .ok (.goto 19, 3) := by decide +kernel
theorem dX9_writeFlat_82 : decode cX9_writeFlat 82 = .ok (.aload_n 0, 1) := by decide +kernel
theorem dX9_writeFlat_83 : decode cX9_writeFlat 83 = .ok (.bipush 33, 2) := by decide +kernel
theorem dX9_writeFlat_85 : decode cX9_writeFlat 85 = .ok (.invokevirtual 326, 3) := by decide +kernel
theorem dX9_writeFlat_88 : decode cX9_writeFlat 88 = .ok (.aload_n 0, 1) := by decide +kernel
theorem dX9_writeFlat_89 : decode cX9_writeFlat 89 = .ok (.aload_n 0, 1) := by decide +kernel
theorem dX9_writeFlat_90 : decode cX9_writeFlat 90 = .ok (.getfield 7, 3) := by decide +kernel
theorem dX9_writeFlat_93 : decode cX9_writeFlat 93 = .ok (.iconst 5, 1) := by decide +kernel
theorem dX9_writeFlat_94 : decode cX9_writeFlat 94 = .ok (.iaload, 1) := by decide +kernel
theorem dX9_writeFlat_95 : decode cX9_writeFlat 95 = .ok (.invokevirtual 323, 3) := by decide +kernel
theorem dX9_writeFlat_98 : decode cX9_writeFlat 98 = .ok (.return_, 1) := by decide +kernel
theorem dX9_writeHouse_0 : decode cX9_writeHouse 0 = .ok (.aload_n 0, 1) := by decide +kernel
theorem dX9_writeHouse_1 : decode cX9_writeHouse 1 = .ok (.iconst 0, 1) := by decide +kernel
theorem dX9_writeHouse_2 : decode cX9_writeHouse 2 = .ok (.putfield 42, 3) := by decide +kernel
theorem dX9_writeHouse_5 : decode cX9_writeHouse 5 = .ok (.aload_n 0, 1) := by decide +kernel
theorem dX9_writeHouse_6 : decode cX9_writeHouse 6 = .ok (.iconst 0, 1) := by decide +kernel
theorem dX9_writeHouse_7 : decode cX9_writeHouse 7 = .ok (.putfield 272, 3) := by decide +kernel
theorem dX9_writeHouse_10 : decode cX9_writeHouse 10 = .ok (.iconst 0, 1) := by decide +kernel
theorem dX9_writeHouse_11 : decode cX9_writeHouse 11 = .ok (.istore_n 1, 1) := by decide +kernel
theorem dX9_writeHouse_12 : decode cX9_writeHouse 12 = .ok (.iload_n 1, 1) := by decide +kernel
theorem dX9_writeHouse_13 : decode cX9_writeHouse 13 = .ok (.aload_n 0, 1) := by decide +kernel
theorem dX9_writeHouse_14 : decode cX9_writeHouse 14 = .ok (.getfield 7, 3) := by decide +kernel
theorem dX9_writeHouse_17 : decode cX9_writeHouse 17 = .ok (.iconst 0, 1) := by decide +kernel
theorem dX9_writeHouse_18 : decode cX9_writeHouse 18 = .ok (.iaload, 1) := by decide +kernel
theorem dX9_writeHouse_19 : decode cX9_writeHouse 19 = .ok (.if_icmp .ge 24, 3) := by decide +kernel
theorem dX9_writeHouse_22 : decode cX9_writeHouse 22 = .ok (.iload_n 1, 1) := by decide +kernel
theorem dX9_writeHouse_23 : decode cX9_writeHouse 23 = .ok (.ifCond .le 9, 3) := by decide +kernel
theorem dX9_writeHouse_26 : decode cX9_writeHouse 26 = .ok (.aload_n 0, 1) := by decide +kernel
theorem dX9_writeHouse_27 : decode cX9_writeHouse 27 = .ok (.bipush 32, 2) := by decide +kernel
theorem dX9_writeHouse_29 : decode cX9_writeHouse 29 = .ok (.invokevirtual 326, 3) := by decide +kernel
theorem dX9_writeHouse_32 : decode cX9_writeHouse 32 = .ok (.aload_n 0, 1) := by decide +kernel
theorem dX9_writeHouse_33 : decode cX9_writeHouse 33 = .ok (.iload_n 1, 1) := by decide +kernel
theorem dX9_writeHouse_34 : decode cX9_writeHouse 34 = .ok (.invokevirtual 329, 3) := by decide +kernel
theorem dX9_writeHouse_37 : decode cX9_writeHouse 37 = .ok (.iinc 1 1, 3) := by decide +kernel
theorem dX9_writeHouse_40 : decode cX9_writeHouse 40 = .ok (.goto (-28), 3) := by decide +kernel
theorem dX9_writeHouse_43 : decode cX9_writeHouse 43 = .ok (.aload_n 0, 1) := by decide +kernel
theorem dX9_writeHouse_44 : decode cX9_writeHouse 44 = .ok (.getfield 272, 3) := by decide +kernel
theorem dX9_writeHouse_47 : decode cX9_writeHouse 47 = .ok (.ireturn, 1) := by decide +kernel
theorem dX9_writeSlate_0 : decode cX9_writeSlate 0 = .ok (.aload_n 0, 1) := by decide +kernel
theorem dX9_writeSlate_1 : decode cX9_writeSlate 1 = .ok (.iconst 0, 1) := by decide +kernel
theorem dX9_writeSlate_2 : decode cX9_writeSlate 2 = .ok (.putfield 42, 3) := by decide +kernel
theorem dX9_writeSlate_5 : decode cX9_writeSlate 5 = .ok (.aload_n 0, 1) := by decide +kernel
theorem dX9_writeSlate_6 : decode cX9_writeSlate 6 = .ok (.iconst 0, 1) := by decide +kernel
theorem dX9_writeSlate_7 : decode cX9_writeSlate 7 = .ok (.putfield 272, 3) := by decide +kernel
theorem dX9_writeSlate_10 : decode cX9_writeSlate 10 = .ok (.iconst 0, 1) := by decide +kernel
theorem dX9_writeSlate_11 : decode cX9_writeSlate 11 = .ok (.istore_n 1, 1) := by decide +kernel
theorem dX9_writeSlate_12 : decode cX9_writeSlate 12 = .ok (.iload_n 1, 1) := by decide +kernel
theorem dX9_writeSlate_13 : decode cX9_writeSlate 13 = .ok (.aload_n 0, 1) := by decide +kernel
theorem dX9_writeSlate_14 : decode cX9_writeSlate 14 = .ok (.getfield 7, 3) := by decide +kernel
theorem dX9_writeSlate_17 : decode cX9_writeSlate 17 = .ok (.bipush 13, 2) := by decide +kernel
theorem dX9_writeSlate_19 : decode cX9_writeSlate 19 = .ok (.iaload, 1) := by decide +kernel
theorem dX9_writeSlate_20 : decode cX9_writeSlate 20 = .ok (.if_icmp .ge 57, 3) := by decide +kernel
theorem dX9_writeSlate_23 : decode cX9_writeSlate 23 = .ok (.iload_n 1, 1) := by decide +kernel
theorem dX9_writeSlate_24 : decode cX9_writeSlate 24 = .ok (.ifCond .le 9, 3) := by decide +kernel
theorem dX9_writeSlate_27 : decode cX9_writeSlate 27 = .ok (.aload_n 0, 1) := by decide +kernel
theorem dX9_writeSlate_28 : decode cX9_writeSlate 28 = .ok (.bipush 32, 2) := by decide +kernel
theorem dX9_writeSlate_30 : decode cX9_writeSlate 30 = .ok (.invokevirtual 326, 3) := by decide +kernel
theorem dX9_writeSlate_33 : decode cX9_writeSlate 33 = .ok (.aload_n 0, 1) := by decide +kernel
theorem dX9_writeSlate_34 : decode cX9_writeSlate 34 = .ok (.aload_n 0, 1) := by decide +kernel
theorem dX9_writeSlate_35 : decode cX9_writeSlate 35 = .ok (.getfield 7, 3) := by decide +kernel
theorem dX9_writeSlate_38 : decode cX9_writeSlate 38 = .ok (.bipush 14, 2) := by decide +kernel
theorem dX9_writeSlate_40 : decode cX9_writeSlate 40 = .ok (.iconst 2, 1) := by decide +kernel
theorem dX9_writeSlate_41 : decode cX9_writeSlate 41 = .ok (.iload_n 1, 1) := by decide +kernel
theorem dX9_writeSlate_42 : decode cX9_writeSlate 42 = .ok (.imul, 1) := by decide +kernel
theorem dX9_writeSlate_43 : decode cX9_writeSlate 43 = .ok (.iadd, 1) := by decide +kernel
theorem dX9_writeSlate_44 : decode cX9_writeSlate 44 = .ok (.iaload, 1) := by decide +kernel
theorem dX9_writeSlate_45 : decode cX9_writeSlate 45 = .ok (.invokevirtual 323, 3) := by decide +kernel
theorem dX9_writeSlate_48 : decode cX9_writeSlate 48 = .ok (.aload_n 0, 1) := by decide +kernel
theorem dX9_writeSlate_49 : decode cX9_writeSlate 49 = .ok (.bipush 64, 2) := by decide +kernel
theorem dX9_writeSlate_51 : decode cX9_writeSlate 51 = .ok (.invokevirtual 326, 3) := by decide +kernel
theorem dX9_writeSlate_54 : decode cX9_writeSlate 54 = .ok (.aload_n 0, 1) := by decide +kernel
theorem dX9_writeSlate_55 : decode cX9_writeSlate 55 = .ok (.aload_n 0, 1) := by decide +kernel
theorem dX9_writeSlate_56 : decode cX9_writeSlate 56 = .ok (.getfield 7, 3) := by decide +kernel
theorem dX9_writeSlate_59 : decode cX9_writeSlate 59 = .ok (.bipush 14, 2) := by decide +kernel
theorem dX9_writeSlate_61 : decode cX9_writeSlate 61 = .ok (.iconst 2, 1) := by decide +kernel
theorem dX9_writeSlate_62 : decode cX9_writeSlate 62 = .ok (.iload_n 1, 1) := by decide +kernel
theorem dX9_writeSlate_63 : decode cX9_writeSlate 63 = .ok (.imul, 1) := by decide +kernel
theorem dX9_writeSlate_64 : decode cX9_writeSlate 64 = .ok (.iadd, 1) := by decide +kernel
theorem dX9_writeSlate_65 : decode cX9_writeSlate 65 = .ok (.iconst 1, 1) := by decide +kernel
theorem dX9_writeSlate_66 : decode cX9_writeSlate 66 = .ok (.iadd, 1) := by decide +kernel
theorem dX9_writeSlate_67 : decode cX9_writeSlate 67 = .ok (.iaload, 1) := by decide +kernel
theorem dX9_writeSlate_68 : decode cX9_writeSlate 68 = .ok (.invokevirtual 323, 3) := by decide +kernel
theorem dX9_writeSlate_71 : decode cX9_writeSlate 71 = .ok (.iinc 1 1, 3) := by decide +kernel
theorem dX9_writeSlate_74 : decode cX9_writeSlate 74 = .ok (.goto (-62), 3) := by decide +kernel
theorem dX9_writeSlate_77 : decode cX9_writeSlate 77 = .ok (.aload_n 0, 1) := by decide +kernel
theorem dX9_writeSlate_78 : decode cX9_writeSlate 78 = .ok (.getfield 272, 3) := by decide +kernel
theorem dX9_writeSlate_81 : decode cX9_writeSlate 81 = .ok (.ifCond .ne 9, 3) := by decide +kernel
theorem dX9_writeSlate_84 : decode cX9_writeSlate 84 = .ok (.aload_n 0, 1) := by decide +kernel
theorem dX9_writeSlate_85 : decode cX9_writeSlate 85 = .ok (.bipush 45, 2) := by decide +kernel
theorem dX9_writeSlate_87 : decode cX9_writeSlate 87 = .ok (.invokevirtual 326, 3) := by decide +kernel
theorem dX9_writeSlate_90 : decode cX9_writeSlate 90 = .ok (.aload_n 0, 1) := by decide +kernel
theorem dX9_writeSlate_91 : decode cX9_writeSlate 91 = .ok (.getfield 272, 3) := by decide +kernel
theorem dX9_writeSlate_94 : decode cX9_writeSlate 94 = .ok (.ireturn, 1) := by decide +kernel
theorem dX9_reportAt_0 : decode cX9_reportAt 0 = .ok (.aload_n 0, 1) := by decide +kernel
theorem dX9_reportAt_1 : decode cX9_reportAt 1 = .ok (.iconst 0, 1) := by decide +kernel
theorem dX9_reportAt_2 : decode cX9_reportAt 2 = .ok (.putfield 42, 3) := by decide +kernel
theorem dX9_reportAt_5 : decode cX9_reportAt 5 = .ok (.iload_n 1, 1) := by decide +kernel
theorem dX9_reportAt_6 : decode cX9_reportAt 6 = .ok (.iconst 0, 1) := by decide +kernel
theorem dX9_reportAt_7 : decode cX9_reportAt 7 = .ok (.aload_n 0, 1) := by decide +kernel
theorem dX9_reportAt_8 : decode cX9_reportAt 8 = .ok (.getfield 272, 3) := by decide +kernel
theorem dX9_reportAt_11 : decode cX9_reportAt 11 = .ok (.iconst 1, 1) := by decide +kernel
theorem dX9_reportAt_12 : decode cX9_reportAt 12 = .ok (.isub, 1) := by decide +kernel
theorem dX9_reportAt_13 : decode cX9_reportAt 13 = .ok (.invokestatic 46, 3) := by decide +kernel
theorem dX9_reportAt_16 : decode cX9_reportAt 16 = .ok (.ifCond .eq 12, 3) := by decide +kernel
theorem dX9_reportAt_19 : decode cX9_reportAt 19 = .ok (.aload_n 0, 1) := by decide +kernel
theorem dX9_reportAt_20 : decode cX9_reportAt 20 = .ok (.getfield 31, 3) := by decide +kernel
theorem dX9_reportAt_23 : decode cX9_reportAt 23 = .ok (.iload_n 1, 1) := by decide +kernel
theorem dX9_reportAt_24 : decode cX9_reportAt 24 = .ok (.caload, 1) := by decide +kernel
theorem dX9_reportAt_25 : decode cX9_reportAt 25 = .ok (.goto 4, 3) := by decide +kernel
theorem dX9_reportAt_28 : decode cX9_reportAt 28 = .ok (.iconst 0, 1) := by decide +kernel
theorem dX9_reportAt_29 : decode cX9_reportAt 29 = .ok (.ireturn, 1) := by decide +kernel
theorem dX9_begins_0 : decode cX9_begins 0 = .ok (.iconst 0, 1) := by decide +kernel
theorem dX9_begins_1 : decode cX9_begins 1 = .ok (.istore_n 1, 1) := by decide +kernel
theorem dX9_begins_2 : decode cX9_begins 2 = .ok (.iload_n 1, 1) := by decide +kernel
theorem dX9_begins_3 : decode cX9_begins 3 = .ok (.sipush 242, 3) := by decide +kernel
theorem dX9_begins_6 : decode cX9_begins 6 = .ok (.if_icmp .ge 21, 3) := by decide +kernel
theorem dX9_begins_9 : decode cX9_begins 9 = .ok (.aload_n 0, 1) := by decide +kernel
theorem dX9_begins_10 : decode cX9_begins 10 = .ok (.getfield 13, 3) := by decide +kernel
theorem dX9_begins_13 : decode cX9_begins 13 = .ok (.iload_n 1, 1) := by decide +kernel
theorem dX9_begins_14 : decode cX9_begins 14 = .ok (.aload_n 0, 1) := by decide +kernel
theorem dX9_begins_15 : decode cX9_begins 15 = .ok (.getfield 7, 3) := by decide +kernel
theorem dX9_begins_18 : decode cX9_begins 18 = .ok (.iload_n 1, 1) := by decide +kernel
theorem dX9_begins_19 : decode cX9_begins 19 = .ok (.iaload, 1) := by decide +kernel
theorem dX9_begins_20 : decode cX9_begins 20 = .ok (.iastore, 1) := by decide +kernel
theorem dX9_begins_21 : decode cX9_begins 21 = .ok (.iinc 1 1, 3) := by decide +kernel
theorem dX9_begins_24 : decode cX9_begins 24 = .ok (.goto (-22), 3) := by decide +kernel
theorem dX9_begins_27 : decode cX9_begins 27 = .ok (.return_, 1) := by decide +kernel
theorem dX9_remember_0 : decode cX9_remember 0 = .ok (.iload_n 1, 1) := by decide +kernel
theorem dX9_remember_1 : decode cX9_remember 1 = .ok (.ifCond .ge 5, 3) := by decide +kernel
theorem dX9_remember_4 : decode cX9_remember 4 = .ok (.iload_n 1, 1) := by decide +kernel
theorem dX9_remember_5 : decode cX9_remember 5 = .ok (.ireturn, 1) := by decide +kernel
theorem dX9_remember_6 : decode cX9_remember 6 = .ok (.aload_n 0, 1) := by decide +kernel
theorem dX9_remember_7 : decode cX9_remember 7 = .ok (.getfield 250, 3) := by decide +kernel
theorem dX9_remember_10 : decode cX9_remember 10 = .ok (.bipush 8, 2) := by decide +kernel
theorem dX9_remember_12 : decode cX9_remember 12 = .ok (.if_icmp .ne 46, 3) := by decide +kernel
theorem dX9_remember_15 : decode cX9_remember 15 = .ok (.sipush 242, 3) := by decide +kernel
theorem dX9_remember_18 : decode cX9_remember 18 = .ok (.istore_n 2, 1) := by decide +kernel
theorem dX9_remember_19 : decode cX9_remember 19 = .ok (.iload_n 2, 1) := by decide +kernel
theorem dX9_remember_20 : decode cX9_remember 20 = .ok (.sipush 1936, 3) := by decide +kernel
theorem dX9_remember_23 : decode cX9_remember 23 = .ok (.if_icmp .ge 25, 3) := by decide +kernel
theorem dX9_remember_26 : decode cX9_remember 26 = .ok (.aload_n 0, 1) := by decide +kernel
theorem dX9_remember_27 : decode cX9_remember 27 = .ok (.getfield 19, 3) := by decide +kernel
theorem dX9_remember_30 : decode cX9_remember 30 = .ok (.iload_n 2, 1) := by decide +kernel
theorem dX9_remember_31 : decode cX9_remember 31 = .ok (.sipush 242, 3) := by decide +kernel
theorem dX9_remember_34 : decode cX9_remember 34 = .ok (.isub, 1) := by decide +kernel
theorem dX9_remember_35 : decode cX9_remember 35 = .ok (.aload_n 0, 1) := by decide +kernel
theorem dX9_remember_36 : decode cX9_remember 36 = .ok (.getfield 19, 3) := by decide +kernel
theorem dX9_remember_39 : decode cX9_remember 39 = .ok (.iload_n 2, 1) := by decide +kernel
theorem dX9_remember_40 : decode cX9_remember 40 = .ok (.iaload, 1) := by decide +kernel
theorem dX9_remember_41 : decode cX9_remember 41 = .ok (.iastore, 1) := by decide +kernel
theorem dX9_remember_42 : decode cX9_remember 42 = .ok (.iinc 2 1, 3) := by decide +kernel
theorem dX9_remember_45 : decode cX9_remember 45 = .ok (.goto (-26), 3) := by decide +kernel
theorem dX9_remember_48 : decode cX9_remember 48 = .ok (.aload_n 0, 1) := by decide +kernel
theorem dX9_remember_49 : decode cX9_remember 49 = .ok (.dup, 1) := by decide +kernel
theorem dX9_remember_50 : decode cX9_remember 50 = .ok (.getfield 250, 3) := by decide +kernel
theorem dX9_remember_53 : decode cX9_remember 53 = .ok (.iconst 1, 1) := by decide +kernel
theorem dX9_remember_54 : decode cX9_remember 54 = .ok (.isub, 1) := by decide +kernel
theorem dX9_remember_55 : decode cX9_remember 55 = .ok (.putfield 250, 3) := by decide +kernel
theorem dX9_remember_58 : decode cX9_remember 58 = .ok (.iconst 0, 1) := by decide +kernel
theorem dX9_remember_59 : decode cX9_remember 59 = .ok (.istore_n 2, 1) := by decide +kernel
theorem dX9_remember_60 : decode cX9_remember 60 = .ok (.iload_n 2, 1) := by decide +kernel
theorem dX9_remember_61 : decode cX9_remember 61 = .ok (.sipush 242, 3) := by decide +kernel
theorem dX9_remember_64 : decode cX9_remember 64 = .ok (.if_icmp .ge 30, 3) := by decide +kernel
theorem dX9_remember_67 : decode cX9_remember 67 = .ok (.aload_n 0, 1) := by decide +kernel
theorem dX9_remember_68 : decode cX9_remember 68 = .ok (.getfield 19, 3) := by decide +kernel
theorem dX9_remember_71 : decode cX9_remember 71 = .ok (.sipush 242, 3) := by decide +kernel
theorem dX9_remember_74 : decode cX9_remember 74 = .ok (.aload_n 0, 1) := by decide +kernel
theorem dX9_remember_75 : decode cX9_remember 75 = .ok (.getfield 250, 3) := by decide +kernel
theorem dX9_remember_78 : decode cX9_remember 78 = .ok (.imul, 1) := by decide +kernel
theorem dX9_remember_79 : decode cX9_remember 79 = .ok (.iload_n 2, 1) := by decide +kernel
theorem dX9_remember_80 : decode cX9_remember 80 = .ok (.iadd, 1) := by decide +kernel
theorem dX9_remember_81 : decode cX9_remember 81 = .ok (.aload_n 0, 1) := by decide +kernel
theorem dX9_remember_82 : decode cX9_remember 82 = .ok (.getfield 13, 3) := by decide +kernel
theorem dX9_remember_85 : decode cX9_remember 85 = .ok (.iload_n 2, 1) := by decide +kernel
theorem dX9_remember_86 : decode cX9_remember 86 = .ok (.iaload, 1) := by decide +kernel
theorem dX9_remember_87 : decode cX9_remember 87 = .ok (.iastore, 1) := by decide +kernel
theorem dX9_remember_88 : decode cX9_remember 88 = .ok (.iinc 2 1, 3) := by decide +kernel
theorem dX9_remember_91 : decode cX9_remember 91 = .ok (.goto (-31), 3) := by decide +kernel
theorem dX9_remember_94 : decode cX9_remember 94 = .ok (.aload_n 0, 1) := by decide +kernel
theorem dX9_remember_95 : decode cX9_remember 95 = .ok (.dup, 1) := by decide +kernel
theorem dX9_remember_96 : decode cX9_remember 96 = .ok (.getfield 250, 3) := by decide +kernel
theorem dX9_remember_99 : decode cX9_remember 99 = .ok (.iconst 1, 1) := by decide +kernel
theorem dX9_remember_100 : decode cX9_remember 100 = .ok (.iadd, 1) := by decide +kernel
theorem dX9_remember_101 : decode cX9_remember 101 = .ok (.putfield 250, 3) := by decide +kernel
theorem dX9_remember_104 : decode cX9_remember 104 = .ok (.iload_n 1, 1) := by decide +kernel
theorem dX9_remember_105 : decode cX9_remember 105 = .ok (.ireturn, 1) := by decide +kernel
theorem dX9_want_0 : decode cX9_want 0 = .ok (.aload_n 0, 1) := by decide +kernel
theorem dX9_want_1 : decode cX9_want 1 = .ok (.aload_n 0, 1) := by decide +kernel
theorem dX9_want_2 : decode cX9_want 2 = .ok (.iload_n 1, 1) := by decide +kernel
theorem dX9_want_3 : decode cX9_want 3 = .ok (.invokevirtual 281, 3) := by decide +kernel
theorem dX9_want_6 : decode cX9_want 6 = .ok (.ifCond .ne 7, 3) := by decide +kernel
theorem dX9_want_9 : decode cX9_want 9 = .ok (.iconst 1, 1) := by decide +kernel
theorem dX9_want_10 : decode cX9_want 10 = .ok (.goto 4, 3) := by decide +kernel
theorem dX9_want_13 : decode cX9_want 13 = .ok (.iconst 0, 1) := by decide +kernel
theorem dX9_want_14 : decode cX9_want 14 = .ok (.iload_n 2, 1) := by decide +kernel
theorem dX9_want_15 : decode cX9_want 15 = .ok (.iconst 1, 1) := by decide +kernel
theorem dX9_want_16 : decode cX9_want 16 = .ok (.bipush 99, 2) := by decide +kernel
theorem dX9_want_18 : decode cX9_want 18 = .ok (.invokestatic 46, 3) := by decide +kernel
theorem dX9_want_21 : decode cX9_want 21 = .ok (.ifCond .ne 7, 3) := by decide +kernel
theorem dX9_want_24 : decode cX9_want 24 = .ok (.iconst 1, 1) := by decide +kernel
theorem dX9_want_25 : decode cX9_want 25 = .ok (.goto 4, 3) := by decide +kernel
theorem dX9_want_28 : decode cX9_want 28 = .ok (.iconst 0, 1) := by decide +kernel
theorem dX9_want_29 : decode cX9_want 29 = .ok (.invokevirtual 284, 3) := by decide +kernel
theorem dX9_want_32 : decode cX9_want 32 = .ok (.ifCond .eq 5, 3) := by decide +kernel
theorem dX9_want_35 : decode cX9_want 35 = .ok (.iconst 0, 1) := by decide +kernel
theorem dX9_want_36 : decode cX9_want 36 = .ok (.ireturn, 1) := by decide +kernel
theorem dX9_want_37 : decode cX9_want 37 = .ok (.aload_n 0, 1) := by decide +kernel
theorem dX9_want_38 : decode cX9_want 38 = .ok (.invokevirtual 332, 3) := by decide +kernel
theorem dX9_want_41 : decode cX9_want 41 = .ok (.aload_n 0, 1) := by decide +kernel
theorem dX9_want_42 : decode cX9_want 42 = .ok (.aload_n 0, 1) := by decide +kernel
theorem dX9_want_43 : decode cX9_want 43 = .ok (.iload_n 1, 1) := by decide +kernel
theorem dX9_want_44 : decode cX9_want 44 = .ok (.iload_n 2, 1) := by decide +kernel
theorem dX9_want_45 : decode cX9_want 45 = .ok (.invokevirtual 210, 3) := by decide +kernel
theorem dX9_want_48 : decode cX9_want 48 = .ok (.invokevirtual 335, 3) := by decide +kernel
theorem dX9_want_51 : decode cX9_want 51 = .ok (.ireturn, 1) := by decide +kernel
theorem dX9_drop_0 : decode cX9_drop 0 = .ok (.aload_n 0, 1) := by decide +kernel
theorem dX9_drop_1 : decode cX9_drop 1 = .ok (.aload_n 0, 1) := by decide +kernel
theorem dX9_drop_2 : decode cX9_drop 2 = .ok (.iload_n 1, 1) := by decide +kernel
theorem dX9_drop_3 : decode cX9_drop 3 = .ok (.invokevirtual 281, 3) := by decide +kernel
theorem dX9_drop_6 : decode cX9_drop 6 = .ok (.ifCond .ne 7, 3) := by decide +kernel
theorem dX9_drop_9 : decode cX9_drop 9 = .ok (.iconst 1, 1) := by decide +kernel
theorem dX9_drop_10 : decode cX9_drop 10 = .ok (.goto 4, 3) := by decide +kernel
theorem dX9_drop_13 : decode cX9_drop 13 = .ok (.iconst 0, 1) := by decide +kernel
theorem dX9_drop_14 : decode cX9_drop 14 = .ok (.invokevirtual 262, 3) := by decide +kernel
theorem dX9_drop_17 : decode cX9_drop 17 = .ok (.ifCond .eq 5, 3) := by decide +kernel
theorem dX9_drop_20 : decode cX9_drop 20 = .ok (.iconst 0, 1) := by decide +kernel
theorem dX9_drop_21 : decode cX9_drop 21 = .ok (.ireturn, 1) := by decide +kernel
theorem dX9_drop_22 : decode cX9_drop 22 = .ok (.aload_n 0, 1) := by decide +kernel
theorem dX9_drop_23 : decode cX9_drop 23 = .ok (.invokevirtual 332, 3) := by decide +kernel
theorem dX9_drop_26 : decode cX9_drop 26 = .ok (.aload_n 0, 1) := by decide +kernel
theorem dX9_drop_27 : decode cX9_drop 27 = .ok (.aload_n 0, 1) := by decide +kernel
theorem dX9_drop_28 : decode cX9_drop 28 = .ok (.iload_n 1, 1) := by decide +kernel
theorem dX9_drop_29 : decode cX9_drop 29 = .ok (.invokevirtual 218, 3) := by decide +kernel
theorem dX9_drop_32 : decode cX9_drop 32 = .ok (.invokevirtual 335, 3) := by decide +kernel
theorem dX9_drop_35 : decode cX9_drop 35 = .ok (.ireturn, 1) := by decide +kernel
theorem dX9_hang_0 : decode cX9_hang 0 = .ok (.aload_n 0, 1) := by decide +kernel
theorem dX9_hang_1 : decode cX9_hang 1 = .ok (.aload_n 0, 1) := by decide +kernel
theorem dX9_hang_2 : decode cX9_hang 2 = .ok (.iload_n 1, 1) := by decide +kernel
theorem dX9_hang_3 : decode cX9_hang 3 = .ok (.invokevirtual 281, 3) := by decide +kernel
theorem dX9_hang_6 : decode cX9_hang 6 = .ok (.ifCond .ne 7, 3) := by decide +kernel
theorem dX9_hang_9 : decode cX9_hang 9 = .ok (.iconst 1, 1) := by decide +kernel
theorem dX9_hang_10 : decode cX9_hang 10 = .ok (.goto 4, 3) := by decide +kernel
theorem dX9_hang_13 : decode cX9_hang 13 = .ok (.iconst 0, 1) := by decide +kernel
theorem dX9_hang_14 : decode cX9_hang 14 = .ok (.invokevirtual 262, 3) := by decide +kernel
theorem dX9_hang_17 : decode cX9_hang 17 = .ok (.ifCond .eq 5, 3) := by decide +kernel
theorem dX9_hang_20 : decode cX9_hang 20 = .ok (.iconst 0, 1) := by decide +kernel
theorem dX9_hang_21 : decode cX9_hang 21 = .ok (.ireturn, 1) := by decide +kernel
theorem dX9_hang_22 : decode cX9_hang 22 = .ok (.aload_n 0, 1) := by decide +kernel
theorem dX9_hang_23 : decode cX9_hang 23 = .ok (.invokevirtual 332, 3) := by decide +kernel
theorem dX9_hang_26 : decode cX9_hang 26 = .ok (.aload_n 0, 1) := by decide +kernel
theorem dX9_hang_27 : decode cX9_hang 27 = .ok (.aload_n 0, 1) := by decide +kernel
theorem dX9_hang_28 : decode cX9_hang 28 = .ok (.iload_n 1, 1) := by decide +kernel
theorem dX9_hang_29 : decode cX9_hang 29 = .ok (.invokevirtual 223, 3) := by decide +kernel
theorem dX9_hang_32 : decode cX9_hang 32 = .ok (.invokevirtual 335, 3) := by decide +kernel
theorem dX9_hang_35 : decode cX9_hang 35 = .ok (.ireturn, 1) := by decide +kernel
theorem dX9_ring_0 : decode cX9_ring 0 = .ok (.aload_n 0, 1) := by decide +kernel
theorem dX9_ring_1 : decode cX9_ring 1 = .ok (.aload_n 0, 1) := by decide +kernel
theorem dX9_ring_2 : decode cX9_ring 2 = .ok (.iload_n 1, 1) := by decide +kernel
theorem dX9_ring_3 : decode cX9_ring 3 = .ok (.invokevirtual 281, 3) := by decide +kernel
theorem dX9_ring_6 : decode cX9_ring 6 = .ok (.ifCond .ne 7, 3) := by decide +kernel
theorem dX9_ring_9 : decode cX9_ring 9 = .ok (.iconst 1, 1) := by decide +kernel
theorem dX9_ring_10 : decode cX9_ring 10 = .ok (.goto 4, 3) := by decide +kernel
theorem dX9_ring_13 : decode cX9_ring 13 = .ok (.iconst 0, 1) := by decide +kernel
theorem dX9_ring_14 : decode cX9_ring 14 = .ok (.iload_n 2, 1) := by decide +kernel
theorem dX9_ring_15 : decode cX9_ring 15 = .ok (.iconst 1, 1) := by decide +kernel
theorem dX9_ring_16 : decode cX9_ring 16 = .ok (.bipush 99, 2) := by decide +kernel
theorem dX9_ring_18 : decode cX9_ring 18 = .ok (.invokestatic 46, 3) := by decide +kernel
theorem dX9_ring_21 : decode cX9_ring 21 = .ok (.ifCond .ne 7, 3) := by decide +kernel
theorem dX9_ring_24 : decode cX9_ring 24 = .ok (.iconst 1, 1) := by decide +kernel
theorem dX9_ring_25 : decode cX9_ring 25 = .ok (.goto 4, 3) := by decide +kernel
theorem dX9_ring_28 : decode cX9_ring 28 = .ok (.iconst 0, 1) := by decide +kernel
theorem dX9_ring_29 : decode cX9_ring 29 = .ok (.invokevirtual 284, 3) := by decide +kernel
theorem dX9_ring_32 : decode cX9_ring 32 = .ok (.ifCond .eq 5, 3) := by decide +kernel
theorem dX9_ring_35 : decode cX9_ring 35 = .ok (.iconst 0, 1) := by decide +kernel
theorem dX9_ring_36 : decode cX9_ring 36 = .ok (.ireturn, 1) := by decide +kernel
theorem dX9_ring_37 : decode cX9_ring 37 = .ok (.aload_n 0, 1) := by decide +kernel
theorem dX9_ring_38 : decode cX9_ring 38 = .ok (.invokevirtual 332, 3) := by decide +kernel
theorem dX9_ring_41 : decode cX9_ring 41 = .ok (.aload_n 0, 1) := by decide +kernel
theorem dX9_ring_42 : decode cX9_ring 42 = .ok (.aload_n 0, 1) := by decide +kernel
theorem dX9_ring_43 : decode cX9_ring 43 = .ok (.iload_n 1, 1) := by decide +kernel
theorem dX9_ring_44 : decode cX9_ring 44 = .ok (.iload_n 2, 1) := by decide +kernel
theorem dX9_ring_45 : decode cX9_ring 45 = .ok (.invokevirtual 228, 3) := by decide +kernel
theorem dX9_ring_48 : decode cX9_ring 48 = .ok (.invokevirtual 335, 3) := by decide +kernel
theorem dX9_ring_51 : decode cX9_ring 51 = .ok (.ireturn, 1) := by decide +kernel
theorem dX9_pay_0 : decode cX9_pay 0 = .ok (.aload_n 0, 1) := by decide +kernel
theorem dX9_pay_1 : decode cX9_pay 1 = .ok (.aload_n 0, 1) := by decide +kernel
theorem dX9_pay_2 : decode cX9_pay 2 = .ok (.iload_n 1, 1) := by decide +kernel
theorem dX9_pay_3 : decode cX9_pay 3 = .ok (.invokevirtual 281, 3) := by decide +kernel
theorem dX9_pay_6 : decode cX9_pay 6 = .ok (.ifCond .ne 7, 3) := by decide +kernel
theorem dX9_pay_9 : decode cX9_pay 9 = .ok (.iconst 1, 1) := by decide +kernel
theorem dX9_pay_10 : decode cX9_pay 10 = .ok (.goto 4, 3) := by decide +kernel
theorem dX9_pay_13 : decode cX9_pay 13 = .ok (.iconst 0, 1) := by decide +kernel
theorem dX9_pay_14 : decode cX9_pay 14 = .ok (.iload_n 2, 1) := by decide +kernel
theorem dX9_pay_15 : decode cX9_pay 15 = .ok (.iconst 1, 1) := by decide +kernel
theorem dX9_pay_16 : decode cX9_pay 16 = .ok (.sipush 9999, 3) := by decide +kernel
theorem dX9_pay_19 : decode cX9_pay 19 = .ok (.invokestatic 46, 3) := by decide +kernel
theorem dX9_pay_22 : decode cX9_pay 22 = .ok (.ifCond .ne 7, 3) := by decide +kernel
theorem dX9_pay_25 : decode cX9_pay 25 = .ok (.iconst 1, 1) := by decide +kernel
theorem dX9_pay_26 : decode cX9_pay 26 = .ok (.goto 4, 3) := by decide +kernel
theorem dX9_pay_29 : decode cX9_pay 29 = .ok (.iconst 0, 1) := by decide +kernel
theorem dX9_pay_30 : decode cX9_pay 30 = .ok (.invokevirtual 284, 3) := by decide +kernel
theorem dX9_pay_33 : decode cX9_pay 33 = .ok (.ifCond .eq 5, 3) := by decide +kernel
theorem dX9_pay_36 : decode cX9_pay 36 = .ok (.iconst 0, 1) := by decide +kernel
theorem dX9_pay_37 : decode cX9_pay 37 = .ok (.ireturn, 1) := by decide +kernel
theorem dX9_pay_38 : decode cX9_pay 38 = .ok (.aload_n 0, 1) := by decide +kernel
theorem dX9_pay_39 : decode cX9_pay 39 = .ok (.invokevirtual 332, 3) := by decide +kernel
theorem dX9_pay_42 : decode cX9_pay 42 = .ok (.aload_n 0, 1) := by decide +kernel
theorem dX9_pay_43 : decode cX9_pay 43 = .ok (.aload_n 0, 1) := by decide +kernel
theorem dX9_pay_44 : decode cX9_pay 44 = .ok (.iload_n 1, 1) := by decide +kernel
theorem dX9_pay_45 : decode cX9_pay 45 = .ok (.iload_n 2, 1) := by decide +kernel
theorem dX9_pay_46 : decode cX9_pay 46 = .ok (.invokevirtual 233, 3) := by decide +kernel
theorem dX9_pay_49 : decode cX9_pay 49 = .ok (.invokevirtual 335, 3) := by decide +kernel
theorem dX9_pay_52 : decode cX9_pay 52 = .ok (.ireturn, 1) := by decide +kernel
theorem dX9_setCurious_0 : decode cX9_setCurious 0 = .ok (.aload_n 0, 1) := by decide +kernel
theorem dX9_setCurious_1 : decode cX9_setCurious 1 = .ok (.aload_n 0, 1) := by decide +kernel
theorem dX9_setCurious_2 : decode cX9_setCurious 2 = .ok (.iload_n 1, 1) := by decide +kernel
theorem dX9_setCurious_3 : decode cX9_setCurious 3 = .ok (.invokevirtual 281, 3) := by decide +kernel
theorem dX9_setCurious_6 : decode cX9_setCurious 6 = .ok (.ifCond .ne 7, 3) := by decide +kernel
theorem dX9_setCurious_9 : decode cX9_setCurious 9 = .ok (.iconst 1, 1) := by decide +kernel
theorem dX9_setCurious_10 : decode cX9_setCurious 10 = .ok (.goto 4, 3) := by decide +kernel
theorem dX9_setCurious_13 : decode cX9_setCurious 13 = .ok (.iconst 0, 1) := by decide +kernel
theorem dX9_setCurious_14 : decode cX9_setCurious 14 = .ok (.invokevirtual 262, 3) := by decide +kernel
theorem dX9_setCurious_17 : decode cX9_setCurious 17 = .ok (.ifCond .eq 5, 3) := by decide +kernel
theorem dX9_setCurious_20 : decode cX9_setCurious 20 = .ok (.iconst 0, 1) := by decide +kernel
theorem dX9_setCurious_21 : decode cX9_setCurious 21 = .ok (.ireturn, 1) := by decide +kernel
theorem dX9_setCurious_22 : decode cX9_setCurious 22 = .ok (.aload_n 0, 1) := by decide +kernel
theorem dX9_setCurious_23 : decode cX9_setCurious 23 = .ok (.invokevirtual 332, 3) := by decide +kernel
theorem dX9_setCurious_26 : decode cX9_setCurious 26 = .ok (.aload_n 0, 1) := by decide +kernel
theorem dX9_setCurious_27 : decode cX9_setCurious 27 = .ok (.iload_n 1, 1) := by decide +kernel
theorem dX9_setCurious_28 : decode cX9_setCurious 28 = .ok (.iconst 1, 1) := by decide +kernel
theorem dX9_setCurious_29 : decode cX9_setCurious 29 = .ok (.invokevirtual 50, 3) := by decide +kernel
theorem dX9_setCurious_32 : decode cX9_setCurious 32 = .ok (.iconst 1, 1) := by decide +kernel
theorem dX9_setCurious_33 : decode cX9_setCurious 33 = .ok (.if_icmp .ne 7, 3) := by decide +kernel
theorem dX9_setCurious_36 : decode cX9_setCurious 36 = .ok (.iconst 1, 1) := by decide +kernel
theorem dX9_setCurious_37 : decode cX9_setCurious 37 = .ok (.goto 4, 3) := by decide +kernel
theorem dX9_setCurious_40 : decode cX9_setCurious 40 = .ok (.iconst 0, 1) := by decide +kernel
theorem dX9_setCurious_41 : decode cX9_setCurious 41 = .ok (.istore_n 3, 1) := by decide +kernel
theorem dX9_setCurious_42 : decode cX9_setCurious 42 = .ok (.aload_n 0, 1) := by decide +kernel
theorem dX9_setCurious_43 : decode cX9_setCurious 43 = .ok (.iload_n 1, 1) := by decide +kernel
theorem dX9_setCurious_44 : decode cX9_setCurious 44 = .ok (.iconst 1, 1) := by decide +kernel
theorem dX9_setCurious_45 : decode cX9_setCurious 45 = .ok (.iload_n 2, 1) := by decide +kernel
theorem dX9_setCurious_46 : decode cX9_setCurious 46 = .ok (.ifCond .eq 7, 3) := by decide +kernel
theorem dX9_setCurious_49 : decode cX9_setCurious 49 = .ok (.iconst 1, 1) := by decide +kernel
theorem dX9_setCurious_50 : decode cX9_setCurious 50 = .ok (.goto 4, 3) := by decide +kernel
theorem dX9_setCurious_53 : decode cX9_setCurious 53 = .ok (.iconst 0, 1) := by decide +kernel
theorem dX9_setCurious_54 : decode cX9_setCurious 54 = .ok (.invokevirtual 62, 3) := by decide +kernel
theorem dX9_setCurious_57 : decode cX9_setCurious 57 = .ok (.aload_n 0, 1) := by decide +kernel
theorem dX9_setCurious_58 : decode cX9_setCurious 58 = .ok (.iconst 0, 1) := by decide +kernel
theorem dX9_setCurious_59 : decode cX9_setCurious 59 = .ok (.invokevirtual 335, 3) := by decide +kernel
theorem dX9_setCurious_62 : decode cX9_setCurious 62 = .ok (.pop, 1) := by decide +kernel
theorem dX9_setCurious_63 : decode cX9_setCurious 63 = .ok (.iload_n 3, 1) := by decide +kernel
theorem dX9_setCurious_64 : decode cX9_setCurious 64 = .ok (.ireturn, 1) := by decide +kernel
theorem dX9_set_0 : decode cX9_set 0 = .ok (.aload_n 0, 1) := by decide +kernel
theorem dX9_set_1 : decode cX9_set 1 = .ok (.iload_n 1, 1) := by decide +kernel
theorem dX9_set_2 : decode cX9_set 2 = .ok (.iconst 0, 1) := by decide +kernel
theorem dX9_set_3 : decode cX9_set 3 = .ok (.iconst 5, 1) := by decide +kernel
theorem dX9_set_4 : decode cX9_set 4 = .ok (.invokestatic 46, 3) := by decide +kernel
theorem dX9_set_7 : decode cX9_set 7 = .ok (.ifCond .eq 18, 3) := by decide +kernel
theorem dX9_set_10 : decode cX9_set 10 = .ok (.iload_n 2, 1) := by decide +kernel
theorem dX9_set_11 : decode cX9_set 11 = .ok (.iload_n 1, 1) := by decide +kernel
theorem dX9_set_12 : decode cX9_set 12 = .ok (.invokestatic 190, 3) := by decide +kernel
theorem dX9_set_15 : decode cX9_set 15 = .ok (.iload_n 1, 1) := by decide +kernel
theorem dX9_set_16 : decode cX9_set 16 = .ok (.invokestatic 193, 3) := by decide +kernel
theorem dX9_set_19 : decode cX9_set 19 = .ok (.invokestatic 46, 3) := by decide +kernel
theorem dX9_set_22 : decode cX9_set 22 = .ok (.ifCond .ne 7, 3) := by decide +kernel
theorem dX9_set_25 : decode cX9_set 25 = .ok (.iconst 1, 1) := by decide +kernel
theorem dX9_set_26 : decode cX9_set 26 = .ok (.goto 4, 3) := by decide +kernel
theorem dX9_set_29 : decode cX9_set 29 = .ok (.iconst 0, 1) := by decide +kernel
theorem dX9_set_30 : decode cX9_set 30 = .ok (.invokevirtual 262, 3) := by decide +kernel
theorem dX9_set_33 : decode cX9_set 33 = .ok (.ifCond .eq 5, 3) := by decide +kernel
theorem dX9_set_36 : decode cX9_set 36 = .ok (.iconst 0, 1) := by decide +kernel
theorem dX9_set_37 : decode cX9_set 37 = .ok (.ireturn, 1) := by decide +kernel
theorem dX9_set_38 : decode cX9_set 38 = .ok (.aload_n 0, 1) := by decide +kernel
theorem dX9_set_39 : decode cX9_set 39 = .ok (.invokevirtual 332, 3) := by decide +kernel
theorem dX9_set_42 : decode cX9_set 42 = .ok (.aload_n 0, 1) := by decide +kernel
theorem dX9_set_43 : decode cX9_set 43 = .ok (.getfield 7, 3) := by decide +kernel
theorem dX9_set_46 : decode cX9_set 46 = .ok (.bipush 7, 2) := by decide +kernel
theorem dX9_set_48 : decode cX9_set 48 = .ok (.iload_n 1, 1) := by decide +kernel
theorem dX9_set_49 : decode cX9_set 49 = .ok (.iadd, 1) := by decide +kernel
theorem dX9_set_50 : decode cX9_set 50 = .ok (.iaload, 1) := by decide +kernel
theorem dX9_set_51 : decode cX9_set 51 = .ok (.istore_n 3, 1) := by decide +kernel
theorem dX9_set_52 : decode cX9_set 52 = .ok (.aload_n 0, 1) := by decide +kernel
theorem dX9_set_53 : decode cX9_set 53 = .ok (.getfield 7, 3) := by decide +kernel
theorem dX9_set_56 : decode cX9_set 56 = .ok (.bipush 7, 2) := by decide +kernel
theorem dX9_set_58 : decode cX9_set 58 = .ok (.iload_n 1, 1) := by decide +kernel
theorem dX9_set_59 : decode cX9_set 59 = .ok (.iadd, 1) := by decide +kernel
theorem dX9_set_60 : decode cX9_set 60 = .ok (.iload_n 2, 1) := by decide +kernel
theorem dX9_set_61 : decode cX9_set 61 = .ok (.iastore, 1) := by decide +kernel
theorem dX9_set_62 : decode cX9_set 62 = .ok (.aload_n 0, 1) := by decide +kernel
theorem dX9_set_63 : decode cX9_set 63 = .ok (.iload_n 3, 1) := by decide +kernel
theorem dX9_set_64 : decode cX9_set 64 = .ok (.invokevirtual 335, 3) := by decide +kernel
theorem dX9_set_67 : decode cX9_set 67 = .ok (.ireturn, 1) := by decide +kernel
theorem dX9_pass_0 : decode cX9_pass 0 = .ok (.aload_n 0, 1) := by decide +kernel
theorem dX9_pass_1 : decode cX9_pass 1 = .ok (.iload_n 1, 1) := by decide +kernel
theorem dX9_pass_2 : decode cX9_pass 2 = .ok (.iconst 1, 1) := by decide +kernel
theorem dX9_pass_3 : decode cX9_pass 3 = .ok (.sipush 999, 3) := by decide +kernel
theorem dX9_pass_6 : decode cX9_pass 6 = .ok (.invokestatic 46, 3) := by decide +kernel
theorem dX9_pass_9 : decode cX9_pass 9 = .ok (.ifCond .ne 7, 3) := by decide +kernel
theorem dX9_pass_12 : decode cX9_pass 12 = .ok (.iconst 1, 1) := by decide +kernel
theorem dX9_pass_13 : decode cX9_pass 13 = .ok (.goto 4, 3) := by decide +kernel
theorem dX9_pass_16 : decode cX9_pass 16 = .ok (.iconst 0, 1) := by decide +kernel
theorem dX9_pass_17 : decode cX9_pass 17 = .ok (.invokevirtual 262, 3) := by decide +kernel
theorem dX9_pass_20 : decode cX9_pass 20 = .ok (.ifCond .eq 5, 3) := by decide +kernel
theorem dX9_pass_23 : decode cX9_pass 23 = .ok (.iconst 0, 1) := by decide +kernel
theorem dX9_pass_24 : decode cX9_pass 24 = .ok (.ireturn, 1) := by decide +kernel
theorem dX9_pass_25 : decode cX9_pass 25 = .ok (.aload_n 0, 1) := by decide +kernel
theorem dX9_pass_26 : decode cX9_pass 26 = .ok (.invokevirtual 332, 3) := by decide +kernel
theorem dX9_pass_29 : decode cX9_pass 29 = .ok (.aload_n 0, 1) := by decide +kernel
theorem dX9_pass_30 : decode cX9_pass 30 = .ok (.aload_n 0, 1) := by decide +kernel
theorem dX9_pass_31 : decode cX9_pass 31 = .ok (.iload_n 1, 1) := by decide +kernel
theorem dX9_pass_32 : decode cX9_pass 32 = .ok (.invokevirtual 238, 3) := by decide +kernel
theorem dX9_pass_35 : decode cX9_pass 35 = .ok (.invokevirtual 335, 3) := by decide +kernel
theorem dX9_pass_38 : decode cX9_pass 38 = .ok (.ireturn, 1) := by decide +kernel
theorem dX9_undo_0 : decode cX9_undo 0 = .ok (.aload_n 0, 1) := by decide +kernel
theorem dX9_undo_1 : decode cX9_undo 1 = .ok (.iconst 0, 1) := by decide +kernel
theorem dX9_undo_2 : decode cX9_undo 2 = .ok (.putfield 42, 3) := by decide +kernel
theorem dX9_undo_5 : decode cX9_undo 5 = .ok (.aload_n 0, 1) := by decide +kernel
theorem dX9_undo_6 : decode cX9_undo 6 = .ok (.getfield 250, 3) := by decide +kernel
theorem dX9_undo_9 : decode cX9_undo 9 = .ok (.ifCond .ne 5, 3) := by decide +kernel
theorem dX9_undo_12 : decode cX9_undo 12 = .ok (.iconst (-1), 1) := by decide +kernel
theorem dX9_undo_13 : decode cX9_undo 13 = .ok (.ireturn, 1) := by decide +kernel
theorem dX9_undo_14 : decode cX9_undo 14 = .ok (.aload_n 0, 1) := by decide +kernel
theorem dX9_undo_15 : decode cX9_undo 15 = .ok (.dup, 1) := by decide +kernel
theorem dX9_undo_16 : decode cX9_undo 16 = .ok (.getfield 250, 3) := by decide +kernel
theorem dX9_undo_19 : decode cX9_undo 19 = .ok (.iconst 1, 1) := by decide +kernel
theorem dX9_undo_20 : decode cX9_undo 20 = .ok (.isub, 1) := by decide +kernel
theorem dX9_undo_21 : decode cX9_undo 21 = .ok (.putfield 250, 3) := by decide +kernel
theorem dX9_undo_24 : decode cX9_undo 24 = .ok (.iconst 0, 1) := by decide +kernel
theorem dX9_undo_25 : decode cX9_undo 25 = .ok (.istore_n 1, 1) := by decide +kernel
theorem dX9_undo_26 : decode cX9_undo 26 = .ok (.iload_n 1, 1) := by decide +kernel
theorem dX9_undo_27 : decode cX9_undo 27 = .ok (.sipush 242, 3) := by decide +kernel
theorem dX9_undo_30 : decode cX9_undo 30 = .ok (.if_icmp .ge 30, 3) := by decide +kernel
theorem dX9_undo_33 : decode cX9_undo 33 = .ok (.aload_n 0, 1) := by decide +kernel
theorem dX9_undo_34 : decode cX9_undo 34 = .ok (.getfield 7, 3) := by decide +kernel
theorem dX9_undo_37 : decode cX9_undo 37 = .ok (.iload_n 1, 1) := by decide +kernel
theorem dX9_undo_38 : decode cX9_undo 38 = .ok (.aload_n 0, 1) := by decide +kernel
theorem dX9_undo_39 : decode cX9_undo 39 = .ok (.getfield 19, 3) := by decide +kernel
theorem dX9_undo_42 : decode cX9_undo 42 = .ok (.sipush 242, 3) := by decide +kernel
theorem dX9_undo_45 : decode cX9_undo 45 = .ok (.aload_n 0, 1) := by decide +kernel
theorem dX9_undo_46 : decode cX9_undo 46 = .ok (.getfield 250, 3) := by decide +kernel
theorem dX9_undo_49 : decode cX9_undo 49 = .ok (.imul, 1) := by decide +kernel
theorem dX9_undo_50 : decode cX9_undo 50 = .ok (.iload_n 1, 1) := by decide +kernel
theorem dX9_undo_51 : decode cX9_undo 51 = .ok (.iadd, 1) := by decide +kernel
theorem dX9_undo_52 : decode cX9_undo 52 = .ok (.iaload, 1) := by decide +kernel
theorem dX9_undo_53 : decode cX9_undo 53 = .ok (.iastore, 1) := by decide +kernel
theorem dX9_undo_54 : decode cX9_undo 54 = .ok (.iinc 1 1, 3) := by decide +kernel
theorem dX9_undo_57 : decode cX9_undo 57 = .ok (.goto (-31), 3) := by decide +kernel
theorem dX9_undo_60 : decode cX9_undo 60 = .ok (.aload_n 0, 1) := by decide +kernel
theorem dX9_undo_61 : decode cX9_undo 61 = .ok (.getfield 250, 3) := by decide +kernel
theorem dX9_undo_64 : decode cX9_undo 64 = .ok (.ireturn, 1) := by decide +kernel
theorem dX9_saveSnapshot_0 : decode cX9_saveSnapshot 0 = .ok (.aload_n 0, 1) := by decide +kernel
theorem dX9_saveSnapshot_1 : decode cX9_saveSnapshot 1 = .ok (.iload_n 1, 1) := by decide +kernel
theorem dX9_saveSnapshot_2 : decode cX9_saveSnapshot 2 = .ok (.iconst 0, 1) := by decide +kernel
theorem dX9_saveSnapshot_3 : decode cX9_saveSnapshot 3 = .ok (.iconst 1, 1) := by decide +kernel
theorem dX9_saveSnapshot_4 : decode cX9_saveSnapshot 4 = .ok (.invokestatic 46, 3) := by decide +kernel
theorem dX9_saveSnapshot_7 : decode cX9_saveSnapshot 7 = .ok (.ifCond .ne 7, 3) := by decide +kernel
theorem dX9_saveSnapshot_10 : decode cX9_saveSnapshot 10 = .ok (.iconst 1, 1) := by decide +kernel
theorem dX9_saveSnapshot_11 : decode cX9_saveSnapshot 11 = .ok (.goto 4, 3) := by decide +kernel
theorem dX9_saveSnapshot_14 : decode cX9_saveSnapshot 14 = .ok (.iconst 0, 1) := by decide +kernel
theorem dX9_saveSnapshot_15 : decode cX9_saveSnapshot 15 = .ok (.invokevirtual 262, 3) := by decide +kernel
theorem dX9_saveSnapshot_18 : decode cX9_saveSnapshot 18 = .ok (.ifCond .eq 5, 3) := by decide +kernel
theorem dX9_saveSnapshot_21 : decode cX9_saveSnapshot 21 = .ok (.iconst 0, 1) := by decide +kernel
theorem dX9_saveSnapshot_22 : decode cX9_saveSnapshot 22 = .ok (.ireturn, 1) := by decide +kernel
theorem dX9_saveSnapshot_23 : decode cX9_saveSnapshot 23 = .ok (.aload_n 0, 1) := by decide +kernel
theorem dX9_saveSnapshot_24 : decode cX9_saveSnapshot 24 = .ok (.getfield 253, 3) := by decide +kernel
theorem dX9_saveSnapshot_27 : decode cX9_saveSnapshot 27 = .ok (.iload_n 1, 1) := by decide +kernel
theorem dX9_saveSnapshot_28 : decode cX9_saveSnapshot 28 = .ok (.ishr, 1) := by decide +kernel
theorem dX9_saveSnapshot_29 : decode cX9_saveSnapshot 29 = .ok (.iconst 1, 1) := by decide +kernel
theorem dX9_saveSnapshot_30 : decode cX9_saveSnapshot 30 = .ok (.iand, 1) := by decide +kernel
theorem dX9_saveSnapshot_31 : decode cX9_saveSnapshot 31 = .ok (.iconst 1, 1) := by decide +kernel
theorem dX9_saveSnapshot_32 : decode cX9_saveSnapshot 32 = .ok (.if_icmp .ne 7, 3) := by decide +kernel
theorem dX9_saveSnapshot_35 : decode cX9_saveSnapshot 35 = .ok (.iconst 1, 1) := by decide +kernel
theorem dX9_saveSnapshot_36 : decode cX9_saveSnapshot 36 = .ok (.goto 4, 3) := by decide +kernel
theorem dX9_saveSnapshot_39 : decode cX9_saveSnapshot 39 = .ok (.iconst 0, 1) := by decide +kernel
theorem dX9_saveSnapshot_40 : decode cX9_saveSnapshot 40 = .ok (.istore_n 2, 1) := by decide +kernel
theorem dX9_saveSnapshot_41 : decode cX9_saveSnapshot 41 = .ok (.aload_n 0, 1) := by decide +kernel
theorem dX9_saveSnapshot_42 : decode cX9_saveSnapshot 42 = .ok (.dup, 1) := by decide +kernel
theorem dX9_saveSnapshot_43 : decode cX9_saveSnapshot 43 = .ok (.getfield 253, 3) := by decide +kernel
theorem dX9_saveSnapshot_46 : decode cX9_saveSnapshot 46 = .ok (.iconst 1, 1) := by decide +kernel
theorem dX9_saveSnapshot_47 : decode cX9_saveSnapshot 47 = .ok (.iload_n 1, 1) := by decide +kernel
theorem dX9_saveSnapshot_48 : decode cX9_saveSnapshot 48 = .ok (.ishl, 1) := by decide +kernel
theorem dX9_saveSnapshot_49 : decode cX9_saveSnapshot 49 = .ok (.ior, 1) := by decide +kernel
theorem dX9_saveSnapshot_50 : decode cX9_saveSnapshot 50 = .ok (.putfield 253, 3) := by decide +kernel
theorem dX9_saveSnapshot_53 : decode cX9_saveSnapshot 53 = .ok (.iconst 0, 1) := by decide +kernel
theorem dX9_saveSnapshot_54 : decode cX9_saveSnapshot 54 = .ok (.istore_n 3, 1) := by decide +kernel
theorem dX9_saveSnapshot_55 : decode cX9_saveSnapshot 55 = .ok (.iload_n 3, 1) := by decide +kernel
theorem dX9_saveSnapshot_56 : decode cX9_saveSnapshot 56 = .ok (.sipush 242, 3) := by decide +kernel
theorem dX9_saveSnapshot_59 : decode cX9_saveSnapshot 59 = .ok (.if_icmp .ge 27, 3) := by decide +kernel
theorem dX9_saveSnapshot_62 : decode cX9_saveSnapshot 62 = .ok (.aload_n 0, 1) := by decide +kernel
theorem dX9_saveSnapshot_63 : decode cX9_saveSnapshot 63 = .ok (.getfield 22, 3) := by decide +kernel
theorem dX9_saveSnapshot_66 : decode cX9_saveSnapshot 66 = .ok (.sipush 242, 3) := by decide +kernel
theorem dX9_saveSnapshot_69 : decode cX9_saveSnapshot 69 = .ok (.iload_n 1, 1) := by decide +kernel
theorem dX9_saveSnapshot_70 : decode cX9_saveSnapshot 70 = .ok (.imul, 1) := by decide +kernel
theorem dX9_saveSnapshot_71 : decode cX9_saveSnapshot 71 = .ok (.iload_n 3, 1) := by decide +kernel
theorem dX9_saveSnapshot_72 : decode cX9_saveSnapshot 72 = .ok (.iadd, 1) := by decide +kernel
theorem dX9_saveSnapshot_73 : decode cX9_saveSnapshot 73 = .ok (.aload_n 0, 1) := by decide +kernel
theorem dX9_saveSnapshot_74 : decode cX9_saveSnapshot 74 = .ok (.getfield 7, 3) := by decide +kernel
theorem dX9_saveSnapshot_77 : decode cX9_saveSnapshot 77 = .ok (.iload_n 3, 1) := by decide +kernel
theorem dX9_saveSnapshot_78 : decode cX9_saveSnapshot 78 = .ok (.iaload, 1) := by decide +kernel
theorem dX9_saveSnapshot_79 : decode cX9_saveSnapshot 79 = .ok (.iastore, 1) := by decide +kernel
theorem dX9_saveSnapshot_80 : decode cX9_saveSnapshot 80 = .ok (.iinc 3 1, 3) := by decide +kernel
theorem dX9_saveSnapshot_83 : decode cX9_saveSnapshot 83 = .ok (.goto (-28), 3) := by decide +kernel
theorem dX9_saveSnapshot_86 : decode cX9_saveSnapshot 86 = .ok (.iload_n 2, 1) := by decide +kernel
theorem dX9_saveSnapshot_87 : decode cX9_saveSnapshot 87 = .ok (.ireturn, 1) := by decide +kernel
theorem dX9_restoreSnapshot_0 : decode cX9_restoreSnapshot 0 = .ok (.iload_n 1, 1) := by decide +kernel
theorem dX9_restoreSnapshot_1 : decode cX9_restoreSnapshot 1 = .ok (.iconst 0, 1) := by decide +kernel
theorem dX9_restoreSnapshot_2 : decode cX9_restoreSnapshot 2 = .ok (.iconst 1, 1) := by decide +kernel
theorem dX9_restoreSnapshot_3 : decode cX9_restoreSnapshot 3 = .ok (.invokestatic 46, 3) := by decide +kernel
theorem dX9_restoreSnapshot_6 : decode cX9_restoreSnapshot 6 = .ok (.istore_n 2, 1) := by decide +kernel
theorem dX9_restoreSnapshot_7 : decode cX9_restoreSnapshot 7 = .ok (.aload_n 0, 1) := by decide +kernel
theorem dX9_restoreSnapshot_8 : decode cX9_restoreSnapshot 8 = .ok (.iload_n 2, 1) := by decide +kernel
theorem dX9_restoreSnapshot_9 : decode cX9_restoreSnapshot 9 = .ok (.ifCond .ne 7, 3) := by decide +kernel
theorem dX9_restoreSnapshot_12 : decode cX9_restoreSnapshot 12 = .ok (.iconst 1, 1) := by decide +kernel
theorem dX9_restoreSnapshot_13 : decode cX9_restoreSnapshot 13 = .ok (.goto 4, 3) := by decide +kernel
theorem dX9_restoreSnapshot_16 : decode cX9_restoreSnapshot 16 = .ok (.iconst 0, 1) := by decide +kernel
theorem dX9_restoreSnapshot_17 : decode cX9_restoreSnapshot 17 = .ok (.iload_n 2, 1) := by decide +kernel
theorem dX9_restoreSnapshot_18 : decode cX9_restoreSnapshot 18 = .ok (.ifCond .eq 18, 3) := by decide +kernel
theorem dX9_restoreSnapshot_21 : decode cX9_restoreSnapshot 21 = .ok (.aload_n 0, 1) := by decide +kernel
theorem dX9_restoreSnapshot_22 : decode cX9_restoreSnapshot 22 = .ok (.getfield 253, 3) := by decide +kernel
theorem dX9_restoreSnapshot_25 : decode cX9_restoreSnapshot 25 = .ok (.iload_n 1, 1) := by decide +kernel
theorem dX9_restoreSnapshot_26 : decode cX9_restoreSnapshot 26 = .ok (.ishr, 1) := by decide +kernel
theorem dX9_restoreSnapshot_27 : decode cX9_restoreSnapshot 27 = .ok (.iconst 1, 1) := by decide +kernel
theorem dX9_restoreSnapshot_28 : decode cX9_restoreSnapshot 28 = .ok (.iand, 1) := by decide +kernel
theorem dX9_restoreSnapshot_29 : decode cX9_restoreSnapshot 29 = .ok (.ifCond .ne 7, 3) := by decide +kernel
theorem dX9_restoreSnapshot_32 : decode cX9_restoreSnapshot 32 = .ok (.iconst 1, 1) := by decide +kernel
theorem dX9_restoreSnapshot_33 : decode cX9_restoreSnapshot 33 = .ok (.goto 4, 3) := by decide +kernel
theorem dX9_restoreSnapshot_36 : decode cX9_restoreSnapshot 36 = .ok (.iconst 0, 1) := by decide +kernel
theorem dX9_restoreSnapshot_37 : decode cX9_restoreSnapshot 37 = .ok (.invokevirtual 284, 3) := by decide +kernel
theorem dX9_restoreSnapshot_40 : decode cX9_restoreSnapshot 40 = .ok (.ifCond .eq 5, 3) := by decide +kernel
theorem dX9_restoreSnapshot_43 : decode cX9_restoreSnapshot 43 = .ok (.iconst 0, 1) := by decide +kernel
theorem dX9_restoreSnapshot_44 : decode cX9_restoreSnapshot 44 = .ok (.ireturn, 1) := by decide +kernel
theorem dX9_restoreSnapshot_45 : decode cX9_restoreSnapshot 45 = .ok (.iconst 0, 1) := by decide +kernel
theorem dX9_restoreSnapshot_46 : decode cX9_restoreSnapshot 46 = .ok (.istore_n 3, 1) := by decide +kernel
theorem dX9_restoreSnapshot_47 : decode cX9_restoreSnapshot 47 = .ok (.iload_n 3, 1) := by decide +kernel
theorem dX9_restoreSnapshot_48 : decode cX9_restoreSnapshot 48 = .ok (.sipush 242, 3) := by decide +kernel
theorem dX9_restoreSnapshot_51 : decode cX9_restoreSnapshot 51 = .ok (.if_icmp .ge 27, 3) := by decide +kernel
theorem dX9_restoreSnapshot_54 : decode cX9_restoreSnapshot 54 = .ok (.aload_n 0, 1) := by decide +kernel
theorem dX9_restoreSnapshot_55 : decode cX9_restoreSnapshot 55 = .ok (.getfield 7, 3) := by decide +kernel
theorem dX9_restoreSnapshot_58 : decode cX9_restoreSnapshot 58 = .ok (.iload_n 3, 1) := by decide +kernel
theorem dX9_restoreSnapshot_59 : decode cX9_restoreSnapshot 59 = .ok (.aload_n 0, 1) := by decide +kernel
theorem dX9_restoreSnapshot_60 : decode cX9_restoreSnapshot 60 = .ok (.getfield 22, 3) := by decide +kernel
theorem dX9_restoreSnapshot_63 : decode cX9_restoreSnapshot 63 = .ok (.sipush 242, 3) := by decide +kernel
theorem dX9_restoreSnapshot_66 : decode cX9_restoreSnapshot 66 = .ok (.iload_n 1, 1) := by decide +kernel
theorem dX9_restoreSnapshot_67 : decode cX9_restoreSnapshot 67 = .ok (.imul, 1) := by decide +kernel
theorem dX9_restoreSnapshot_68 : decode cX9_restoreSnapshot 68 = .ok (.iload_n 3, 1) := by decide +kernel
theorem dX9_restoreSnapshot_69 : decode cX9_restoreSnapshot 69 = .ok (.iadd, 1) := by decide +kernel
theorem dX9_restoreSnapshot_70 : decode cX9_restoreSnapshot 70 = .ok (.iaload, 1) := by decide +kernel
theorem dX9_restoreSnapshot_71 : decode cX9_restoreSnapshot 71 = .ok (.iastore, 1) := by decide +kernel
theorem dX9_restoreSnapshot_72 : decode cX9_restoreSnapshot 72 = .ok (.iinc 3 1, 3) := by decide +kernel
theorem dX9_restoreSnapshot_75 : decode cX9_restoreSnapshot 75 = .ok (.goto (-28), 3) := by decide +kernel
theorem dX9_restoreSnapshot_78 : decode cX9_restoreSnapshot 78 = .ok (.aload_n 0, 1) := by decide +kernel
theorem dX9_restoreSnapshot_79 : decode cX9_restoreSnapshot 79 = .ok (.iconst 0, 1) := by decide +kernel
theorem dX9_restoreSnapshot_80 : decode cX9_restoreSnapshot 80 = .ok (.putfield 250, 3) := by decide +kernel
theorem dX9_restoreSnapshot_83 : decode cX9_restoreSnapshot 83 = .ok (.aload_n 0, 1) := by decide +kernel
theorem dX9_restoreSnapshot_84 : decode cX9_restoreSnapshot 84 = .ok (.getfield 7, 3) := by decide +kernel
theorem dX9_restoreSnapshot_87 : decode cX9_restoreSnapshot 87 = .ok (.iconst 1, 1) := by decide +kernel
theorem dX9_restoreSnapshot_88 : decode cX9_restoreSnapshot 88 = .ok (.iaload, 1) := by decide +kernel
theorem dX9_restoreSnapshot_89 : decode cX9_restoreSnapshot 89 = .ok (.ireturn, 1) := by decide +kernel
theorem dX9_checksum_0 : decode cX9_checksum 0 = .ok (.aload_n 0, 1) := by decide +kernel
theorem dX9_checksum_1 : decode cX9_checksum 1 = .ok (.iconst 0, 1) := by decide +kernel
theorem dX9_checksum_2 : decode cX9_checksum 2 = .ok (.putfield 42, 3) := by decide +kernel
theorem dX9_checksum_5 : decode cX9_checksum 5 = .ok (.lconst 0, 1) := by decide +kernel
theorem dX9_checksum_6 : decode cX9_checksum 6 = .ok (.lstore_n 1, 1) := by decide +kernel
theorem dX9_checksum_7 : decode cX9_checksum 7 = .ok (.iconst 0, 1) := by decide +kernel
theorem dX9_checksum_8 : decode cX9_checksum 8 = .ok (.istore_n 3, 1) := by decide +kernel
theorem dX9_checksum_9 : decode cX9_checksum 9 = .ok (.iload_n 3, 1) := by decide +kernel
theorem dX9_checksum_10 : decode cX9_checksum 10 = .ok (.bipush 11, 2) := by decide +kernel
theorem dX9_checksum_12 : decode cX9_checksum 12 = .ok (.if_icmp .ge 22, 3) := by decide +kernel
theorem dX9_checksum_15 : decode cX9_checksum 15 = .ok (.ldc2_w 338, 3) := by decide +kernel
theorem dX9_checksum_18 : decode cX9_checksum 18 = .ok (.lload_n 1, 1) := by decide +kernel
theorem dX9_checksum_19 : decode cX9_checksum 19 = .ok (.lmul, 1) := by decide +kernel
theorem dX9_checksum_20 : decode cX9_checksum 20 = .ok (.aload_n 0, 1) := by decide +kernel
theorem dX9_checksum_21 : decode cX9_checksum 21 = .ok (.iload_n 3, 1) := by decide +kernel
theorem dX9_checksum_22 : decode cX9_checksum 22 = .ok (.invokevirtual 275, 3) := by decide +kernel
theorem dX9_checksum_25 : decode cX9_checksum 25 = .ok (.i2l, 1) := by decide +kernel
theorem dX9_checksum_26 : decode cX9_checksum 26 = .ok (.ladd, 1) := by decide +kernel
theorem dX9_checksum_27 : decode cX9_checksum 27 = .ok (.lstore_n 1, 1) := by decide +kernel
theorem dX9_checksum_28 : decode cX9_checksum 28 = .ok (.iinc 3 1, 3) := by decide +kernel
theorem dX9_checksum_31 : decode cX9_checksum 31 = .ok (.goto (-22), 3) := by decide +kernel
theorem dX9_checksum_34 : decode cX9_checksum 34 = .ok (.iconst 0, 1) := by decide +kernel
theorem dX9_checksum_35 : decode cX9_checksum 35 = .ok (.istore_n 3, 1) := by decide +kernel
theorem dX9_checksum_36 : decode cX9_checksum 36 = .ok (.iload_n 3, 1) := by decide +kernel
theorem dX9_checksum_37 : decode cX9_checksum 37 = .ok (.bipush 6, 2) := by decide +kernel
theorem dX9_checksum_39 : decode cX9_checksum 39 = .ok (.if_icmp .ge 26, 3) := by decide +kernel
theorem dX9_checksum_42 : decode cX9_checksum 42 = .ok (.ldc2_w 338, 3) := by decide +kernel
theorem dX9_checksum_45 : decode cX9_checksum 45 = .ok (.lload_n 1, 1) := by decide +kernel
theorem dX9_checksum_46 : decode cX9_checksum 46 = .ok (.lmul, 1) := by decide +kernel
theorem dX9_checksum_47 : decode cX9_checksum 47 = .ok (.aload_n 0, 1) := by decide +kernel
theorem dX9_checksum_48 : decode cX9_checksum 48 = .ok (.getfield 7, 3) := by decide +kernel
theorem dX9_checksum_51 : decode cX9_checksum 51 = .ok (.bipush 7, 2) := by decide +kernel
theorem dX9_checksum_53 : decode cX9_checksum 53 = .ok (.iload_n 3, 1) := by decide +kernel
theorem dX9_checksum_54 : decode cX9_checksum 54 = .ok (.iadd, 1) := by decide +kernel
theorem dX9_checksum_55 : decode cX9_checksum 55 = .ok (.iaload, 1) := by decide +kernel
theorem dX9_checksum_56 : decode cX9_checksum 56 = .ok (.i2l, 1) := by decide +kernel
theorem dX9_checksum_57 : decode cX9_checksum 57 = .ok (.ladd, 1) := by decide +kernel
theorem dX9_checksum_58 : decode cX9_checksum 58 = .ok (.lstore_n 1, 1) := by decide +kernel
theorem dX9_checksum_59 : decode cX9_checksum 59 = .ok (.iinc 3 1, 3) := by decide +kernel
theorem dX9_checksum_62 : decode cX9_checksum 62 = .ok (.goto (-26), 3) := by decide +kernel
theorem dX9_checksum_65 : decode cX9_checksum 65 = .ok (.iconst 0, 1) := by decide +kernel
theorem dX9_checksum_66 : decode cX9_checksum 66 = .ok (.istore_n 3, 1) := by decide +kernel
theorem dX9_checksum_67 : decode cX9_checksum 67 = .ok (.iload_n 3, 1) := by decide +kernel
theorem dX9_checksum_68 : decode cX9_checksum 68 = .ok (.aload_n 0, 1) := by decide +kernel
theorem dX9_checksum_69 : decode cX9_checksum 69 = .ok (.getfield 7, 3) := by decide +kernel
theorem dX9_checksum_72 : decode cX9_checksum 72 = .ok (.iconst 0, 1) := by decide +kernel
theorem dX9_checksum_73 : decode cX9_checksum 73 = .ok (.iaload, 1) := by decide +kernel
theorem dX9_checksum_74 : decode cX9_checksum 74 = .ok (.if_icmp .ge 47, 3) := by decide +kernel
theorem dX9_checksum_77 : decode cX9_checksum 77 = .ok (.iconst 0, 1) := by decide +kernel
theorem dX9_checksum_78 : decode cX9_checksum 78 = .ok (.istore 4, 2) := by decide +kernel
theorem dX9_checksum_80 : decode cX9_checksum 80 = .ok (.iload 4, 2) := by decide +kernel
theorem dX9_checksum_82 : decode cX9_checksum 82 = .ok (.bipush 11, 2) := by decide +kernel
theorem dX9_checksum_84 : decode cX9_checksum 84 = .ok (.if_icmp .ge 24, 3) := by decide +kernel
theorem dX9_checksum_87 : decode cX9_checksum 87 = .ok (.ldc2_w 338, 3) := by decide +kernel
theorem dX9_checksum_90 : decode cX9_checksum 90 = .ok (.lload_n 1, 1) := by decide +kernel
theorem dX9_checksum_91 : decode cX9_checksum 91 = .ok (.lmul, 1) := by decide +kernel
theorem dX9_checksum_92 : decode cX9_checksum 92 = .ok (.aload_n 0, 1) := by decide +kernel
theorem dX9_checksum_93 : decode cX9_checksum 93 = .ok (.iload_n 3, 1) := by decide +kernel
theorem dX9_checksum_94 : decode cX9_checksum 94 = .ok (.iload 4, 2) := by decide +kernel
theorem dX9_checksum_96 : decode cX9_checksum 96 = .ok (.invokevirtual 287, 3) := by decide +kernel
theorem dX9_checksum_99 : decode cX9_checksum 99 = .ok (.i2l, 1) := by decide +kernel
theorem dX9_checksum_100 : decode cX9_checksum 100 = .ok (.ladd, 1) := by decide +kernel
theorem dX9_checksum_101 : decode cX9_checksum 101 = .ok (.lstore_n 1, 1) := by decide +kernel
theorem dX9_checksum_102 : decode cX9_checksum 102 = .ok (.iinc 4 1, 3) := by decide +kernel
theorem dX9_checksum_105 : decode cX9_checksum 105 = .ok (.goto (-25), 3) := by decide +kernel
theorem dX9_checksum_108 : decode cX9_checksum 108 = .ok (.aload_n 0, 1) := by decide +kernel
theorem dX9_checksum_109 : decode cX9_checksum 109 = .ok (.lload_n 1, 1) := by decide +kernel
theorem dX9_checksum_110 : decode cX9_checksum 110 = .ok (.iload_n 3, 1) := by decide +kernel
theorem dX9_checksum_111 : decode cX9_checksum 111 = .ok (.invokevirtual 340, 3) := by decide +kernel
theorem dX9_checksum_114 : decode cX9_checksum 114 = .ok (.lstore_n 1, 1) := by decide +kernel
theorem dX9_checksum_115 : decode cX9_checksum 115 = .ok (.iinc 3 1, 3) := by decide +kernel
theorem dX9_checksum_118 : decode cX9_checksum 118 = .ok (.goto (-51), 3) := by decide +kernel
theorem dX9_checksum_121 : decode cX9_checksum 121 = .ok (.iconst 0, 1) := by decide +kernel
theorem dX9_checksum_122 : decode cX9_checksum 122 = .ok (.istore_n 3, 1) := by decide +kernel
theorem dX9_checksum_123 : decode cX9_checksum 123 = .ok (.iload_n 3, 1) := by decide +kernel
theorem dX9_checksum_124 : decode cX9_checksum 124 = .ok (.iconst 2, 1) := by decide +kernel
theorem dX9_checksum_125 : decode cX9_checksum 125 = .ok (.aload_n 0, 1) := by decide +kernel
theorem dX9_checksum_126 : decode cX9_checksum 126 = .ok (.getfield 7, 3) := by decide +kernel
theorem dX9_checksum_129 : decode cX9_checksum 129 = .ok (.bipush 13, 2) := by decide +kernel
theorem dX9_checksum_131 : decode cX9_checksum 131 = .ok (.iaload, 1) := by decide +kernel
theorem dX9_checksum_132 : decode cX9_checksum 132 = .ok (.imul, 1) := by decide +kernel
theorem dX9_checksum_133 : decode cX9_checksum 133 = .ok (.if_icmp .ge 26, 3) := by decide +kernel
theorem dX9_checksum_136 : decode cX9_checksum 136 = .ok (.ldc2_w 338, 3) := by decide +kernel
theorem dX9_checksum_139 : decode cX9_checksum 139 = .ok (.lload_n 1, 1) := by decide +kernel
theorem dX9_checksum_140 : decode cX9_checksum 140 = .ok (.lmul, 1) := by decide +kernel
theorem dX9_checksum_141 : decode cX9_checksum 141 = .ok (.aload_n 0, 1) := by decide +kernel
theorem dX9_checksum_142 : decode cX9_checksum 142 = .ok (.getfield 7, 3) := by decide +kernel
theorem dX9_checksum_145 : decode cX9_checksum 145 = .ok (.bipush 14, 2) := by decide +kernel
theorem dX9_checksum_147 : decode cX9_checksum 147 = .ok (.iload_n 3, 1) := by decide +kernel
theorem dX9_checksum_148 : decode cX9_checksum 148 = .ok (.iadd, 1) := by decide +kernel
theorem dX9_checksum_149 : decode cX9_checksum 149 = .ok (.iaload, 1) := by decide +kernel
theorem dX9_checksum_150 : decode cX9_checksum 150 = .ok (.i2l, 1) := by decide +kernel
theorem dX9_checksum_151 : decode cX9_checksum 151 = .ok (.ladd, 1) := by decide +kernel
theorem dX9_checksum_152 : decode cX9_checksum 152 = .ok (.lstore_n 1, 1) := by decide +kernel
theorem dX9_checksum_153 : decode cX9_checksum 153 = .ok (.iinc 3 1, 3) := by decide +kernel
theorem dX9_checksum_156 : decode cX9_checksum 156 = .ok (.goto (-33), 3) := by decide +kernel
theorem dX9_checksum_159 : decode cX9_checksum 159 = .ok (.iconst 0, 1) := by decide +kernel
theorem dX9_checksum_160 : decode cX9_checksum 160 = .ok (.istore_n 3, 1) := by decide +kernel
theorem dX9_checksum_161 : decode cX9_checksum 161 = .ok (.iload_n 3, 1) := by decide +kernel
theorem dX9_checksum_162 : decode cX9_checksum 162 = .ok (.bipush 10, 2) := by decide +kernel
theorem dX9_checksum_164 : decode cX9_checksum 164 = .ok (.if_icmp .ge 26, 3) := by decide +kernel
theorem dX9_checksum_167 : decode cX9_checksum 167 = .ok (.ldc2_w 338, 3) := by decide +kernel
theorem dX9_checksum_170 : decode cX9_checksum 170 = .ok (.lload_n 1, 1) := by decide +kernel
theorem dX9_checksum_171 : decode cX9_checksum 171 = .ok (.lmul, 1) := by decide +kernel
theorem dX9_checksum_172 : decode cX9_checksum 172 = .ok (.aload_n 0, 1) := by decide +kernel
theorem dX9_checksum_173 : decode cX9_checksum 173 = .ok (.getfield 7, 3) := by decide +kernel
theorem dX9_checksum_176 : decode cX9_checksum 176 = .ok (.bipush 42, 2) := by decide +kernel
theorem dX9_checksum_178 : decode cX9_checksum 178 = .ok (.iload_n 3, 1) := by decide +kernel
theorem dX9_checksum_179 : decode cX9_checksum 179 = .ok (.iadd, 1) := by decide +kernel
theorem dX9_checksum_180 : decode cX9_checksum 180 = .ok (.iaload, 1) := by decide +kernel
theorem dX9_checksum_181 : decode cX9_checksum 181 = .ok (.i2l, 1) := by decide +kernel
theorem dX9_checksum_182 : decode cX9_checksum 182 = .ok (.ladd, 1) := by decide +kernel
theorem dX9_checksum_183 : decode cX9_checksum 183 = .ok (.lstore_n 1, 1) := by decide +kernel
theorem dX9_checksum_184 : decode cX9_checksum 184 = .ok (.iinc 3 1, 3) := by decide +kernel
theorem dX9_checksum_187 : decode cX9_checksum 187 = .ok (.goto (-26), 3) := by decide +kernel
theorem dX9_checksum_190 : decode cX9_checksum 190 = .ok (.lload_n 1, 1) := by decide +kernel
theorem dX9_checksum_191 : decode cX9_checksum 191 = .ok (.lreturn, 1) := by decide +kernel
theorem dX9_heardSum_0 : decode cX9_heardSum 0 = .ok (.lload_n 1, 1) := by decide +kernel
theorem dX9_heardSum_1 : decode cX9_heardSum 1 = .ok (.lstore 4, 2) := by decide +kernel
theorem dX9_heardSum_3 : decode cX9_heardSum 3 = .ok (.iconst 0, 1) := by decide +kernel
theorem dX9_heardSum_4 : decode cX9_heardSum 4 = .ok (.istore 6, 2) := by decide +kernel
theorem dX9_heardSum_6 : decode cX9_heardSum 6 = .ok (.iload 6, 2) := by decide +kernel
theorem dX9_heardSum_8 : decode cX9_heardSum 8 = .ok (.aload_n 0, 1) := by decide +kernel
theorem dX9_heardSum_9 : decode cX9_heardSum 9 = .ok (.getfield 7, 3) := by decide +kernel
theorem dX9_heardSum_12 : decode cX9_heardSum 12 = .ok (.iconst 0, 1) := by decide +kernel
theorem dX9_heardSum_13 : decode cX9_heardSum 13 = .ok (.iaload, 1) := by decide +kernel
theorem dX9_heardSum_14 : decode cX9_heardSum 14 = .ok (.if_icmp .ge 26, 3) := by decide +kernel
theorem dX9_heardSum_17 : decode cX9_heardSum 17 = .ok (.ldc2_w 338, 3) := by decide +kernel
theorem dX9_heardSum_20 : decode cX9_heardSum 20 = .ok (.lload 4, 2) := by decide +kernel
theorem dX9_heardSum_22 : decode cX9_heardSum 22 = .ok (.lmul, 1) := by decide +kernel
theorem dX9_heardSum_23 : decode cX9_heardSum 23 = .ok (.aload_n 0, 1) := by decide +kernel
theorem dX9_heardSum_24 : decode cX9_heardSum 24 = .ok (.iload_n 3, 1) := by decide +kernel
theorem dX9_heardSum_25 : decode cX9_heardSum 25 = .ok (.iload 6, 2) := by decide +kernel
theorem dX9_heardSum_27 : decode cX9_heardSum 27 = .ok (.invokevirtual 290, 3) := by decide +kernel
theorem dX9_heardSum_30 : decode cX9_heardSum 30 = .ok (.i2l, 1) := by decide +kernel
theorem dX9_heardSum_31 : decode cX9_heardSum 31 = .ok (.ladd, 1) := by decide +kernel
theorem dX9_heardSum_32 : decode cX9_heardSum 32 = .ok (.lstore 4, 2) := by decide +kernel
theorem dX9_heardSum_34 : decode cX9_heardSum 34 = .ok (.iinc 6 1, 3) := by decide +kernel
theorem dX9_heardSum_37 : decode cX9_heardSum 37 = .ok (.goto (-31), 3) := by decide +kernel
theorem dX9_heardSum_40 : decode cX9_heardSum 40 = .ok (.lload 4, 2) := by decide +kernel
theorem dX9_heardSum_42 : decode cX9_heardSum 42 = .ok (.lreturn, 1) := by decide +kernel
