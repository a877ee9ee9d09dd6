theorem dX1_init_0 : decode cX1_init 0 = .ok (.aload_n 0, 1) := by decide +kernel
theorem dX1_init_1 : decode cX1_init 1 = .ok (.invokespecial 3, 3) := by decide +kernel
theorem dX1_init_4 : decode cX1_init 4 = .ok (.aload_n 0, 1) := by decide +kernel
theorem dX1_init_5 : decode cX1_init 5 = .ok (.bipush 8, 2) := by decide +kernel
theorem dX1_init_7 : decode cX1_init 7 = .ok (.anewarray 9, 3) := by decide +kernel
theorem dX1_init_10 : decode cX1_init 10 = .ok (.putfield 11, 3) := by decide +kernel
theorem dX1_init_13 : decode cX1_init 13 = .ok (.aload_n 0, 1) := by decide +kernel
theorem dX1_init_14 : decode cX1_init 14 = .ok (.iconst 0, 1) := by decide +kernel
theorem dX1_init_15 : decode cX1_init 15 = .ok (.putfield 17, 3) := by decide +kernel
theorem dX1_init_18 : decode cX1_init 18 = .ok (.aload_n 0, 1) := by decide +kernel
theorem dX1_init_19 : decode cX1_init 19 = .ok (.iconst 0, 1) := by decide +kernel
theorem dX1_init_20 : decode cX1_init 20 = .ok (.putfield 21, 3) := by decide +kernel
theorem dX1_init_23 : decode cX1_init 23 = .ok (.iconst 0, 1) := by decide +kernel
theorem dX1_init_24 : decode cX1_init 24 = .ok (.istore_n 1, 1) := by decide +kernel
theorem dX1_init_25 : decode cX1_init 25 = .ok (.iload_n 1, 1) := by decide +kernel
theorem dX1_init_26 : decode cX1_init 26 = .ok (.aload_n 0, 1) := by decide +kernel
theorem dX1_init_27 : decode cX1_init 27 = .ok (.getfield 11, 3) := by decide +kernel
theorem dX1_init_30 : decode cX1_init 30 = .ok (.arraylength, 1) := by decide +kernel
theorem dX1_init_31 : decode cX1_init 31 = .ok (.if_icmp .ge 22, 3) := by decide +kernel
theorem dX1_init_34 : decode cX1_init 34 = .ok (.aload_n 0, 1) := by decide +kernel
theorem dX1_init_35 : decode cX1_init 35 = .ok (.getfield 11, 3) := by decide +kernel
theorem dX1_init_38 : decode cX1_init 38 = .ok (.iload_n 1, 1) := by decide +kernel
theorem dX1_init_39 : decode cX1_init 39 = .ok (.new 9, 3) := by decide +kernel
theorem dX1_init_42 : decode cX1_init 42 = .ok (.dup, 1) := by decide +kernel
theorem dX1_init_43 : decode cX1_init 43 = .ok (.invokespecial 24, 3) := by decide +kernel
theorem dX1_init_46 : decode cX1_init 46 = .ok (.aastore, 1) := by decide +kernel
theorem dX1_init_47 : decode cX1_init 47 = .ok (.iinc 1 1, 3) := by decide +kernel
theorem dX1_init_50 : decode cX1_init 50 = .ok (.goto (-25), 3) := by decide +kernel
theorem dX1_init_53 : decode cX1_init 53 = .ok (.return_, 1) := by decide +kernel
theorem dX1_keep_0 : decode cX1_keep 0 = .ok (.aload_n 0, 1) := by decide +kernel
theorem dX1_keep_1 : decode cX1_keep 1 = .ok (.getfield 17, 3) := by decide +kernel
theorem dX1_keep_4 : decode cX1_keep 4 = .ok (.ifCond .lt 80, 3) := by decide +kernel
theorem dX1_keep_7 : decode cX1_keep 7 = .ok (.aload_n 0, 1) := by decide +kernel
theorem dX1_keep_8 : decode cX1_keep 8 = .ok (.getfield 17, 3) := by decide +kernel
theorem dX1_keep_11 : decode cX1_keep 11 = .ok (.aload_n 0, 1) := by decide +kernel
theorem dX1_keep_12 : decode cX1_keep 12 = .ok (.getfield 11, 3) := by decide +kernel
theorem dX1_keep_15 : decode cX1_keep 15 = .ok (.arraylength, 1) := by decide +kernel
theorem dX1_keep_16 : decode cX1_keep 16 = .ok (.if_icmp .ge 68, 3) := by decide +kernel
theorem dX1_keep_19 : decode cX1_keep 19 = .ok (.aload_n 0, 1) := by decide +kernel
theorem dX1_keep_20 : decode cX1_keep 20 = .ok (.getfield 11, 3) := by decide +kernel
theorem dX1_keep_23 : decode cX1_keep 23 = .ok (.aload_n 0, 1) := by decide +kernel
theorem dX1_keep_24 : decode cX1_keep 24 = .ok (.getfield 17, 3) := by decide +kernel
theorem dX1_keep_27 : decode cX1_keep 27 = .ok (.aaload, 1) := by decide +kernel
theorem dX1_keep_28 : decode cX1_keep 28 = .ok (.ifnull 56, 3) := by decide +kernel
theorem dX1_keep_31 : decode cX1_keep 31 = .ok (.aload_n 0, 1) := by decide +kernel
theorem dX1_keep_32 : decode cX1_keep 32 = .ok (.getfield 11, 3) := by decide +kernel
theorem dX1_keep_35 : decode cX1_keep 35 = .ok (.aload_n 0, 1) := by decide +kernel
theorem dX1_keep_36 : decode cX1_keep 36 = .ok (.getfield 17, 3) := by decide +kernel
theorem dX1_keep_39 : decode cX1_keep 39 = .ok (.aaload, 1) := by decide +kernel
theorem dX1_keep_40 : decode cX1_keep 40 = .ok (.aload_n 1, 1) := by decide +kernel
theorem dX1_keep_41 : decode cX1_keep 41 = .ok (.invokevirtual 25, 3) := by decide +kernel
theorem dX1_keep_44 : decode cX1_keep 44 = .ok (.aload_n 0, 1) := by decide +kernel
theorem dX1_keep_45 : decode cX1_keep 45 = .ok (.aload_n 0, 1) := by decide +kernel
theorem dX1_keep_46 : decode cX1_keep 46 = .ok (.getfield 17, 3) := by decide +kernel
theorem dX1_keep_49 : decode cX1_keep 49 = .ok (.iconst 1, 1) := by decide +kernel
theorem dX1_keep_50 : decode cX1_keep 50 = .ok (.iadd, 1) := by decide +kernel
theorem dX1_keep_51 : decode cX1_keep 51 = .ok (.bipush 8, 2) := by decide +kernel
theorem dX1_keep_53 : decode cX1_keep 53 = .ok (.if_icmp .ge 12, 3) := by decide +kernel
theorem dX1_keep_56 : decode cX1_keep 56 = .ok (.aload_n 0, 1) := by decide +kernel
theorem dX1_keep_57 : decode cX1_keep 57 = .ok (.getfield 17, 3) := by decide +kernel
theorem dX1_keep_60 : decode cX1_keep 60 = .ok (.iconst 1, 1) := by decide +kernel
theorem dX1_keep_61 : decode cX1_keep 61 = .ok (.iadd, 1) := by decide +kernel
theorem dX1_keep_62 : decode cX1_keep 62 = .ok (.goto 4, 3) := by decide +kernel
theorem dX1_keep_65 : decode cX1_keep 65 = .ok (.iconst 0, 1) := by decide +kernel
theorem dX1_keep_66 : decode cX1_keep 66 = .ok (.putfield 17, 3) := by decide +kernel
theorem dX1_keep_69 : decode cX1_keep 69 = .ok (.aload_n 0, 1) := by decide +kernel
theorem dX1_keep_70 : decode cX1_keep 70 = .ok (.aload_n 0, 1) := by decide +kernel
theorem dX1_keep_71 : decode cX1_keep 71 = .ok (.getfield 21, 3) := by decide +kernel
theorem dX1_keep_74 : decode cX1_keep 74 = .ok (.iconst 1, 1) := by decide +kernel
theorem dX1_keep_75 : decode cX1_keep 75 = .ok (.iadd, 1) := by decide +kernel
theorem dX1_keep_76 : decode cX1_keep 76 = .ok (.bipush 8, 2) := by decide +kernel
theorem dX1_keep_78 : decode cX1_keep 78 = .ok (.invokestatic 29, 3) := by decide +kernel
theorem dX1_keep_81 : decode cX1_keep 81 = .ok (.putfield 21, 3) := by decide +kernel
theorem dX1_keep_84 : decode cX1_keep 84 = .ok (.return_, 1) := by decide +kernel
theorem dX1_takeBack_0 : decode cX1_takeBack 0 = .ok (.aload_n 0, 1) := by decide +kernel
theorem dX1_takeBack_1 : decode cX1_takeBack 1 = .ok (.getfield 17, 3) := by decide +kernel
theorem dX1_takeBack_4 : decode cX1_takeBack 4 = .ok (.ifCond .le 12, 3) := by decide +kernel
theorem dX1_takeBack_7 : decode cX1_takeBack 7 = .ok (.aload_n 0, 1) := by decide +kernel
theorem dX1_takeBack_8 : decode cX1_takeBack 8 = .ok (.getfield 17, 3) := by decide +kernel
theorem dX1_takeBack_11 : decode cX1_takeBack 11 = .ok (.iconst 1, 1) := by decide +kernel
theorem dX1_takeBack_12 : decode cX1_takeBack 12 = .ok (.isub, 1) := by decide +kernel
theorem dX1_takeBack_13 : decode cX1_takeBack 13 = .ok (.goto 5, 3) := by decide +kernel
theorem dX1_takeBack_16 : decode cX1_takeBack 16 = .ok (.bipush 7, 2) := by decide +kernel
theorem dX1_takeBack_18 : decode cX1_takeBack 18 = .ok (.istore_n 2, 1) := by decide +kernel
theorem dX1_takeBack_19 : decode cX1_takeBack 19 = .ok (.aload_n 0, 1) := by decide +kernel
theorem dX1_takeBack_20 : decode cX1_takeBack 20 = .ok (.getfield 21, 3) := by decide +kernel
theorem dX1_takeBack_23 : decode cX1_takeBack 23 = .ok (.ifCond .eq 21, 3) := by decide +kernel
theorem dX1_takeBack_26 : decode cX1_takeBack 26 = .ok (.iload_n 2, 1) := by decide +kernel
theorem dX1_takeBack_27 : decode cX1_takeBack 27 = .ok (.aload_n 0, 1) := by decide +kernel
theorem dX1_takeBack_28 : decode cX1_takeBack 28 = .ok (.getfield 11, 3) := by decide +kernel
theorem dX1_takeBack_31 : decode cX1_takeBack 31 = .ok (.arraylength, 1) := by decide +kernel
theorem dX1_takeBack_32 : decode cX1_takeBack 32 = .ok (.if_icmp .ge 12, 3) := by decide +kernel
theorem dX1_takeBack_35 : decode cX1_takeBack 35 = .ok (.aload_n 0, 1) := by decide +kernel
theorem dX1_takeBack_36 : decode cX1_takeBack 36 = .ok (.getfield 11, 3) := by decide +kernel
theorem dX1_takeBack_39 : decode cX1_takeBack 39 = .ok (.iload_n 2, 1) := by decide +kernel
theorem dX1_takeBack_40 : decode cX1_takeBack 40 = .ok (.aaload, 1) := by decide +kernel
theorem dX1_takeBack_41 : decode cX1_takeBack 41 = .ok (.ifnonnull 5, 3) := by decide +kernel
theorem dX1_takeBack_44 : decode cX1_takeBack 44 = .ok (.iconst 0, 1) := by decide +kernel
theorem dX1_takeBack_45 : decode cX1_takeBack 45 = .ok (.ireturn, 1) := by decide +kernel
theorem dX1_takeBack_46 : decode cX1_takeBack 46 = .ok (.aload_n 1, 1) := by decide +kernel
theorem dX1_takeBack_47 : decode cX1_takeBack 47 = .ok (.aload_n 0, 1) := by decide +kernel
theorem dX1_takeBack_48 : decode cX1_takeBack 48 = .ok (.getfield 11, 3) := by decide +kernel
theorem dX1_takeBack_51 : decode cX1_takeBack 51 = .ok (.iload_n 2, 1) := by decide +kernel
theorem dX1_takeBack_52 : decode cX1_takeBack 52 = .ok (.aaload, 1) := by decide +kernel
theorem dX1_takeBack_53 : decode cX1_takeBack 53 = .ok (.invokevirtual 25, 3) := by decide +kernel
theorem dX1_takeBack_56 : decode cX1_takeBack 56 = .ok (.aload_n 0, 1) := by decide +kernel
theorem dX1_takeBack_57 : decode cX1_takeBack 57 = .ok (.iload_n 2, 1) := by decide +kernel
theorem dX1_takeBack_58 : decode cX1_takeBack 58 = .ok (.putfield 17, 3) := by decide +kernel
theorem dX1_takeBack_61 : decode cX1_takeBack 61 = .ok (.aload_n 0, 1) := by decide +kernel
theorem dX1_takeBack_62 : decode cX1_takeBack 62 = .ok (.dup, 1) := by decide +kernel
theorem dX1_takeBack_63 : decode cX1_takeBack 63 = .ok (.getfield 21, 3) := by decide +kernel
theorem dX1_takeBack_66 : decode cX1_takeBack 66 = .ok (.iconst 1, 1) := by decide +kernel
theorem dX1_takeBack_67 : decode cX1_takeBack 67 = .ok (.isub, 1) := by decide +kernel
theorem dX1_takeBack_68 : decode cX1_takeBack 68 = .ok (.putfield 21, 3) := by decide +kernel
theorem dX1_takeBack_71 : decode cX1_takeBack 71 = .ok (.iconst 1, 1) := by decide +kernel
theorem dX1_takeBack_72 : decode cX1_takeBack 72 = .ok (.ireturn, 1) := by decide +kernel
theorem dX1_forget_0 : decode cX1_forget 0 = .ok (.aload_n 0, 1) := by decide +kernel
theorem dX1_forget_1 : decode cX1_forget 1 = .ok (.iconst 0, 1) := by decide +kernel
theorem dX1_forget_2 : decode cX1_forget 2 = .ok (.putfield 17, 3) := by decide +kernel
theorem dX1_forget_5 : decode cX1_forget 5 = .ok (.aload_n 0, 1) := by decide +kernel
theorem dX1_forget_6 : decode cX1_forget 6 = .ok (.iconst 0, 1) := by decide +kernel
theorem dX1_forget_7 : decode cX1_forget 7 = .ok (.putfield 21, 3) := by decide +kernel
theorem dX1_forget_10 : decode cX1_forget 10 = .ok (.return_, 1) := by decide +kernel
theorem dX2_init_0 : decode cX2_init 0 = .ok (.aload_n 0, 1) := by decide +kernel
theorem dX2_init_1 : decode cX2_init 1 = .ok (.invokespecial 3, 3) := by decide +kernel
theorem dX2_init_4 : decode cX2_init 4 = .ok (.aload_n 0, 1) := by decide +kernel
theorem dX2_init_5 : decode cX2_init 5 = .ok (.iconst 0, 1) := by decide +kernel
theorem dX2_init_6 : decode cX2_init 6 = .ok (.putfield 9, 3) := by decide +kernel
theorem dX2_init_9 : decode cX2_init 9 = .ok (.aload_n 0, 1) := by decide +kernel
theorem dX2_init_10 : decode cX2_init 10 = .ok (.iconst 0, 1) := by decide +kernel
theorem dX2_init_11 : decode cX2_init 11 = .ok (.putfield 15, 3) := by decide +kernel
theorem dX2_init_14 : decode cX2_init 14 = .ok (.aload_n 0, 1) := by decide +kernel
theorem dX2_init_15 : decode cX2_init 15 = .ok (.iconst 0, 1) := by decide +kernel
theorem dX2_init_16 : decode cX2_init 16 = .ok (.putfield 18, 3) := by decide +kernel
theorem dX2_init_19 : decode cX2_init 19 = .ok (.aload_n 0, 1) := by decide +kernel
theorem dX2_init_20 : decode cX2_init 20 = .ok (.bipush 6, 2) := by decide +kernel
theorem dX2_init_22 : decode cX2_init 22 = .ok (.newarray .int, 2) := by decide +kernel
theorem dX2_init_24 : decode cX2_init 24 = .ok (.putfield 21, 3) := by decide +kernel
theorem dX2_init_27 : decode cX2_init 27 = .ok (.aload_n 0, 1) := by decide +kernel
theorem dX2_init_28 : decode cX2_init 28 = .ok (.bipush 10, 2) := by decide +kernel
theorem dX2_init_30 : decode cX2_init 30 = .ok (.newarray .int, 2) := by decide +kernel
theorem dX2_init_32 : decode cX2_init 32 = .ok (.putfield 25, 3) := by decide +kernel
theorem dX2_init_35 : decode cX2_init 35 = .ok (.aload_n 0, 1) := by decide +kernel
theorem dX2_init_36 : decode cX2_init 36 = .ok (.bipush 110, 2) := by decide +kernel
theorem dX2_init_38 : decode cX2_init 38 = .ok (.newarray .int, 2) := by decide +kernel
theorem dX2_init_40 : decode cX2_init 40 = .ok (.putfield 28, 3) := by decide +kernel
theorem dX2_init_43 : decode cX2_init 43 = .ok (.aload_n 0, 1) := by decide +kernel
theorem dX2_init_44 : decode cX2_init 44 = .ok (.bipush 100, 2) := by decide +kernel
theorem dX2_init_46 : decode cX2_init 46 = .ok (.newarray .int, 2) := by decide +kernel
theorem dX2_init_48 : decode cX2_init 48 = .ok (.putfield 31, 3) := by decide +kernel
theorem dX2_init_51 : decode cX2_init 51 = .ok (.aload_n 0, 1) := by decide +kernel
theorem dX2_init_52 : decode cX2_init 52 = .ok (.new 34, 3) := by decide +kernel
theorem dX2_init_55 : decode cX2_init 55 = .ok (.dup, 1) := by decide +kernel
theorem dX2_init_56 : decode cX2_init 56 = .ok (.invokespecial 36, 3) := by decide +kernel
theorem dX2_init_59 : decode cX2_init 59 = .ok (.putfield 37, 3) := by decide +kernel
theorem dX2_init_62 : decode cX2_init 62 = .ok (.aload_n 0, 1) := by decide +kernel
theorem dX2_init_63 : decode cX2_init 63 = .ok (.new 41, 3) := by decide +kernel
theorem dX2_init_66 : decode cX2_init 66 = .ok (.dup, 1) := by decide +kernel
theorem dX2_init_67 : decode cX2_init 67 = .ok (.invokespecial 43, 3) := by decide +kernel
theorem dX2_init_70 : decode cX2_init 70 = .ok (.putfield 44, 3) := by decide +kernel
theorem dX2_init_73 : decode cX2_init 73 = .ok (.aload_n 0, 1) := by decide +kernel
theorem dX2_init_74 : decode cX2_init 74 = .ok (.new 48, 3) := by decide +kernel
theorem dX2_init_77 : decode cX2_init 77 = .ok (.dup, 1) := by decide +kernel
theorem dX2_init_78 : decode cX2_init 78 = .ok (.invokespecial 50, 3) := by decide +kernel
theorem dX2_init_81 : decode cX2_init 81 = .ok (.putfield 51, 3) := by decide +kernel
theorem dX2_init_84 : decode cX2_init 84 = .ok (.return_, 1) := by decide +kernel
theorem dX2_clear_0 : decode cX2_clear 0 = .ok (.aload_n 0, 1) := by decide +kernel
theorem dX2_clear_1 : decode cX2_clear 1 = .ok (.iconst 0, 1) := by decide +kernel
theorem dX2_clear_2 : decode cX2_clear 2 = .ok (.putfield 9, 3) := by decide +kernel
theorem dX2_clear_5 : decode cX2_clear 5 = .ok (.aload_n 0, 1) := by decide +kernel
theorem dX2_clear_6 : decode cX2_clear 6 = .ok (.iconst 0, 1) := by decide +kernel
theorem dX2_clear_7 : decode cX2_clear 7 = .ok (.putfield 15, 3) := by decide +kernel
theorem dX2_clear_10 : decode cX2_clear 10 = .ok (.aload_n 0, 1) := by decide +kernel
theorem dX2_clear_11 : decode cX2_clear 11 = .ok (.iconst 0, 1) := by decide +kernel
theorem dX2_clear_12 : decode cX2_clear 12 = .ok (.putfield 18, 3) := by decide +kernel
theorem dX2_clear_15 : decode cX2_clear 15 = .ok (.getstatic 55, 3) := by decide +kernel
theorem dX2_clear_18 : decode cX2_clear 18 = .ok (.aload_n 0, 1) := by decide +kernel
theorem dX2_clear_19 : decode cX2_clear 19 = .ok (.getfield 21, 3) := by decide +kernel
theorem dX2_clear_22 : decode cX2_clear 22 = .ok (.invokestatic 58, 3) := by decide +kernel
theorem dX2_clear_25 : decode cX2_clear 25 = .ok (.aload_n 0, 1) := by decide +kernel
theorem dX2_clear_26 : decode cX2_clear 26 = .ok (.getfield 25, 3) := by decide +kernel
theorem dX2_clear_29 : decode cX2_clear 29 = .ok (.iconst 0, 1) := by decide +kernel
theorem dX2_clear_30 : decode cX2_clear 30 = .ok (.invokestatic 62, 3) := by decide +kernel
theorem dX2_clear_33 : decode cX2_clear 33 = .ok (.aload_n 0, 1) := by decide +kernel
theorem dX2_clear_34 : decode cX2_clear 34 = .ok (.getfield 28, 3) := by decide +kernel
theorem dX2_clear_37 : decode cX2_clear 37 = .ok (.iconst 0, 1) := by decide +kernel
theorem dX2_clear_38 : decode cX2_clear 38 = .ok (.invokestatic 62, 3) := by decide +kernel
theorem dX2_clear_41 : decode cX2_clear 41 = .ok (.aload_n 0, 1) := by decide +kernel
theorem dX2_clear_42 : decode cX2_clear 42 = .ok (.getfield 31, 3) := by decide +kernel
theorem dX2_clear_45 : decode cX2_clear 45 = .ok (.iconst 0, 1) := by decide +kernel
theorem dX2_clear_46 : decode cX2_clear 46 = .ok (.invokestatic 62, 3) := by decide +kernel
theorem dX2_clear_49 : decode cX2_clear 49 = .ok (.aload_n 0, 1) := by decide +kernel
theorem dX2_clear_50 : decode cX2_clear 50 = .ok (.getfield 37, 3) := by decide +kernel
theorem dX2_clear_53 : decode cX2_clear 53 = .ok (.invokevirtual 68, 3) := by decide +kernel
theorem dX2_clear_56 : decode cX2_clear 56 = .ok (.aload_n 0, 1) := by decide +kernel
theorem dX2_clear_57 : decode cX2_clear 57 = .ok (.getfield 44, 3) := by decide +kernel
theorem dX2_clear_60 : decode cX2_clear 60 = .ok (.iconst 0, 1) := by decide +kernel
theorem dX2_clear_61 : decode cX2_clear 61 = .ok (.putfield 71, 3) := by decide +kernel
theorem dX2_clear_64 : decode cX2_clear 64 = .ok (.aload_n 0, 1) := by decide +kernel
theorem dX2_clear_65 : decode cX2_clear 65 = .ok (.getfield 51, 3) := by decide +kernel
theorem dX2_clear_68 : decode cX2_clear 68 = .ok (.iconst 0, 1) := by decide +kernel
theorem dX2_clear_69 : decode cX2_clear 69 = .ok (.putfield 74, 3) := by decide +kernel
theorem dX2_clear_72 : decode cX2_clear 72 = .ok (.return_, 1) := by decide +kernel
theorem dX2_copyFrom_0 : decode cX2_copyFrom 0 = .ok (.aload_n 0, 1) := by decide +kernel
theorem dX2_copyFrom_1 : decode cX2_copyFrom 1 = .ok (.aload_n 1, 1) := by decide +kernel
theorem dX2_copyFrom_2 : decode cX2_copyFrom 2 = .ok (.getfield 9, 3) := by decide +kernel
theorem dX2_copyFrom_5 : decode cX2_copyFrom 5 = .ok (.putfield 9, 3) := by decide +kernel
theorem dX2_copyFrom_8 : decode cX2_copyFrom 8 = .ok (.aload_n 0, 1) := by decide +kernel
theorem dX2_copyFrom_9 : decode cX2_copyFrom 9 = .ok (.aload_n 1, 1) := by decide +kernel
theorem dX2_copyFrom_10 : decode cX2_copyFrom 10 = .ok (.getfield 15, 3) := by decide +kernel
theorem dX2_copyFrom_13 : decode cX2_copyFrom 13 = .ok (.putfield 15, 3) := by decide +kernel
theorem dX2_copyFrom_16 : decode cX2_copyFrom 16 = .ok (.aload_n 0, 1) := by decide +kernel
theorem dX2_copyFrom_17 : decode cX2_copyFrom 17 = .ok (.aload_n 1, 1) := by decide +kernel
theorem dX2_copyFrom_18 : decode cX2_copyFrom 18 = .ok (.getfield 18, 3) := by decide +kernel
theorem dX2_copyFrom_21 : decode cX2_copyFrom 21 = .ok (.putfield 18, 3) := by decide +kernel
theorem dX2_copyFrom_24 : decode cX2_copyFrom 24 = .ok (.aload_n 1, 1) := by decide +kernel
theorem dX2_copyFrom_25 : decode cX2_copyFrom 25 = .ok (.getfield 21, 3) := by decide +kernel
theorem dX2_copyFrom_28 : decode cX2_copyFrom 28 = .ok (.aload_n 0, 1) := by decide +kernel
theorem dX2_copyFrom_29 : decode cX2_copyFrom 29 = .ok (.getfield 21, 3) := by decide +kernel
theorem dX2_copyFrom_32 : decode cX2_copyFrom 32 = .ok (.invokestatic 58, 3) := by decide +kernel
theorem dX2_copyFrom_35 : decode cX2_copyFrom 35 = .ok (.aload_n 1, 1) := by decide +kernel
theorem dX2_copyFrom_36 : decode cX2_copyFrom 36 = .ok (.getfield 25, 3) := by decide +kernel
theorem dX2_copyFrom_39 : decode cX2_copyFrom 39 = .ok (.aload_n 0, 1) := by decide +kernel
theorem dX2_copyFrom_40 : decode cX2_copyFrom 40 = .ok (.getfield 25, 3) := by decide +kernel
theorem dX2_copyFrom_43 : decode cX2_copyFrom 43 = .ok (.invokestatic 58, 3) := by decide +kernel
theorem dX2_copyFrom_46 : decode cX2_copyFrom 46 = .ok (.aload_n 1, 1) := by decide +kernel
theorem dX2_copyFrom_47 : decode cX2_copyFrom 47 = .ok (.getfield 28, 3) := by decide +kernel
theorem dX2_copyFrom_50 : decode cX2_copyFrom 50 = .ok (.aload_n 0, 1) := by decide +kernel
theorem dX2_copyFrom_51 : decode cX2_copyFrom 51 = .ok (.getfield 28, 3) := by decide +kernel
theorem dX2_copyFrom_54 : decode cX2_copyFrom 54 = .ok (.invokestatic 58, 3) := by decide +kernel
theorem dX2_copyFrom_57 : decode cX2_copyFrom 57 = .ok (.aload_n 1, 1) := by decide +kernel
theorem dX2_copyFrom_58 : decode cX2_copyFrom 58 = .ok (.getfield 31, 3) := by decide +kernel
theorem dX2_copyFrom_61 : decode cX2_copyFrom 61 = .ok (.aload_n 0, 1) := by decide +kernel
theorem dX2_copyFrom_62 : decode cX2_copyFrom 62 = .ok (.getfield 31, 3) := by decide +kernel
theorem dX2_copyFrom_65 : decode cX2_copyFrom 65 = .ok (.invokestatic 58, 3) := by decide +kernel
theorem dX2_copyFrom_68 : decode cX2_copyFrom 68 = .ok (.aload_n 0, 1) := by decide +kernel
theorem dX2_copyFrom_69 : decode cX2_copyFrom 69 = .ok (.getfield 37, 3) := by decide +kernel
theorem dX2_copyFrom_72 : decode cX2_copyFrom 72 = .ok (.aload_n 1, 1) := by decide +kernel
theorem dX2_copyFrom_73 : decode cX2_copyFrom 73 = .ok (.getfield 37, 3) := by decide +kernel
theorem dX2_copyFrom_76 : decode cX2_copyFrom 76 = .ok (.invokevirtual 75, 3) := by decide +kernel
theorem dX2_copyFrom_79 : decode cX2_copyFrom 79 = .ok (.aload_n 0, 1) := by decide +kernel
theorem dX2_copyFrom_80 : decode cX2_copyFrom 80 = .ok (.getfield 44, 3) := by decide +kernel
theorem dX2_copyFrom_83 : decode cX2_copyFrom 83 = .ok (.aload_n 1, 1) := by decide +kernel
theorem dX2_copyFrom_84 : decode cX2_copyFrom 84 = .ok (.getfield 44, 3) := by decide +kernel
theorem dX2_copyFrom_87 : decode cX2_copyFrom 87 = .ok (.invokevirtual 79, 3) := by decide +kernel
theorem dX2_copyFrom_90 : decode cX2_copyFrom 90 = .ok (.aload_n 0, 1) := by decide +kernel
theorem dX2_copyFrom_91 : decode cX2_copyFrom 91 = .ok (.getfield 51, 3) := by decide +kernel
theorem dX2_copyFrom_94 : decode cX2_copyFrom 94 = .ok (.aload_n 1, 1) := by decide +kernel
theorem dX2_copyFrom_95 : decode cX2_copyFrom 95 = .ok (.getfield 51, 3) := by decide +kernel
theorem dX2_copyFrom_98 : decode cX2_copyFrom 98 = .ok (.invokevirtual 82, 3) := by decide +kernel
theorem dX2_copyFrom_101 : decode cX2_copyFrom 101 = .ok (.return_, 1) := by decide +kernel
theorem dX2_get_0 : decode cX2_get 0 = .ok (.iload_n 1, 1) := by decide +kernel
theorem dX2_get_1 : decode cX2_get 1 = .ok (.bipush 11, 2) := by decide +kernel
theorem dX2_get_3 : decode cX2_get 3 = .ok (.imul, 1) := by decide +kernel
theorem dX2_get_4 : decode cX2_get 4 = .ok (.iload_n 2, 1) := by decide +kernel
theorem dX2_get_5 : decode cX2_get 5 = .ok (.iadd, 1) := by decide +kernel
theorem dX2_get_6 : decode cX2_get 6 = .ok (.istore_n 3, 1) := by decide +kernel
theorem dX2_get_7 : decode cX2_get 7 = .ok (.iload_n 3, 1) := by decide +kernel
theorem dX2_get_8 : decode cX2_get 8 = .ok (.ifCond .lt 21, 3) := by decide +kernel
theorem dX2_get_11 : decode cX2_get 11 = .ok (.iload_n 3, 1) := by decide +kernel
theorem dX2_get_12 : decode cX2_get 12 = .ok (.aload_n 0, 1) := by decide +kernel
theorem dX2_get_13 : decode cX2_get 13 = .ok (.getfield 28, 3) := by decide +kernel
theorem dX2_get_16 : decode cX2_get 16 = .ok (.arraylength, 1) := by decide +kernel
theorem dX2_get_17 : decode cX2_get 17 = .ok (.if_icmp .ge 12, 3) := by decide +kernel
theorem dX2_get_20 : decode cX2_get 20 = .ok (.aload_n 0, 1) := by decide +kernel
theorem dX2_get_21 : decode cX2_get 21 = .ok (.getfield 28, 3) := by decide +kernel
theorem dX2_get_24 : decode cX2_get 24 = .ok (.iload_n 3, 1) := by decide +kernel
theorem dX2_get_25 : decode cX2_get 25 = .ok (.iaload, 1) := by decide +kernel
theorem dX2_get_26 : decode cX2_get 26 = .ok (.goto 4, 3) := by decide +kernel
theorem dX2_get_29 : decode cX2_get 29 = .ok (.iconst 0, 1) := by decide +kernel
theorem dX2_get_30 : decode cX2_get 30 = .ok (.ireturn, 1) := by decide +kernel
theorem dX2_put_0 : decode cX2_put 0 = .ok (.iload_n 1, 1) := by decide +kernel
theorem dX2_put_1 : decode cX2_put 1 = .ok (.bipush 11, 2) := by decide +kernel
theorem dX2_put_3 : decode cX2_put 3 = .ok (.imul, 1) := by decide +kernel
theorem dX2_put_4 : decode cX2_put 4 = .ok (.iload_n 2, 1) := by decide +kernel
theorem dX2_put_5 : decode cX2_put 5 = .ok (.iadd, 1) := by decide +kernel
theorem dX2_put_6 : decode cX2_put 6 = .ok (.istore 4, 2) := by decide +kernel
theorem dX2_put_8 : decode cX2_put 8 = .ok (.iload 4, 2) := by decide +kernel
theorem dX2_put_10 : decode cX2_put 10 = .ok (.ifCond .lt 21, 3) := by decide +kernel
theorem dX2_put_13 : decode cX2_put 13 = .ok (.iload 4, 2) := by decide +kernel
theorem dX2_put_15 : decode cX2_put 15 = .ok (.aload_n 0, 1) := by decide +kernel
theorem dX2_put_16 : decode cX2_put 16 = .ok (.getfield 28, 3) := by decide +kernel
theorem dX2_put_19 : decode cX2_put 19 = .ok (.arraylength, 1) := by decide +kernel
theorem dX2_put_20 : decode cX2_put 20 = .ok (.if_icmp .ge 11, 3) := by decide +kernel
theorem dX2_put_23 : decode cX2_put 23 = .ok (.aload_n 0, 1) := by decide +kernel
theorem dX2_put_24 : decode cX2_put 24 = .ok (.getfield 28, 3) := by decide +kernel
theorem dX2_put_27 : decode cX2_put 27 = .ok (.iload 4, 2) := by decide +kernel
theorem dX2_put_29 : decode cX2_put 29 = .ok (.iload_n 3, 1) := by decide +kernel
theorem dX2_put_30 : decode cX2_put 30 = .ok (.iastore, 1) := by decide +kernel
theorem dX2_put_31 : decode cX2_put 31 = .ok (.return_, 1) := by decide +kernel
theorem dX2_settingNumber_0 : decode cX2_settingNumber 0 = .ok (.iload_n 1, 1) := by decide +kernel
theorem dX2_settingNumber_1 : decode cX2_settingNumber 1 = .ok (.ifCond .lt 21, 3) := by decide +kernel
theorem dX2_settingNumber_4 : decode cX2_settingNumber 4 = .ok (.iload_n 1, 1) := by decide +kernel
theorem dX2_settingNumber_5 : decode cX2_settingNumber 5 = .ok (.aload_n 0, 1) := by decide +kernel
theorem dX2_settingNumber_6 : decode cX2_settingNumber 6 = .ok (.getfield 21, 3) := by decide +kernel
theorem dX2_settingNumber_9 : decode cX2_settingNumber 9 = .ok (.arraylength, 1) := by decide +kernel
theorem dX2_settingNumber_10 : decode cX2_settingNumber 10 = .ok (.if_icmp .ge 12, 3) := by decide +kernel
theorem dX2_settingNumber_13 : decode cX2_settingNumber 13 = .ok (.aload_n 0, 1) := by decide +kernel
theorem dX2_settingNumber_14 : decode cX2_settingNumber 14 = .ok (.getfield 21, 3) := by decide +kernel
theorem dX2_settingNumber_17 : decode cX2_settingNumber 17 = .ok (.iload_n 1, 1) := by decide +kernel
theorem dX2_settingNumber_18 : decode cX2_settingNumber 18 = .ok (.iaload, 1) := by decide +kernel
theorem dX2_settingNumber_19 : decode cX2_settingNumber 19 = .ok (.goto 4, 3) := by decide +kernel
theorem dX2_settingNumber_22 : decode cX2_settingNumber 22 = .ok (.iconst 0, 1) := by decide +kernel
theorem dX2_settingNumber_23 : decode cX2_settingNumber 23 = .ok (.ireturn, 1) := by decide +kernel
theorem dX2_changeSetting_0 : decode cX2_changeSetting 0 = .ok (.aload_n 0, 1) := by decide +kernel
theorem dX2_changeSetting_1 : decode cX2_changeSetting 1 = .ok (.iload_n 1, 1) := by decide +kernel
theorem dX2_changeSetting_2 : decode cX2_changeSetting 2 = .ok (.invokevirtual 85, 3) := by decide +kernel
theorem dX2_changeSetting_5 : decode cX2_changeSetting 5 = .ok (.istore_n 3, 1) := by decide +kernel
theorem dX2_changeSetting_6 : decode cX2_changeSetting 6 = .ok (.iload_n 1, 1) := by decide +kernel
theorem dX2_changeSetting_7 : decode cX2_changeSetting 7 = .ok (.ifCond .lt 19, 3) := by decide +kernel
theorem dX2_changeSetting_10 : decode cX2_changeSetting 10 = .ok (.iload_n 1, 1) := by decide +kernel
theorem dX2_changeSetting_11 : decode cX2_changeSetting 11 = .ok (.aload_n 0, 1) := by decide +kernel
theorem dX2_changeSetting_12 : decode cX2_changeSetting 12 = .ok (.getfield 21, 3) := by decide +kernel
theorem dX2_changeSetting_15 : decode cX2_changeSetting 15 = .ok (.arraylength, 1) := by decide +kernel
theorem dX2_changeSetting_16 : decode cX2_changeSetting 16 = .ok (.if_icmp .ge 10, 3) := by decide +kernel
theorem dX2_changeSetting_19 : decode cX2_changeSetting 19 = .ok (.aload_n 0, 1) := by decide +kernel
theorem dX2_changeSetting_20 : decode cX2_changeSetting 20 = .ok (.getfield 21, 3) := by decide +kernel
theorem dX2_changeSetting_23 : decode cX2_changeSetting 23 = .ok (.iload_n 1, 1) := by decide +kernel
theorem dX2_changeSetting_24 : decode cX2_changeSetting 24 = .ok (.iload_n 2, 1) := by decide +kernel
theorem dX2_changeSetting_25 : decode cX2_changeSetting 25 = .ok (.iastore, 1) := by decide +kernel
theorem dX2_changeSetting_26 : decode cX2_changeSetting 26 = .ok (.iload_n 3, 1) := by decide +kernel
theorem dX2_changeSetting_27 : decode cX2_changeSetting 27 = .ok (.ireturn, 1) := by decide +kernel
theorem dX2_minutesHeard_0 : decode cX2_minutesHeard 0 = .ok (.iload_n 1, 1) := by decide +kernel
theorem dX2_minutesHeard_1 : decode cX2_minutesHeard 1 = .ok (.bipush 10, 2) := by decide +kernel
theorem dX2_minutesHeard_3 : decode cX2_minutesHeard 3 = .ok (.imul, 1) := by decide +kernel
theorem dX2_minutesHeard_4 : decode cX2_minutesHeard 4 = .ok (.iload_n 2, 1) := by decide +kernel
theorem dX2_minutesHeard_5 : decode cX2_minutesHeard 5 = .ok (.iadd, 1) := by decide +kernel
theorem dX2_minutesHeard_6 : decode cX2_minutesHeard 6 = .ok (.istore_n 3, 1) := by decide +kernel
theorem dX2_minutesHeard_7 : decode cX2_minutesHeard 7 = .ok (.iload_n 3, 1) := by decide +kernel
theorem dX2_minutesHeard_8 : decode cX2_minutesHeard 8 = .ok (.ifCond .lt 21, 3) := by decide +kernel
theorem dX2_minutesHeard_11 : decode cX2_minutesHeard 11 = .ok (.iload_n 3, 1) := by decide +kernel
theorem dX2_minutesHeard_12 : decode cX2_minutesHeard 12 = .ok (.aload_n 0, 1) := by decide +kernel
theorem dX2_minutesHeard_13 : decode cX2_minutesHeard 13 = .ok (.getfield 31, 3) := by decide +kernel
theorem dX2_minutesHeard_16 : decode cX2_minutesHeard 16 = .ok (.arraylength, 1) := by decide +kernel
theorem dX2_minutesHeard_17 : decode cX2_minutesHeard 17 = .ok (.if_icmp .ge 12, 3) := by decide +kernel
theorem dX2_minutesHeard_20 : decode cX2_minutesHeard 20 = .ok (.aload_n 0, 1) := by decide +kernel
theorem dX2_minutesHeard_21 : decode cX2_minutesHeard 21 = .ok (.getfield 31, 3) := by decide +kernel
theorem dX2_minutesHeard_24 : decode cX2_minutesHeard 24 = .ok (.iload_n 3, 1) := by decide +kernel
theorem dX2_minutesHeard_25 : decode cX2_minutesHeard 25 = .ok (.iaload, 1) := by decide +kernel
theorem dX2_minutesHeard_26 : decode cX2_minutesHeard 26 = .ok (.goto 4, 3) := by decide +kernel
theorem dX2_minutesHeard_29 : decode cX2_minutesHeard 29 = .ok (.iconst 0, 1) := by decide +kernel
theorem dX2_minutesHeard_30 : decode cX2_minutesHeard 30 = .ok (.ireturn, 1) := by decide +kernel
theorem dX2_hearOneMinute_0 : decode cX2_hearOneMinute 0 = .ok (.iload_n 1, 1) := by decide +kernel
theorem dX2_hearOneMinute_1 : decode cX2_hearOneMinute 1 = .ok (.bipush 10, 2) := by decide +kernel
theorem dX2_hearOneMinute_3 : decode cX2_hearOneMinute 3 = .ok (.imul, 1) := by decide +kernel
theorem dX2_hearOneMinute_4 : decode cX2_hearOneMinute 4 = .ok (.iload_n 2, 1) := by decide +kernel
theorem dX2_hearOneMinute_5 : decode cX2_hearOneMinute 5 = .ok (.iadd, 1) := by decide +kernel
theorem dX2_hearOneMinute_6 : decode cX2_hearOneMinute 6 = .ok (.istore_n 3, 1) := by decide +kernel
theorem dX2_hearOneMinute_7 : decode cX2_hearOneMinute 7 = .ok (.iload_n 3, 1) := by decide +kernel
theorem dX2_hearOneMinute_8 : decode cX2_hearOneMinute 8 = .ok (.ifCond .lt 33, 3) := by decide +kernel
theorem dX2_hearOneMinute_11 : decode cX2_hearOneMinute 11 = .ok (.iload_n 3, 1) := by decide +kernel
theorem dX2_hearOneMinute_12 : decode cX2_hearOneMinute 12 = .ok (.aload_n 0, 1) := by decide +kernel
theorem dX2_hearOneMinute_13 : decode cX2_hearOneMinute 13 = .ok (.getfield 31, 3) := by decide +kernel
theorem dX2_hearOneMinute_16 : decode cX2_hearOneMinute 16 = .ok (.arraylength, 1) := by decide +kernel
theorem dX2_hearOneMinute_17 : decode cX2_hearOneMinute 17 = .ok (.if_icmp .ge 24, 3) := by decide +kernel
theorem dX2_hearOneMinute_20 : decode cX2_hearOneMinute 20 = .ok (.aload_n 0, 1) := by decide +kernel
theorem dX2_hearOneMinute_21 : decode cX2_hearOneMinute 21 = .ok (.getfield 31, 3) := by decide +kernel
theorem dX2_hearOneMinute_24 : decode cX2_hearOneMinute 24 = .ok (.iload_n 3, 1) := by decide +kernel
theorem dX2_hearOneMinute_25 : decode cX2_hearOneMinute 25 = .ok (.dup2, 1) := by decide +kernel
theorem dX2_hearOneMinute_26 : decode cX2_hearOneMinute 26 = .ok (.iaload, 1) := by decide +kernel
theorem dX2_hearOneMinute_27 : decode cX2_hearOneMinute 27 = .ok (.iconst 1, 1) := by decide +kernel
theorem dX2_hearOneMinute_28 : decode cX2_hearOneMinute 28 = .ok (.iadd, 1) := by decide +kernel
theorem dX2_hearOneMinute_29 : decode cX2_hearOneMinute 29 = .ok (.iastore, 1) := by decide +kernel
theorem dX2_hearOneMinute_30 : decode cX2_hearOneMinute 30 = .ok (.aload_n 0, 1) := by decide +kernel
theorem dX2_hearOneMinute_31 : decode cX2_hearOneMinute 31 = .ok (.getfield 25, 3) := by decide +kernel
theorem dX2_hearOneMinute_34 : decode cX2_hearOneMinute 34 = .ok (.bipush 9, 2) := by decide +kernel
theorem dX2_hearOneMinute_36 : decode cX2_hearOneMinute 36 = .ok (.dup2, 1) := by decide +kernel
theorem dX2_hearOneMinute_37 : decode cX2_hearOneMinute 37 = .ok (.iaload, 1) := by decide +kernel
theorem dX2_hearOneMinute_38 : decode cX2_hearOneMinute 38 = .ok (.iconst 1, 1) := by decide +kernel
theorem dX2_hearOneMinute_39 : decode cX2_hearOneMinute 39 = .ok (.iadd, 1) := by decide +kernel
theorem dX2_hearOneMinute_40 : decode cX2_hearOneMinute 40 = .ok (.iastore, 1) := by decide +kernel
theorem dX2_hearOneMinute_41 : decode cX2_hearOneMinute 41 = .ok (.return_, 1) := by decide +kernel
theorem dX2_addFlat_0 : decode cX2_addFlat 0 = .ok (.aload_n 0, 1) := by decide +kernel
theorem dX2_addFlat_1 : decode cX2_addFlat 1 = .ok (.getfield 9, 3) := by decide +kernel
theorem dX2_addFlat_4 : decode cX2_addFlat 4 = .ok (.bipush 10, 2) := by decide +kernel
theorem dX2_addFlat_6 : decode cX2_addFlat 6 = .ok (.if_icmp .lt 5, 3) := by decide +kernel
theorem dX2_addFlat_9 : decode cX2_addFlat 9 = .ok (.iconst 0, 1) := by decide +kernel
theorem dX2_addFlat_10 : decode cX2_addFlat 10 = .ok (.ireturn, 1) := by decide +kernel
theorem dX2_addFlat_11 : decode cX2_addFlat 11 = .ok (.aload_n 0, 1) := by decide +kernel
theorem dX2_addFlat_12 : decode cX2_addFlat 12 = .ok (.aload_n 0, 1) := by decide +kernel
theorem dX2_addFlat_13 : decode cX2_addFlat 13 = .ok (.getfield 9, 3) := by decide +kernel
theorem dX2_addFlat_16 : decode cX2_addFlat 16 = .ok (.iconst 0, 1) := by decide +kernel
theorem dX2_addFlat_17 : decode cX2_addFlat 17 = .ok (.iload_n 1, 1) := by decide +kernel
theorem dX2_addFlat_18 : decode cX2_addFlat 18 = .ok (.invokevirtual 89, 3) := by decide +kernel
theorem dX2_addFlat_21 : decode cX2_addFlat 21 = .ok (.aload_n 0, 1) := by decide +kernel
theorem dX2_addFlat_22 : decode cX2_addFlat 22 = .ok (.dup, 1) := by decide +kernel
theorem dX2_addFlat_23 : decode cX2_addFlat 23 = .ok (.getfield 9, 3) := by decide +kernel
theorem dX2_addFlat_26 : decode cX2_addFlat 26 = .ok (.iconst 1, 1) := by decide +kernel
theorem dX2_addFlat_27 : decode cX2_addFlat 27 = .ok (.iadd, 1) := by decide +kernel
theorem dX2_addFlat_28 : decode cX2_addFlat 28 = .ok (.putfield 9, 3) := by decide +kernel
theorem dX2_addFlat_31 : decode cX2_addFlat 31 = .ok (.iconst 1, 1) := by decide +kernel
theorem dX2_addFlat_32 : decode cX2_addFlat 32 = .ok (.ireturn, 1) := by decide +kernel
theorem dX2_houseNumber_0 : decode cX2_houseNumber 0 = .ok (.iload_n 1, 1) := by decide +kernel
theorem dX2_houseNumber_1 : decode cX2_houseNumber 1 = .ok (.tableswitch 153 0 9 #[55, 60, 65, 73, 81, 89, 112, 128, 136, 145], 55) := by decide +kernel
theorem dX2_houseNumber_56 : decode cX2_houseNumber 56 = .ok (.aload_n 0, 1) := by decide +kernel
theorem dX2_houseNumber_57 : decode cX2_houseNumber 57 = .ok (.getfield 9, 3) := by decide +kernel
theorem dX2_houseNumber_60 : decode cX2_houseNumber 60 = .ok (.ireturn, 1) := by decide +kernel
theorem dX2_houseNumber_61 : decode cX2_houseNumber 61 = .ok (.aload_n 0, 1) := by decide +kernel
theorem dX2_houseNumber_62 : decode cX2_houseNumber 62 = .ok (.getfield 15, 3) := by decide +kernel
theorem dX2_houseNumber_65 : decode cX2_houseNumber 65 = .ok (.ireturn, 1) := by decide +kernel
theorem dX2_houseNumber_66 : decode cX2_houseNumber 66 = .ok (.aload_n 0, 1) := by decide +kernel
theorem dX2_houseNumber_67 : decode cX2_houseNumber 67 = .ok (.getfield 37, 3) := by decide +kernel
theorem dX2_houseNumber_70 : decode cX2_houseNumber 70 = .ok (.getfield 93, 3) := by decide +kernel
theorem dX2_houseNumber_73 : decode cX2_houseNumber 73 = .ok (.ireturn, 1) := by decide +kernel
theorem dX2_houseNumber_74 : decode cX2_houseNumber 74 = .ok (.aload_n 0, 1) := by decide +kernel
theorem dX2_houseNumber_75 : decode cX2_houseNumber 75 = .ok (.getfield 37, 3) := by decide +kernel
theorem dX2_houseNumber_78 : decode cX2_houseNumber 78 = .ok (.getfield 96, 3) := by decide +kernel
theorem dX2_houseNumber_81 : decode cX2_houseNumber 81 = .ok (.ireturn, 1) := by decide +kernel
theorem dX2_houseNumber_82 : decode cX2_houseNumber 82 = .ok (.aload_n 0, 1) := by decide +kernel
theorem dX2_houseNumber_83 : decode cX2_houseNumber 83 = .ok (.getfield 37, 3) := by decide +kernel
theorem dX2_houseNumber_86 : decode cX2_houseNumber 86 = .ok (.getfield 99, 3) := by decide +kernel
theorem dX2_houseNumber_89 : decode cX2_houseNumber 89 = .ok (.ireturn, 1) := by decide +kernel
theorem dX2_houseNumber_90 : decode cX2_houseNumber 90 = .ok (.aload_n 0, 1) := by decide +kernel
theorem dX2_houseNumber_91 : decode cX2_houseNumber 91 = .ok (.getfield 37, 3) := by decide +kernel
theorem dX2_houseNumber_94 : decode cX2_houseNumber 94 = .ok (.getfield 93, 3) := by decide +kernel
theorem dX2_houseNumber_97 : decode cX2_houseNumber 97 = .ok (.iconst 2, 1) := by decide +kernel
theorem dX2_houseNumber_98 : decode cX2_houseNumber 98 = .ok (.if_icmp .ne 13, 3) := by decide +kernel
theorem dX2_houseNumber_101 : decode cX2_houseNumber 101 = .ok (.aload_n 0, 1) := by decide +kernel
theorem dX2_houseNumber_102 : decode cX2_houseNumber 102 = .ok (.getfield 37, 3) := by decide +kernel
theorem dX2_houseNumber_105 : decode cX2_houseNumber 105 = .ok (.getfield 102, 3) := by decide +kernel
theorem dX2_houseNumber_108 : decode cX2_houseNumber 108 = .ok (.goto 4, 3) := by decide +kernel
theorem dX2_houseNumber_111 : decode cX2_houseNumber 111 = .ok (.iconst 0, 1) := by decide +kernel
theorem dX2_houseNumber_112 : decode cX2_houseNumber 112 = .ok (.ireturn, 1) := by decide +kernel
theorem dX2_houseNumber_113 : decode cX2_houseNumber 113 = .ok (.aload_n 0, 1) := by decide +kernel
theorem dX2_houseNumber_114 : decode cX2_houseNumber 114 = .ok (.getfield 37, 3) := by decide +kernel
theorem dX2_houseNumber_117 : decode cX2_houseNumber 117 = .ok (.getfield 105, 3) := by decide +kernel
theorem dX2_houseNumber_120 : decode cX2_houseNumber 120 = .ok (.ifCond .eq 7, 3) := by decide +kernel
theorem dX2_houseNumber_123 : decode cX2_houseNumber 123 = .ok (.iconst 1, 1) := by decide +kernel
theorem dX2_houseNumber_124 : decode cX2_houseNumber 124 = .ok (.goto 4, 3) := by decide +kernel
theorem dX2_houseNumber_127 : decode cX2_houseNumber 127 = .ok (.iconst 0, 1) := by decide +kernel
theorem dX2_houseNumber_128 : decode cX2_houseNumber 128 = .ok (.ireturn, 1) := by decide +kernel
theorem dX2_houseNumber_129 : decode cX2_houseNumber 129 = .ok (.aload_n 0, 1) := by decide +kernel
theorem dX2_houseNumber_130 : decode cX2_houseNumber 130 = .ok (.getfield 44, 3) := by decide +kernel
theorem dX2_houseNumber_133 : decode cX2_houseNumber 133 = .ok (.getfield 71, 3) := by decide +kernel
theorem dX2_houseNumber_136 : decode cX2_houseNumber 136 = .ok (.ireturn, 1) := by decide +kernel
theorem dX2_houseNumber_137 : decode cX2_houseNumber 137 = .ok (.aload_n 0, 1) := by decide +kernel
theorem dX2_houseNumber_138 : decode cX2_houseNumber 138 = .ok (.iconst 1, 1) := by decide +kernel
theorem dX2_houseNumber_139 : decode cX2_houseNumber 139 = .ok (.invokevirtual 109, 3) := by decide +kernel
theorem dX2_houseNumber_142 : decode cX2_houseNumber 142 = .ok (.invokestatic 112, 3) := by decide +kernel
theorem dX2_houseNumber_145 : decode cX2_houseNumber 145 = .ok (.ireturn, 1) := by decide +kernel
theorem dX2_houseNumber_146 : decode cX2_houseNumber 146 = .ok (.aload_n 0, 1) := by decide +kernel
theorem dX2_houseNumber_147 : decode cX2_houseNumber 147 = .ok (.getfield 51, 3) := by decide +kernel
theorem dX2_houseNumber_150 : decode cX2_houseNumber 150 = .ok (.getfield 74, 3) := by decide +kernel
theorem dX2_houseNumber_153 : decode cX2_houseNumber 153 = .ok (.ireturn, 1) := by decide +kernel
theorem dX2_houseNumber_154 : decode cX2_houseNumber 154 = .ok (.aload_n 0, 1) := by decide +kernel
theorem dX2_houseNumber_155 : decode cX2_houseNumber 155 = .ok (.invokevirtual 117, 3) := by decide +kernel
theorem dX2_houseNumber_158 : decode cX2_houseNumber 158 = .ok (.ireturn, 1) := by decide +kernel
theorem dX2_flatNumber_0 : decode cX2_flatNumber 0 = .ok (.iload_n 2, 1) := by decide +kernel
theorem dX2_flatNumber_1 : decode cX2_flatNumber 1 = .ok (.lookupswitch 45 #[(5, 27), (9, 36)], 27) := by decide +kernel
theorem dX2_flatNumber_28 : decode cX2_flatNumber 28 = .ok (.aload_n 0, 1) := by decide +kernel
theorem dX2_flatNumber_29 : decode cX2_flatNumber 29 = .ok (.getfield 44, 3) := by decide +kernel
theorem dX2_flatNumber_32 : decode cX2_flatNumber 32 = .ok (.iload_n 1, 1) := by decide +kernel
theorem dX2_flatNumber_33 : decode cX2_flatNumber 33 = .ok (.invokevirtual 121, 3) := by decide +kernel
theorem dX2_flatNumber_36 : decode cX2_flatNumber 36 = .ok (.ireturn, 1) := by decide +kernel
theorem dX2_flatNumber_37 : decode cX2_flatNumber 37 = .ok (.aload_n 0, 1) := by decide +kernel
theorem dX2_flatNumber_38 : decode cX2_flatNumber 38 = .ok (.getfield 51, 3) := by decide +kernel
theorem dX2_flatNumber_41 : decode cX2_flatNumber 41 = .ok (.iload_n 1, 1) := by decide +kernel
theorem dX2_flatNumber_42 : decode cX2_flatNumber 42 = .ok (.invokevirtual 124, 3) := by decide +kernel
theorem dX2_flatNumber_45 : decode cX2_flatNumber 45 = .ok (.ireturn, 1) := by decide +kernel
theorem dX2_flatNumber_46 : decode cX2_flatNumber 46 = .ok (.aload_n 0, 1) := by decide +kernel
theorem dX2_flatNumber_47 : decode cX2_flatNumber 47 = .ok (.iload_n 1, 1) := by decide +kernel
theorem dX2_flatNumber_48 : decode cX2_flatNumber 48 = .ok (.iload_n 2, 1) := by decide +kernel
theorem dX2_flatNumber_49 : decode cX2_flatNumber 49 = .ok (.invokevirtual 127, 3) := by decide +kernel
theorem dX2_flatNumber_52 : decode cX2_flatNumber 52 = .ok (.ireturn, 1) := by decide +kernel
theorem dX2_accountNumber_0 : decode cX2_accountNumber 0 = .ok (.iload_n 1, 1) := by decide +kernel
theorem dX2_accountNumber_1 : decode cX2_accountNumber 1 = .ok (.ifCond .ne 8, 3) := by decide +kernel
theorem dX2_accountNumber_4 : decode cX2_accountNumber 4 = .ok (.aload_n 0, 1) := by decide +kernel
theorem dX2_accountNumber_5 : decode cX2_accountNumber 5 = .ok (.getfield 15, 3) := by decide +kernel
theorem dX2_accountNumber_8 : decode cX2_accountNumber 8 = .ok (.ireturn, 1) := by decide +kernel
theorem dX2_accountNumber_9 : decode cX2_accountNumber 9 = .ok (.iload_n 1, 1) := by decide +kernel
theorem dX2_accountNumber_10 : decode cX2_accountNumber 10 = .ok (.bipush 10, 2) := by decide +kernel
theorem dX2_accountNumber_12 : decode cX2_accountNumber 12 = .ok (.if_icmp .ne 46, 3) := by decide +kernel
theorem dX2_accountNumber_15 : decode cX2_accountNumber 15 = .ok (.aload_n 0, 1) := by decide +kernel
theorem dX2_accountNumber_16 : decode cX2_accountNumber 16 = .ok (.getfield 25, 3) := by decide +kernel
theorem dX2_accountNumber_19 : decode cX2_accountNumber 19 = .ok (.iconst 4, 1) := by decide +kernel
theorem dX2_accountNumber_20 : decode cX2_accountNumber 20 = .ok (.iaload, 1) := by decide +kernel
theorem dX2_accountNumber_21 : decode cX2_accountNumber 21 = .ok (.aload_n 0, 1) := by decide +kernel
theorem dX2_accountNumber_22 : decode cX2_accountNumber 22 = .ok (.getfield 25, 3) := by decide +kernel
theorem dX2_accountNumber_25 : decode cX2_accountNumber 25 = .ok (.iconst 5, 1) := by decide +kernel
theorem dX2_accountNumber_26 : decode cX2_accountNumber 26 = .ok (.iaload, 1) := by decide +kernel
theorem dX2_accountNumber_27 : decode cX2_accountNumber 27 = .ok (.isub, 1) := by decide +kernel
theorem dX2_accountNumber_28 : decode cX2_accountNumber 28 = .ok (.aload_n 0, 1) := by decide +kernel
theorem dX2_accountNumber_29 : decode cX2_accountNumber 29 = .ok (.invokevirtual 117, 3) := by decide +kernel
theorem dX2_accountNumber_32 : decode cX2_accountNumber 32 = .ok (.isub, 1) := by decide +kernel
theorem dX2_accountNumber_33 : decode cX2_accountNumber 33 = .ok (.aload_n 0, 1) := by decide +kernel
theorem dX2_accountNumber_34 : decode cX2_accountNumber 34 = .ok (.getfield 25, 3) := by decide +kernel
theorem dX2_accountNumber_37 : decode cX2_accountNumber 37 = .ok (.bipush 6, 2) := by decide +kernel
theorem dX2_accountNumber_39 : decode cX2_accountNumber 39 = .ok (.iaload, 1) := by decide +kernel
theorem dX2_accountNumber_40 : decode cX2_accountNumber 40 = .ok (.iadd, 1) := by decide +kernel
theorem dX2_accountNumber_41 : decode cX2_accountNumber 41 = .ok (.aload_n 0, 1) := by decide +kernel
theorem dX2_accountNumber_42 : decode cX2_accountNumber 42 = .ok (.getfield 25, 3) := by decide +kernel
theorem dX2_accountNumber_45 : decode cX2_accountNumber 45 = .ok (.bipush 7, 2) := by decide +kernel
theorem dX2_accountNumber_47 : decode cX2_accountNumber 47 = .ok (.iaload, 1) := by decide +kernel
theorem dX2_accountNumber_48 : decode cX2_accountNumber 48 = .ok (.isub, 1) := by decide +kernel
theorem dX2_accountNumber_49 : decode cX2_accountNumber 49 = .ok (.aload_n 0, 1) := by decide +kernel
theorem dX2_accountNumber_50 : decode cX2_accountNumber 50 = .ok (.getfield 51, 3) := by decide +kernel
theorem dX2_accountNumber_53 : decode cX2_accountNumber 53 = .ok (.getfield 74, 3) := by decide +kernel
theorem dX2_accountNumber_56 : decode cX2_accountNumber 56 = .ok (.isub, 1) := by decide +kernel
theorem dX2_accountNumber_57 : decode cX2_accountNumber 57 = .ok (.ireturn, 1) := by decide +kernel
theorem dX2_accountNumber_58 : decode cX2_accountNumber 58 = .ok (.iload_n 1, 1) := by decide +kernel
theorem dX2_accountNumber_59 : decode cX2_accountNumber 59 = .ok (.ifCond .lt 21, 3) := by decide +kernel
theorem dX2_accountNumber_62 : decode cX2_accountNumber 62 = .ok (.iload_n 1, 1) := by decide +kernel
theorem dX2_accountNumber_63 : decode cX2_accountNumber 63 = .ok (.aload_n 0, 1) := by decide +kernel
theorem dX2_accountNumber_64 : decode cX2_accountNumber 64 = .ok (.getfield 25, 3) := by decide +kernel
theorem dX2_accountNumber_67 : decode cX2_accountNumber 67 = .ok (.arraylength, 1) := by decide +kernel
theorem dX2_accountNumber_68 : decode cX2_accountNumber 68 = .ok (.if_icmp .ge 12, 3) := by decide +kernel
theorem dX2_accountNumber_71 : decode cX2_accountNumber 71 = .ok (.aload_n 0, 1) := by decide +kernel
theorem dX2_accountNumber_72 : decode cX2_accountNumber 72 = .ok (.getfield 25, 3) := by decide +kernel
theorem dX2_accountNumber_75 : decode cX2_accountNumber 75 = .ok (.iload_n 1, 1) := by decide +kernel
theorem dX2_accountNumber_76 : decode cX2_accountNumber 76 = .ok (.iaload, 1) := by decide +kernel
theorem dX2_accountNumber_77 : decode cX2_accountNumber 77 = .ok (.goto 4, 3) := by decide +kernel
theorem dX2_accountNumber_80 : decode cX2_accountNumber 80 = .ok (.iconst 0, 1) := by decide +kernel
theorem dX2_accountNumber_81 : decode cX2_accountNumber 81 = .ok (.ireturn, 1) := by decide +kernel
theorem dX2_debtOfAll_0 : decode cX2_debtOfAll 0 = .ok (.iconst 0, 1) := by decide +kernel
theorem dX2_debtOfAll_1 : decode cX2_debtOfAll 1 = .ok (.istore_n 1, 1) := by decide +kernel
theorem dX2_debtOfAll_2 : decode cX2_debtOfAll 2 = .ok (.iconst 0, 1) := by decide +kernel
theorem dX2_debtOfAll_3 : decode cX2_debtOfAll 3 = .ok (.istore_n 2, 1) := by decide +kernel
theorem dX2_debtOfAll_4 : decode cX2_debtOfAll 4 = .ok (.iload_n 2, 1) := by decide +kernel
theorem dX2_debtOfAll_5 : decode cX2_debtOfAll 5 = .ok (.aload_n 0, 1) := by decide +kernel
theorem dX2_debtOfAll_6 : decode cX2_debtOfAll 6 = .ok (.getfield 9, 3) := by decide +kernel
theorem dX2_debtOfAll_9 : decode cX2_debtOfAll 9 = .ok (.if_icmp .ge 19, 3) := by decide +kernel
theorem dX2_debtOfAll_12 : decode cX2_debtOfAll 12 = .ok (.iload_n 1, 1) := by decide +kernel
theorem dX2_debtOfAll_13 : decode cX2_debtOfAll 13 = .ok (.aload_n 0, 1) := by decide +kernel
theorem dX2_debtOfAll_14 : decode cX2_debtOfAll 14 = .ok (.iload_n 2, 1) := by decide +kernel
theorem dX2_debtOfAll_15 : decode cX2_debtOfAll 15 = .ok (.bipush 6, 2) := by decide +kernel
theorem dX2_debtOfAll_17 : decode cX2_debtOfAll 17 = .ok (.invokevirtual 127, 3) := by decide +kernel
theorem dX2_debtOfAll_20 : decode cX2_debtOfAll 20 = .ok (.iadd, 1) := by decide +kernel
theorem dX2_debtOfAll_21 : decode cX2_debtOfAll 21 = .ok (.istore_n 1, 1) := by decide +kernel
theorem dX2_debtOfAll_22 : decode cX2_debtOfAll 22 = .ok (.iinc 2 1, 3) := by decide +kernel
theorem dX2_debtOfAll_25 : decode cX2_debtOfAll 25 = .ok (.goto (-21), 3) := by decide +kernel
theorem dX2_debtOfAll_28 : decode cX2_debtOfAll 28 = .ok (.iload_n 1, 1) := by decide +kernel
theorem dX2_debtOfAll_29 : decode cX2_debtOfAll 29 = .ok (.ireturn, 1) := by decide +kernel
theorem dX2_flatsThatAre_0 : decode cX2_flatsThatAre 0 = .ok (.iconst 0, 1) := by decide +kernel
theorem dX2_flatsThatAre_1 : decode cX2_flatsThatAre 1 = .ok (.istore_n 2, 1) := by decide +kernel
theorem dX2_flatsThatAre_2 : decode cX2_flatsThatAre 2 = .ok (.iconst 0, 1) := by decide +kernel
theorem dX2_flatsThatAre_3 : decode cX2_flatsThatAre 3 = .ok (.istore_n 3, 1) := by decide +kernel
theorem dX2_flatsThatAre_4 : decode cX2_flatsThatAre 4 = .ok (.iload_n 3, 1) := by decide +kernel
theorem dX2_flatsThatAre_5 : decode cX2_flatsThatAre 5 = .ok (.aload_n 0, 1) := by decide +kernel
theorem dX2_flatsThatAre_6 : decode cX2_flatsThatAre 6 = .ok (.getfield 9, 3) := by decide +kernel
theorem dX2_flatsThatAre_9 : decode cX2_flatsThatAre 9 = .ok (.if_icmp .ge 25, 3) := by decide +kernel
theorem dX2_flatsThatAre_12 : decode cX2_flatsThatAre 12 = .ok (.aload_n 0, 1) := by decide +kernel
theorem dX2_flatsThatAre_13 : decode cX2_flatsThatAre 13 = .ok (.iload_n 3, 1) := by decide +kernel
theorem dX2_flatsThatAre_14 : decode cX2_flatsThatAre 14 = .ok (.iconst 2, 1) := by decide +kernel
theorem dX2_flatsThatAre_15 : decode cX2_flatsThatAre 15 = .ok (.invokevirtual 127, 3) := by decide +kernel
theorem dX2_flatsThatAre_18 : decode cX2_flatsThatAre 18 = .ok (.iload_n 1, 1) := by decide +kernel
theorem dX2_flatsThatAre_19 : decode cX2_flatsThatAre 19 = .ok (.if_icmp .ne 9, 3) := by decide +kernel
theorem dX2_flatsThatAre_22 : decode cX2_flatsThatAre 22 = .ok (.iload_n 2, 1) := by decide +kernel
theorem dX2_flatsThatAre_23 : decode cX2_flatsThatAre 23 = .ok (.iconst 1, 1) := by decide +kernel
theorem dX2_flatsThatAre_24 : decode cX2_flatsThatAre 24 = .ok (.iload_n 3, 1) := by decide +kernel
theorem dX2_flatsThatAre_25 : decode cX2_flatsThatAre 25 = .ok (.ishl, 1) := by decide +kernel
theorem dX2_flatsThatAre_26 : decode cX2_flatsThatAre 26 = .ok (.ior, 1) := by decide +kernel
theorem dX2_flatsThatAre_27 : decode cX2_flatsThatAre 27 = .ok (.istore_n 2, 1) := by decide +kernel
theorem dX2_flatsThatAre_28 : decode cX2_flatsThatAre 28 = .ok (.iinc 3 1, 3) := by decide +kernel
theorem dX2_flatsThatAre_31 : decode cX2_flatsThatAre 31 = .ok (.goto (-27), 3) := by decide +kernel
theorem dX2_flatsThatAre_34 : decode cX2_flatsThatAre 34 = .ok (.iload_n 2, 1) := by decide +kernel
theorem dX2_flatsThatAre_35 : decode cX2_flatsThatAre 35 = .ok (.ireturn, 1) := by decide +kernel
theorem dX2_isListener_0 : decode cX2_isListener 0 = .ok (.aload_n 0, 1) := by decide +kernel
theorem dX2_isListener_1 : decode cX2_isListener 1 = .ok (.iload_n 1, 1) := by decide +kernel
theorem dX2_isListener_2 : decode cX2_isListener 2 = .ok (.iconst 2, 1) := by decide +kernel
theorem dX2_isListener_3 : decode cX2_isListener 3 = .ok (.invokevirtual 127, 3) := by decide +kernel
theorem dX2_isListener_6 : decode cX2_isListener 6 = .ok (.ifCond .ne 32, 3) := by decide +kernel
theorem dX2_isListener_9 : decode cX2_isListener 9 = .ok (.aload_n 0, 1) := by decide +kernel
theorem dX2_isListener_10 : decode cX2_isListener 10 = .ok (.iload_n 1, 1) := by decide +kernel
theorem dX2_isListener_11 : decode cX2_isListener 11 = .ok (.iconst 1, 1) := by decide +kernel
theorem dX2_isListener_12 : decode cX2_isListener 12 = .ok (.invokevirtual 127, 3) := by decide +kernel
theorem dX2_isListener_15 : decode cX2_isListener 15 = .ok (.iconst 1, 1) := by decide +kernel
theorem dX2_isListener_16 : decode cX2_isListener 16 = .ok (.if_icmp .ne 22, 3) := by decide +kernel
theorem dX2_isListener_19 : decode cX2_isListener 19 = .ok (.aload_n 0, 1) := by decide +kernel
theorem dX2_isListener_20 : decode cX2_isListener 20 = .ok (.iload_n 1, 1) := by decide +kernel
theorem dX2_isListener_21 : decode cX2_isListener 21 = .ok (.iconst 0, 1) := by decide +kernel
theorem dX2_isListener_22 : decode cX2_isListener 22 = .ok (.invokevirtual 127, 3) := by decide +kernel
theorem dX2_isListener_25 : decode cX2_isListener 25 = .ok (.aload_n 0, 1) := by decide +kernel
theorem dX2_isListener_26 : decode cX2_isListener 26 = .ok (.getfield 21, 3) := by decide +kernel
theorem dX2_isListener_29 : decode cX2_isListener 29 = .ok (.iconst 3, 1) := by decide +kernel
theorem dX2_isListener_30 : decode cX2_isListener 30 = .ok (.iaload, 1) := by decide +kernel
theorem dX2_isListener_31 : decode cX2_isListener 31 = .ok (.if_icmp .gt 7, 3) := by decide +kernel
theorem dX2_isListener_34 : decode cX2_isListener 34 = .ok (.iconst 1, 1) := by decide +kernel
theorem dX2_isListener_35 : decode cX2_isListener 35 = .ok (.goto 4, 3) := by decide +kernel
theorem dX2_isListener_38 : decode cX2_isListener 38 = .ok (.iconst 0, 1) := by decide +kernel
theorem dX2_isListener_39 : decode cX2_isListener 39 = .ok (.ireturn, 1) := by decide +kernel
theorem dX2_costOf_0 : decode cX2_costOf 0 = .ok (.aload_n 0, 1) := by decide +kernel
theorem dX2_costOf_1 : decode cX2_costOf 1 = .ok (.getfield 21, 3) := by decide +kernel
theorem dX2_costOf_4 : decode cX2_costOf 4 = .ok (.iconst 1, 1) := by decide +kernel
theorem dX2_costOf_5 : decode cX2_costOf 5 = .ok (.iaload, 1) := by decide +kernel
theorem dX2_costOf_6 : decode cX2_costOf 6 = .ok (.istore_n 2, 1) := by decide +kernel
theorem dX2_costOf_7 : decode cX2_costOf 7 = .ok (.iload_n 2, 1) := by decide +kernel
theorem dX2_costOf_8 : decode cX2_costOf 8 = .ok (.ifCond .le 20, 3) := by decide +kernel
theorem dX2_costOf_11 : decode cX2_costOf 11 = .ok (.aload_n 0, 1) := by decide +kernel
theorem dX2_costOf_12 : decode cX2_costOf 12 = .ok (.getfield 21, 3) := by decide +kernel
theorem dX2_costOf_15 : decode cX2_costOf 15 = .ok (.iconst 2, 1) := by decide +kernel
theorem dX2_costOf_16 : decode cX2_costOf 16 = .ok (.iaload, 1) := by decide +kernel
theorem dX2_costOf_17 : decode cX2_costOf 17 = .ok (.iload_n 1, 1) := by decide +kernel
theorem dX2_costOf_18 : decode cX2_costOf 18 = .ok (.iload_n 2, 1) := by decide +kernel
theorem dX2_costOf_19 : decode cX2_costOf 19 = .ok (.iadd, 1) := by decide +kernel
theorem dX2_costOf_20 : decode cX2_costOf 20 = .ok (.iconst 1, 1) := by decide +kernel
theorem dX2_costOf_21 : decode cX2_costOf 21 = .ok (.isub, 1) := by decide +kernel
theorem dX2_costOf_22 : decode cX2_costOf 22 = .ok (.iload_n 2, 1) := by decide +kernel
theorem dX2_costOf_23 : decode cX2_costOf 23 = .ok (.idiv, 1) := by decide +kernel
theorem dX2_costOf_24 : decode cX2_costOf 24 = .ok (.imul, 1) := by decide +kernel
theorem dX2_costOf_25 : decode cX2_costOf 25 = .ok (.goto 4, 3) := by decide +kernel
theorem dX2_costOf_28 : decode cX2_costOf 28 = .ok (.iconst 0, 1) := by decide +kernel
theorem dX2_costOf_29 : decode cX2_costOf 29 = .ok (.ireturn, 1) := by decide +kernel
theorem dX2_letPass_0 : decode cX2_letPass 0 = .ok (.iconst 0, 1) := by decide +kernel
theorem dX2_letPass_1 : decode cX2_letPass 1 = .ok (.istore_n 2, 1) := by decide +kernel
theorem dX2_letPass_2 : decode cX2_letPass 2 = .ok (.aload_n 0, 1) := by decide +kernel
theorem dX2_letPass_3 : decode cX2_letPass 3 = .ok (.dup, 1) := by decide +kernel
theorem dX2_letPass_4 : decode cX2_letPass 4 = .ok (.getfield 15, 3) := by decide +kernel
theorem dX2_letPass_7 : decode cX2_letPass 7 = .ok (.iload_n 1, 1) := by decide +kernel
theorem dX2_letPass_8 : decode cX2_letPass 8 = .ok (.iadd, 1) := by decide +kernel
theorem dX2_letPass_9 : decode cX2_letPass 9 = .ok (.putfield 15, 3) := by decide +kernel
theorem dX2_letPass_12 : decode cX2_letPass 12 = .ok (.iconst 0, 1) := by decide +kernel
theorem dX2_letPass_13 : decode cX2_letPass 13 = .ok (.istore_n 3, 1) := by decide +kernel
theorem dX2_letPass_14 : decode cX2_letPass 14 = .ok (.iload_n 3, 1) := by decide +kernel
theorem dX2_letPass_15 : decode cX2_letPass 15 = .ok (.iload_n 1, 1) := by decide +kernel
theorem dX2_letPass_16 : decode cX2_letPass 16 = .ok (.if_icmp .ge 142, 3) := by decide +kernel
theorem dX2_letPass_19 : decode cX2_letPass 19 = .ok (.aload_n 0, 1) := by decide +kernel
theorem dX2_letPass_20 : decode cX2_letPass 20 = .ok (.invokevirtual 138, 3) := by decide +kernel
theorem dX2_letPass_23 : decode cX2_letPass 23 = .ok (.ifCond .ne 135, 3) := by decide +kernel
theorem dX2_letPass_26 : decode cX2_letPass 26 = .ok (.aload_n 0, 1) := by decide +kernel
theorem dX2_letPass_27 : decode cX2_letPass 27 = .ok (.getfield 37, 3) := by decide +kernel
theorem dX2_letPass_30 : decode cX2_letPass 30 = .ok (.getfield 93, 3) := by decide +kernel
theorem dX2_letPass_33 : decode cX2_letPass 33 = .ok (.iconst 2, 1) := by decide +kernel
theorem dX2_letPass_34 : decode cX2_letPass 34 = .ok (.if_icmp .ne 7, 3) := by decide +kernel
theorem dX2_letPass_37 : decode cX2_letPass 37 = .ok (.aload_n 0, 1) := by decide +kernel
theorem dX2_letPass_38 : decode cX2_letPass 38 = .ok (.invokevirtual 142, 3) := by decide +kernel
theorem dX2_letPass_41 : decode cX2_letPass 41 = .ok (.iconst 0, 1) := by decide +kernel
theorem dX2_letPass_42 : decode cX2_letPass 42 = .ok (.istore 4, 2) := by decide +kernel
theorem dX2_letPass_44 : decode cX2_letPass 44 = .ok (.iload 4, 2) := by decide +kernel
theorem dX2_letPass_46 : decode cX2_letPass 46 = .ok (.aload_n 0, 1) := by decide +kernel
theorem dX2_letPass_47 : decode cX2_letPass 47 = .ok (.getfield 9, 3) := by decide +kernel
theorem dX2_letPass_50 : decode cX2_letPass 50 = .ok (.if_icmp .ge 15, 3) := by decide +kernel
theorem dX2_letPass_53 : decode cX2_letPass 53 = .ok (.aload_n 0, 1) := by decide +kernel
theorem dX2_letPass_54 : decode cX2_letPass 54 = .ok (.iload 4, 2) := by decide +kernel
theorem dX2_letPass_56 : decode cX2_letPass 56 = .ok (.invokevirtual 145, 3) := by decide +kernel
theorem dX2_letPass_59 : decode cX2_letPass 59 = .ok (.iinc 4 1, 3) := by decide +kernel
theorem dX2_letPass_62 : decode cX2_letPass 62 = .ok (.goto (-18), 3) := by decide +kernel
theorem dX2_letPass_65 : decode cX2_letPass 65 = .ok (.aload_n 0, 1) := by decide +kernel
theorem dX2_letPass_66 : decode cX2_letPass 66 = .ok (.invokevirtual 149, 3) := by decide +kernel
theorem dX2_letPass_69 : decode cX2_letPass 69 = .ok (.ifCond .eq 35, 3) := by decide +kernel
theorem dX2_letPass_72 : decode cX2_letPass 72 = .ok (.aload_n 0, 1) := by decide +kernel
theorem dX2_letPass_73 : decode cX2_letPass 73 = .ok (.getfield 25, 3) := by decide +kernel
theorem dX2_letPass_76 : decode cX2_letPass 76 = .ok (.iconst 2, 1) := by decide +kernel
theorem dX2_letPass_77 : decode cX2_letPass 77 = .ok (.dup2, 1) := by decide +kernel
theorem dX2_letPass_78 : decode cX2_letPass 78 = .ok (.iaload, 1) := by decide +kernel
theorem dX2_letPass_79 : decode cX2_letPass 79 = .ok (.aload_n 0, 1) := by decide +kernel
theorem dX2_letPass_80 : decode cX2_letPass 80 = .ok (.getfield 37, 3) := by decide +kernel
theorem dX2_letPass_83 : decode cX2_letPass 83 = .ok (.getfield 102, 3) := by decide +kernel
theorem dX2_letPass_86 : decode cX2_letPass 86 = .ok (.ifCond .le 7, 3) := by decide +kernel
theorem dX2_letPass_89 : decode cX2_letPass 89 = .ok (.iconst 1, 1) := by decide +kernel
theorem dX2_letPass_90 : decode cX2_letPass 90 = .ok (.goto 4, 3) := by decide +kernel
theorem dX2_letPass_93 : decode cX2_letPass 93 = .ok (.iconst 0, 1) := by decide +kernel
theorem dX2_letPass_94 : decode cX2_letPass 94 = .ok (.iadd, 1) := by decide +kernel
theorem dX2_letPass_95 : decode cX2_letPass 95 = .ok (.iastore, 1) := by decide +kernel
theorem dX2_letPass_96 : decode cX2_letPass 96 = .ok (.aload_n 0, 1) := by decide +kernel
theorem dX2_letPass_97 : decode cX2_letPass 97 = .ok (.invokevirtual 152, 3) := by decide +kernel
theorem dX2_letPass_100 : decode cX2_letPass 100 = .ok (.pop, 1) := by decide +kernel
theorem dX2_letPass_101 : decode cX2_letPass 101 = .ok (.iinc 2 1, 3) := by decide +kernel
theorem dX2_letPass_104 : decode cX2_letPass 104 = .ok (.aload_n 0, 1) := by decide +kernel
theorem dX2_letPass_105 : decode cX2_letPass 105 = .ok (.getfield 37, 3) := by decide +kernel
theorem dX2_letPass_108 : decode cX2_letPass 108 = .ok (.getfield 93, 3) := by decide +kernel
theorem dX2_letPass_111 : decode cX2_letPass 111 = .ok (.ifCond .ne 37, 3) := by decide +kernel
theorem dX2_letPass_114 : decode cX2_letPass 114 = .ok (.aload_n 0, 1) := by decide +kernel
theorem dX2_letPass_115 : decode cX2_letPass 115 = .ok (.getfield 44, 3) := by decide +kernel
theorem dX2_letPass_118 : decode cX2_letPass 118 = .ok (.getfield 71, 3) := by decide +kernel
theorem dX2_letPass_121 : decode cX2_letPass 121 = .ok (.ifCond .le 27, 3) := by decide +kernel
theorem dX2_letPass_124 : decode cX2_letPass 124 = .ok (.aload_n 0, 1) := by decide +kernel
theorem dX2_letPass_125 : decode cX2_letPass 125 = .ok (.getfield 44, 3) := by decide +kernel
theorem dX2_letPass_128 : decode cX2_letPass 128 = .ok (.iconst 0, 1) := by decide +kernel
theorem dX2_letPass_129 : decode cX2_letPass 129 = .ok (.invokevirtual 155, 3) := by decide +kernel
theorem dX2_letPass_132 : decode cX2_letPass 132 = .ok (.istore 4, 2) := by decide +kernel
theorem dX2_letPass_134 : decode cX2_letPass 134 = .ok (.aload_n 0, 1) := by decide +kernel
theorem dX2_letPass_135 : decode cX2_letPass 135 = .ok (.iload 4, 2) := by decide +kernel
theorem dX2_letPass_137 : decode cX2_letPass 137 = .ok (.aload_n 0, 1) := by decide +kernel
theorem dX2_letPass_138 : decode cX2_letPass 138 = .ok (.iload 4, 2) := by decide +kernel
theorem dX2_letPass_140 : decode cX2_letPass 140 = .ok (.iconst 4, 1) := by decide +kernel
theorem dX2_letPass_141 : decode cX2_letPass 141 = .ok (.invokevirtual 127, 3) := by decide +kernel
theorem dX2_letPass_144 : decode cX2_letPass 144 = .ok (.iconst 0, 1) := by decide +kernel
theorem dX2_letPass_145 : decode cX2_letPass 145 = .ok (.invokevirtual 158, 3) := by decide +kernel
theorem dX2_letPass_148 : decode cX2_letPass 148 = .ok (.aload_n 0, 1) := by decide +kernel
theorem dX2_letPass_149 : decode cX2_letPass 149 = .ok (.invokevirtual 162, 3) := by decide +kernel
theorem dX2_letPass_152 : decode cX2_letPass 152 = .ok (.iinc 3 1, 3) := by decide +kernel
theorem dX2_letPass_155 : decode cX2_letPass 155 = .ok (.goto (-141), 3) := by decide +kernel
theorem dX2_letPass_158 : decode cX2_letPass 158 = .ok (.iload_n 2, 1) := by decide +kernel
theorem dX2_letPass_159 : decode cX2_letPass 159 = .ok (.ireturn, 1) := by decide +kernel
theorem dX2_speakOneMinute_0 : decode cX2_speakOneMinute 0 = .ok (.aload_n 0, 1) := by decide +kernel
theorem dX2_speakOneMinute_1 : decode cX2_speakOneMinute 1 = .ok (.getfield 37, 3) := by decide +kernel
theorem dX2_speakOneMinute_4 : decode cX2_speakOneMinute 4 = .ok (.dup, 1) := by decide +kernel
theorem dX2_speakOneMinute_5 : decode cX2_speakOneMinute 5 = .ok (.getfield 99, 3) := by decide +kernel
theorem dX2_speakOneMinute_8 : decode cX2_speakOneMinute 8 = .ok (.iconst 1, 1) := by decide +kernel
theorem dX2_speakOneMinute_9 : decode cX2_speakOneMinute 9 = .ok (.iadd, 1) := by decide +kernel
theorem dX2_speakOneMinute_10 : decode cX2_speakOneMinute 10 = .ok (.putfield 99, 3) := by decide +kernel
theorem dX2_speakOneMinute_13 : decode cX2_speakOneMinute 13 = .ok (.aload_n 0, 1) := by decide +kernel
theorem dX2_speakOneMinute_14 : decode cX2_speakOneMinute 14 = .ok (.getfield 37, 3) := by decide +kernel
theorem dX2_speakOneMinute_17 : decode cX2_speakOneMinute 17 = .ok (.dup, 1) := by decide +kernel
theorem dX2_speakOneMinute_18 : decode cX2_speakOneMinute 18 = .ok (.getfield 102, 3) := by decide +kernel
theorem dX2_speakOneMinute_21 : decode cX2_speakOneMinute 21 = .ok (.iconst 1, 1) := by decide +kernel
theorem dX2_speakOneMinute_22 : decode cX2_speakOneMinute 22 = .ok (.isub, 1) := by decide +kernel
theorem dX2_speakOneMinute_23 : decode cX2_speakOneMinute 23 = .ok (.putfield 102, 3) := by decide +kernel
theorem dX2_speakOneMinute_26 : decode cX2_speakOneMinute 26 = .ok (.aload_n 0, 1) := by decide +kernel
theorem dX2_speakOneMinute_27 : decode cX2_speakOneMinute 27 = .ok (.getfield 25, 3) := by decide +kernel
theorem dX2_speakOneMinute_30 : decode cX2_speakOneMinute 30 = .ok (.iconst 3, 1) := by decide +kernel
theorem dX2_speakOneMinute_31 : decode cX2_speakOneMinute 31 = .ok (.dup2, 1) := by decide +kernel
theorem dX2_speakOneMinute_32 : decode cX2_speakOneMinute 32 = .ok (.iaload, 1) := by decide +kernel
theorem dX2_speakOneMinute_33 : decode cX2_speakOneMinute 33 = .ok (.iconst 1, 1) := by decide +kernel
theorem dX2_speakOneMinute_34 : decode cX2_speakOneMinute 34 = .ok (.iadd, 1) := by decide +kernel
theorem dX2_speakOneMinute_35 : decode cX2_speakOneMinute 35 = .ok (.iastore, 1) := by decide +kernel
theorem dX2_speakOneMinute_36 : decode cX2_speakOneMinute 36 = .ok (.aload_n 0, 1) := by decide +kernel
theorem dX2_speakOneMinute_37 : decode cX2_speakOneMinute 37 = .ok (.aload_n 0, 1) := by decide +kernel
theorem dX2_speakOneMinute_38 : decode cX2_speakOneMinute 38 = .ok (.getfield 37, 3) := by decide +kernel
theorem dX2_speakOneMinute_41 : decode cX2_speakOneMinute 41 = .ok (.getfield 96, 3) := by decide +kernel
theorem dX2_speakOneMinute_44 : decode cX2_speakOneMinute 44 = .ok (.bipush 7, 2) := by decide +kernel
theorem dX2_speakOneMinute_46 : decode cX2_speakOneMinute 46 = .ok (.aload_n 0, 1) := by decide +kernel
theorem dX2_speakOneMinute_47 : decode cX2_speakOneMinute 47 = .ok (.aload_n 0, 1) := by decide +kernel
theorem dX2_speakOneMinute_48 : decode cX2_speakOneMinute 48 = .ok (.getfield 37, 3) := by decide +kernel
theorem dX2_speakOneMinute_51 : decode cX2_speakOneMinute 51 = .ok (.getfield 96, 3) := by decide +kernel
theorem dX2_speakOneMinute_54 : decode cX2_speakOneMinute 54 = .ok (.bipush 7, 2) := by decide +kernel
theorem dX2_speakOneMinute_56 : decode cX2_speakOneMinute 56 = .ok (.invokevirtual 127, 3) := by decide +kernel
theorem dX2_speakOneMinute_59 : decode cX2_speakOneMinute 59 = .ok (.iconst 1, 1) := by decide +kernel
theorem dX2_speakOneMinute_60 : decode cX2_speakOneMinute 60 = .ok (.iadd, 1) := by decide +kernel
theorem dX2_speakOneMinute_61 : decode cX2_speakOneMinute 61 = .ok (.invokevirtual 89, 3) := by decide +kernel
theorem dX2_speakOneMinute_64 : decode cX2_speakOneMinute 64 = .ok (.iconst 0, 1) := by decide +kernel
theorem dX2_speakOneMinute_65 : decode cX2_speakOneMinute 65 = .ok (.istore_n 1, 1) := by decide +kernel
theorem dX2_speakOneMinute_66 : decode cX2_speakOneMinute 66 = .ok (.iload_n 1, 1) := by decide +kernel
theorem dX2_speakOneMinute_67 : decode cX2_speakOneMinute 67 = .ok (.aload_n 0, 1) := by decide +kernel
theorem dX2_speakOneMinute_68 : decode cX2_speakOneMinute 68 = .ok (.getfield 9, 3) := by decide +kernel
theorem dX2_speakOneMinute_71 : decode cX2_speakOneMinute 71 = .ok (.if_icmp .ge 29, 3) := by decide +kernel
theorem dX2_speakOneMinute_74 : decode cX2_speakOneMinute 74 = .ok (.aload_n 0, 1) := by decide +kernel
theorem dX2_speakOneMinute_75 : decode cX2_speakOneMinute 75 = .ok (.iload_n 1, 1) := by decide +kernel
theorem dX2_speakOneMinute_76 : decode cX2_speakOneMinute 76 = .ok (.invokevirtual 131, 3) := by decide +kernel
theorem dX2_speakOneMinute_79 : decode cX2_speakOneMinute 79 = .ok (.ifCond .eq 15, 3) := by decide +kernel
theorem dX2_speakOneMinute_82 : decode cX2_speakOneMinute 82 = .ok (.aload_n 0, 1) := by decide +kernel
theorem dX2_speakOneMinute_83 : decode cX2_speakOneMinute 83 = .ok (.iload_n 1, 1) := by decide +kernel
theorem dX2_speakOneMinute_84 : decode cX2_speakOneMinute 84 = .ok (.aload_n 0, 1) := by decide +kernel
theorem dX2_speakOneMinute_85 : decode cX2_speakOneMinute 85 = .ok (.getfield 37, 3) := by decide +kernel
theorem dX2_speakOneMinute_88 : decode cX2_speakOneMinute 88 = .ok (.getfield 96, 3) := by decide +kernel
theorem dX2_speakOneMinute_91 : decode cX2_speakOneMinute 91 = .ok (.invokevirtual 165, 3) := by decide +kernel
theorem dX2_speakOneMinute_94 : decode cX2_speakOneMinute 94 = .ok (.iinc 1 1, 3) := by decide +kernel
theorem dX2_speakOneMinute_97 : decode cX2_speakOneMinute 97 = .ok (.goto (-31), 3) := by decide +kernel
theorem dX2_speakOneMinute_100 : decode cX2_speakOneMinute 100 = .ok (.return_, 1) := by decide +kernel
theorem dX2_comeDown_0 : decode cX2_comeDown 0 = .ok (.aload_n 0, 1) := by decide +kernel
theorem dX2_comeDown_1 : decode cX2_comeDown 1 = .ok (.iload_n 1, 1) := by decide +kernel
theorem dX2_comeDown_2 : decode cX2_comeDown 2 = .ok (.iconst 2, 1) := by decide +kernel
theorem dX2_comeDown_3 : decode cX2_comeDown 3 = .ok (.invokevirtual 127, 3) := by decide +kernel
theorem dX2_comeDown_6 : decode cX2_comeDown 6 = .ok (.iconst 1, 1) := by decide +kernel
theorem dX2_comeDown_7 : decode cX2_comeDown 7 = .ok (.if_icmp .eq 4, 3) := by decide +kernel
theorem dX2_comeDown_10 : decode cX2_comeDown 10 = .ok (.return_, 1) := by decide +kernel
theorem dX2_comeDown_11 : decode cX2_comeDown 11 = .ok (.aload_n 0, 1) := by decide +kernel
theorem dX2_comeDown_12 : decode cX2_comeDown 12 = .ok (.iload_n 1, 1) := by decide +kernel
theorem dX2_comeDown_13 : decode cX2_comeDown 13 = .ok (.iconst 3, 1) := by decide +kernel
theorem dX2_comeDown_14 : decode cX2_comeDown 14 = .ok (.invokevirtual 127, 3) := by decide +kernel
theorem dX2_comeDown_17 : decode cX2_comeDown 17 = .ok (.iconst 1, 1) := by decide +kernel
theorem dX2_comeDown_18 : decode cX2_comeDown 18 = .ok (.isub, 1) := by decide +kernel
theorem dX2_comeDown_19 : decode cX2_comeDown 19 = .ok (.istore_n 2, 1) := by decide +kernel
theorem dX2_comeDown_20 : decode cX2_comeDown 20 = .ok (.aload_n 0, 1) := by decide +kernel
theorem dX2_comeDown_21 : decode cX2_comeDown 21 = .ok (.iload_n 1, 1) := by decide +kernel
theorem dX2_comeDown_22 : decode cX2_comeDown 22 = .ok (.iconst 3, 1) := by decide +kernel
theorem dX2_comeDown_23 : decode cX2_comeDown 23 = .ok (.iload_n 2, 1) := by decide +kernel
theorem dX2_comeDown_24 : decode cX2_comeDown 24 = .ok (.invokevirtual 89, 3) := by decide +kernel
theorem dX2_comeDown_27 : decode cX2_comeDown 27 = .ok (.iload_n 2, 1) := by decide +kernel
theorem dX2_comeDown_28 : decode cX2_comeDown 28 = .ok (.ifCond .le 4, 3) := by decide +kernel
theorem dX2_comeDown_31 : decode cX2_comeDown 31 = .ok (.return_, 1) := by decide +kernel
theorem dX2_comeDown_32 : decode cX2_comeDown 32 = .ok (.aload_n 0, 1) := by decide +kernel
theorem dX2_comeDown_33 : decode cX2_comeDown 33 = .ok (.getfield 25, 3) := by decide +kernel
theorem dX2_comeDown_36 : decode cX2_comeDown 36 = .ok (.bipush 7, 2) := by decide +kernel
theorem dX2_comeDown_38 : decode cX2_comeDown 38 = .ok (.dup2, 1) := by decide +kernel
theorem dX2_comeDown_39 : decode cX2_comeDown 39 = .ok (.iaload, 1) := by decide +kernel
theorem dX2_comeDown_40 : decode cX2_comeDown 40 = .ok (.aload_n 0, 1) := by decide +kernel
theorem dX2_comeDown_41 : decode cX2_comeDown 41 = .ok (.getfield 51, 3) := by decide +kernel
theorem dX2_comeDown_44 : decode cX2_comeDown 44 = .ok (.iload_n 1, 1) := by decide +kernel
theorem dX2_comeDown_45 : decode cX2_comeDown 45 = .ok (.invokevirtual 169, 3) := by decide +kernel
theorem dX2_comeDown_48 : decode cX2_comeDown 48 = .ok (.iadd, 1) := by decide +kernel
theorem dX2_comeDown_49 : decode cX2_comeDown 49 = .ok (.iastore, 1) := by decide +kernel
theorem dX2_comeDown_50 : decode cX2_comeDown 50 = .ok (.aload_n 0, 1) := by decide +kernel
theorem dX2_comeDown_51 : decode cX2_comeDown 51 = .ok (.iload_n 1, 1) := by decide +kernel
theorem dX2_comeDown_52 : decode cX2_comeDown 52 = .ok (.invokevirtual 172, 3) := by decide +kernel
theorem dX2_comeDown_55 : decode cX2_comeDown 55 = .ok (.ifCond .eq 19, 3) := by decide +kernel
theorem dX2_comeDown_58 : decode cX2_comeDown 58 = .ok (.aload_n 0, 1) := by decide +kernel
theorem dX2_comeDown_59 : decode cX2_comeDown 59 = .ok (.iload_n 1, 1) := by decide +kernel
theorem dX2_comeDown_60 : decode cX2_comeDown 60 = .ok (.aload_n 0, 1) := by decide +kernel
theorem dX2_comeDown_61 : decode cX2_comeDown 61 = .ok (.getfield 37, 3) := by decide +kernel
theorem dX2_comeDown_64 : decode cX2_comeDown 64 = .ok (.getfield 102, 3) := by decide +kernel
theorem dX2_comeDown_67 : decode cX2_comeDown 67 = .ok (.iconst 1, 1) := by decide +kernel
theorem dX2_comeDown_68 : decode cX2_comeDown 68 = .ok (.invokevirtual 158, 3) := by decide +kernel
theorem dX2_comeDown_71 : decode cX2_comeDown 71 = .ok (.goto 18, 3) := by decide +kernel
theorem dX2_comeDown_74 : decode cX2_comeDown 74 = .ok (.aload_n 0, 1) := by decide +kernel
theorem dX2_comeDown_75 : decode cX2_comeDown 75 = .ok (.iload_n 1, 1) := by decide +kernel
theorem dX2_comeDown_76 : decode cX2_comeDown 76 = .ok (.iconst 2, 1) := by decide +kernel
theorem dX2_comeDown_77 : decode cX2_comeDown 77 = .ok (.iconst 2, 1) := by decide +kernel
theorem dX2_comeDown_78 : decode cX2_comeDown 78 = .ok (.invokevirtual 89, 3) := by decide +kernel
theorem dX2_comeDown_81 : decode cX2_comeDown 81 = .ok (.aload_n 0, 1) := by decide +kernel
theorem dX2_comeDown_82 : decode cX2_comeDown 82 = .ok (.getfield 44, 3) := by decide +kernel
theorem dX2_comeDown_85 : decode cX2_comeDown 85 = .ok (.iload_n 1, 1) := by decide +kernel
theorem dX2_comeDown_86 : decode cX2_comeDown 86 = .ok (.invokevirtual 175, 3) := by decide +kernel
theorem dX2_comeDown_89 : decode cX2_comeDown 89 = .ok (.return_, 1) := by decide +kernel
theorem dX2_isCalled_0 : decode cX2_isCalled 0 = .ok (.aload_n 0, 1) := by decide +kernel
theorem dX2_isCalled_1 : decode cX2_isCalled 1 = .ok (.getfield 37, 3) := by decide +kernel
theorem dX2_isCalled_4 : decode cX2_isCalled 4 = .ok (.getfield 93, 3) := by decide +kernel
theorem dX2_isCalled_7 : decode cX2_isCalled 7 = .ok (.iconst 1, 1) := by decide +kernel
theorem dX2_isCalled_8 : decode cX2_isCalled 8 = .ok (.if_icmp .ne 18, 3) := by decide +kernel
theorem dX2_isCalled_11 : decode cX2_isCalled 11 = .ok (.aload_n 0, 1) := by decide +kernel
theorem dX2_isCalled_12 : decode cX2_isCalled 12 = .ok (.getfield 37, 3) := by decide +kernel
theorem dX2_isCalled_15 : decode cX2_isCalled 15 = .ok (.getfield 96, 3) := by decide +kernel
theorem dX2_isCalled_18 : decode cX2_isCalled 18 = .ok (.iload_n 1, 1) := by decide +kernel
theorem dX2_isCalled_19 : decode cX2_isCalled 19 = .ok (.if_icmp .ne 7, 3) := by decide +kernel
theorem dX2_isCalled_22 : decode cX2_isCalled 22 = .ok (.iconst 1, 1) := by decide +kernel
theorem dX2_isCalled_23 : decode cX2_isCalled 23 = .ok (.goto 4, 3) := by decide +kernel
theorem dX2_isCalled_26 : decode cX2_isCalled 26 = .ok (.iconst 0, 1) := by decide +kernel
theorem dX2_isCalled_27 : decode cX2_isCalled 27 = .ok (.ireturn, 1) := by decide +kernel
theorem dX2_isCallOver_0 : decode cX2_isCallOver 0 = .ok (.aload_n 0, 1) := by decide +kernel
theorem dX2_isCallOver_1 : decode cX2_isCallOver 1 = .ok (.getfield 21, 3) := by decide +kernel
theorem dX2_isCallOver_4 : decode cX2_isCallOver 4 = .ok (.iconst 0, 1) := by decide +kernel
theorem dX2_isCallOver_5 : decode cX2_isCallOver 5 = .ok (.iaload, 1) := by decide +kernel
theorem dX2_isCallOver_6 : decode cX2_isCallOver 6 = .ok (.istore_n 1, 1) := by decide +kernel
theorem dX2_isCallOver_7 : decode cX2_isCallOver 7 = .ok (.iload_n 1, 1) := by decide +kernel
theorem dX2_isCallOver_8 : decode cX2_isCallOver 8 = .ok (.ifCond .le 28, 3) := by decide +kernel
theorem dX2_isCallOver_11 : decode cX2_isCallOver 11 = .ok (.aload_n 0, 1) := by decide +kernel
theorem dX2_isCallOver_12 : decode cX2_isCallOver 12 = .ok (.getfield 37, 3) := by decide +kernel
theorem dX2_isCallOver_15 : decode cX2_isCallOver 15 = .ok (.getfield 99, 3) := by decide +kernel
theorem dX2_isCallOver_18 : decode cX2_isCallOver 18 = .ok (.iload_n 1, 1) := by decide +kernel
theorem dX2_isCallOver_19 : decode cX2_isCallOver 19 = .ok (.if_icmp .lt 17, 3) := by decide +kernel
theorem dX2_isCallOver_22 : decode cX2_isCallOver 22 = .ok (.aload_n 0, 1) := by decide +kernel
theorem dX2_isCallOver_23 : decode cX2_isCallOver 23 = .ok (.getfield 44, 3) := by decide +kernel
theorem dX2_isCallOver_26 : decode cX2_isCallOver 26 = .ok (.getfield 71, 3) := by decide +kernel
theorem dX2_isCallOver_29 : decode cX2_isCallOver 29 = .ok (.ifCond .le 7, 3) := by decide +kernel
theorem dX2_isCallOver_32 : decode cX2_isCallOver 32 = .ok (.iconst 1, 1) := by decide +kernel
theorem dX2_isCallOver_33 : decode cX2_isCallOver 33 = .ok (.goto 4, 3) := by decide +kernel
theorem dX2_isCallOver_36 : decode cX2_isCallOver 36 = .ok (.iconst 0, 1) := by decide +kernel
theorem dX2_isCallOver_37 : decode cX2_isCallOver 37 = .ok (.istore_n 2, 1) := by decide +kernel
theorem dX2_isCallOver_38 : decode cX2_isCallOver 38 = .ok (.aload_n 0, 1) := by decide +kernel
theorem dX2_isCallOver_39 : decode cX2_isCallOver 39 = .ok (.getfield 37, 3) := by decide +kernel
theorem dX2_isCallOver_42 : decode cX2_isCallOver 42 = .ok (.getfield 93, 3) := by decide +kernel
theorem dX2_isCallOver_45 : decode cX2_isCallOver 45 = .ok (.iconst 2, 1) := by decide +kernel
theorem dX2_isCallOver_46 : decode cX2_isCallOver 46 = .ok (.if_icmp .ne 21, 3) := by decide +kernel
theorem dX2_isCallOver_49 : decode cX2_isCallOver 49 = .ok (.aload_n 0, 1) := by decide +kernel
theorem dX2_isCallOver_50 : decode cX2_isCallOver 50 = .ok (.getfield 37, 3) := by decide +kernel
theorem dX2_isCallOver_53 : decode cX2_isCallOver 53 = .ok (.getfield 102, 3) := by decide +kernel
theorem dX2_isCallOver_56 : decode cX2_isCallOver 56 = .ok (.ifCond .le 7, 3) := by decide +kernel
theorem dX2_isCallOver_59 : decode cX2_isCallOver 59 = .ok (.iload_n 2, 1) := by decide +kernel
theorem dX2_isCallOver_60 : decode cX2_isCallOver 60 = .ok (.ifCond .eq 7, 3) := by decide +kernel
theorem dX2_isCallOver_63 : decode cX2_isCallOver 63 = .ok (.iconst 1, 1) := by decide +kernel
theorem dX2_isCallOver_64 : decode cX2_isCallOver 64 = .ok (.goto 4, 3) := by decide +kernel
theorem dX2_isCallOver_67 : decode cX2_isCallOver 67 = .ok (.iconst 0, 1) := by decide +kernel
theorem dX2_isCallOver_68 : decode cX2_isCallOver 68 = .ok (.ireturn, 1) := by decide +kernel
theorem dX2_endCall_0 : decode cX2_endCall 0 = .ok (.aload_n 0, 1) := by decide +kernel
theorem dX2_endCall_1 : decode cX2_endCall 1 = .ok (.getfield 37, 3) := by decide +kernel
theorem dX2_endCall_4 : decode cX2_endCall 4 = .ok (.getfield 96, 3) := by decide +kernel
theorem dX2_endCall_7 : decode cX2_endCall 7 = .ok (.istore_n 1, 1) := by decide +kernel
theorem dX2_endCall_8 : decode cX2_endCall 8 = .ok (.aload_n 0, 1) := by decide +kernel
theorem dX2_endCall_9 : decode cX2_endCall 9 = .ok (.getfield 37, 3) := by decide +kernel
theorem dX2_endCall_12 : decode cX2_endCall 12 = .ok (.getfield 99, 3) := by decide +kernel
theorem dX2_endCall_15 : decode cX2_endCall 15 = .ok (.istore_n 2, 1) := by decide +kernel
theorem dX2_endCall_16 : decode cX2_endCall 16 = .ok (.aload_n 0, 1) := by decide +kernel
theorem dX2_endCall_17 : decode cX2_endCall 17 = .ok (.getfield 37, 3) := by decide +kernel
theorem dX2_endCall_20 : decode cX2_endCall 20 = .ok (.getfield 105, 3) := by decide +kernel
theorem dX2_endCall_23 : decode cX2_endCall 23 = .ok (.ifCond .eq 7, 3) := by decide +kernel
theorem dX2_endCall_26 : decode cX2_endCall 26 = .ok (.iconst 0, 1) := by decide +kernel
theorem dX2_endCall_27 : decode cX2_endCall 27 = .ok (.goto 8, 3) := by decide +kernel
theorem dX2_endCall_30 : decode cX2_endCall 30 = .ok (.aload_n 0, 1) := by decide +kernel
theorem dX2_endCall_31 : decode cX2_endCall 31 = .ok (.iload_n 2, 1) := by decide +kernel
theorem dX2_endCall_32 : decode cX2_endCall 32 = .ok (.invokevirtual 178, 3) := by decide +kernel
theorem dX2_endCall_35 : decode cX2_endCall 35 = .ok (.istore_n 3, 1) := by decide +kernel
theorem dX2_endCall_36 : decode cX2_endCall 36 = .ok (.aload_n 0, 1) := by decide +kernel
theorem dX2_endCall_37 : decode cX2_endCall 37 = .ok (.iload_n 1, 1) := by decide +kernel
theorem dX2_endCall_38 : decode cX2_endCall 38 = .ok (.iconst 2, 1) := by decide +kernel
theorem dX2_endCall_39 : decode cX2_endCall 39 = .ok (.iconst 0, 1) := by decide +kernel
theorem dX2_endCall_40 : decode cX2_endCall 40 = .ok (.invokevirtual 89, 3) := by decide +kernel
theorem dX2_endCall_43 : decode cX2_endCall 43 = .ok (.aload_n 0, 1) := by decide +kernel
theorem dX2_endCall_44 : decode cX2_endCall 44 = .ok (.iload_n 1, 1) := by decide +kernel
theorem dX2_endCall_45 : decode cX2_endCall 45 = .ok (.bipush 6, 2) := by decide +kernel
theorem dX2_endCall_47 : decode cX2_endCall 47 = .ok (.aload_n 0, 1) := by decide +kernel
theorem dX2_endCall_48 : decode cX2_endCall 48 = .ok (.iload_n 1, 1) := by decide +kernel
theorem dX2_endCall_49 : decode cX2_endCall 49 = .ok (.bipush 6, 2) := by decide +kernel
theorem dX2_endCall_51 : decode cX2_endCall 51 = .ok (.invokevirtual 127, 3) := by decide +kernel
theorem dX2_endCall_54 : decode cX2_endCall 54 = .ok (.iload_n 3, 1) := by decide +kernel
theorem dX2_endCall_55 : decode cX2_endCall 55 = .ok (.iadd, 1) := by decide +kernel
theorem dX2_endCall_56 : decode cX2_endCall 56 = .ok (.invokevirtual 89, 3) := by decide +kernel
theorem dX2_endCall_59 : decode cX2_endCall 59 = .ok (.aload_n 0, 1) := by decide +kernel
theorem dX2_endCall_60 : decode cX2_endCall 60 = .ok (.iload_n 1, 1) := by decide +kernel
theorem dX2_endCall_61 : decode cX2_endCall 61 = .ok (.bipush 8, 2) := by decide +kernel
theorem dX2_endCall_63 : decode cX2_endCall 63 = .ok (.aload_n 0, 1) := by decide +kernel
theorem dX2_endCall_64 : decode cX2_endCall 64 = .ok (.iload_n 1, 1) := by decide +kernel
theorem dX2_endCall_65 : decode cX2_endCall 65 = .ok (.bipush 8, 2) := by decide +kernel
theorem dX2_endCall_67 : decode cX2_endCall 67 = .ok (.invokevirtual 127, 3) := by decide +kernel
theorem dX2_endCall_70 : decode cX2_endCall 70 = .ok (.iconst 1, 1) := by decide +kernel
theorem dX2_endCall_71 : decode cX2_endCall 71 = .ok (.iadd, 1) := by decide +kernel
theorem dX2_endCall_72 : decode cX2_endCall 72 = .ok (.invokevirtual 89, 3) := by decide +kernel
theorem dX2_endCall_75 : decode cX2_endCall 75 = .ok (.aload_n 0, 1) := by decide +kernel
theorem dX2_endCall_76 : decode cX2_endCall 76 = .ok (.getfield 25, 3) := by decide +kernel
theorem dX2_endCall_79 : decode cX2_endCall 79 = .ok (.iconst 1, 1) := by decide +kernel
theorem dX2_endCall_80 : decode cX2_endCall 80 = .ok (.dup2, 1) := by decide +kernel
theorem dX2_endCall_81 : decode cX2_endCall 81 = .ok (.iaload, 1) := by decide +kernel
theorem dX2_endCall_82 : decode cX2_endCall 82 = .ok (.iconst 1, 1) := by decide +kernel
theorem dX2_endCall_83 : decode cX2_endCall 83 = .ok (.iadd, 1) := by decide +kernel
theorem dX2_endCall_84 : decode cX2_endCall 84 = .ok (.iastore, 1) := by decide +kernel
theorem dX2_endCall_85 : decode cX2_endCall 85 = .ok (.aload_n 0, 1) := by decide +kernel
theorem dX2_endCall_86 : decode cX2_endCall 86 = .ok (.getfield 25, 3) := by decide +kernel
theorem dX2_endCall_89 : decode cX2_endCall 89 = .ok (.iconst 4, 1) := by decide +kernel
theorem dX2_endCall_90 : decode cX2_endCall 90 = .ok (.dup2, 1) := by decide +kernel
theorem dX2_endCall_91 : decode cX2_endCall 91 = .ok (.iaload, 1) := by decide +kernel
theorem dX2_endCall_92 : decode cX2_endCall 92 = .ok (.iload_n 3, 1) := by decide +kernel
theorem dX2_endCall_93 : decode cX2_endCall 93 = .ok (.iadd, 1) := by decide +kernel
theorem dX2_endCall_94 : decode cX2_endCall 94 = .ok (.iastore, 1) := by decide +kernel
theorem dX2_endCall_95 : decode cX2_endCall 95 = .ok (.aload_n 0, 1) := by decide +kernel
theorem dX2_endCall_96 : decode cX2_endCall 96 = .ok (.dup, 1) := by decide +kernel
theorem dX2_endCall_97 : decode cX2_endCall 97 = .ok (.getfield 18, 3) := by decide +kernel
theorem dX2_endCall_100 : decode cX2_endCall 100 = .ok (.iload_n 2, 1) := by decide +kernel
theorem dX2_endCall_101 : decode cX2_endCall 101 = .ok (.iadd, 1) := by decide +kernel
theorem dX2_endCall_102 : decode cX2_endCall 102 = .ok (.putfield 18, 3) := by decide +kernel
theorem dX2_endCall_105 : decode cX2_endCall 105 = .ok (.aload_n 0, 1) := by decide +kernel
theorem dX2_endCall_106 : decode cX2_endCall 106 = .ok (.getfield 37, 3) := by decide +kernel
theorem dX2_endCall_109 : decode cX2_endCall 109 = .ok (.invokevirtual 68, 3) := by decide +kernel
theorem dX2_endCall_112 : decode cX2_endCall 112 = .ok (.iload_n 2, 1) := by decide +kernel
theorem dX2_endCall_113 : decode cX2_endCall 113 = .ok (.ireturn, 1) := by decide +kernel
theorem dX2_connect_0 : decode cX2_connect 0 = .ok (.aload_n 0, 1) := by decide +kernel
theorem dX2_connect_1 : decode cX2_connect 1 = .ok (.getfield 44, 3) := by decide +kernel
theorem dX2_connect_4 : decode cX2_connect 4 = .ok (.iload_n 1, 1) := by decide +kernel
theorem dX2_connect_5 : decode cX2_connect 5 = .ok (.invokevirtual 181, 3) := by decide +kernel
theorem dX2_connect_8 : decode cX2_connect 8 = .ok (.aload_n 0, 1) := by decide +kernel
theorem dX2_connect_9 : decode cX2_connect 9 = .ok (.iload_n 1, 1) := by decide +kernel
theorem dX2_connect_10 : decode cX2_connect 10 = .ok (.iconst 2, 1) := by decide +kernel
theorem dX2_connect_11 : decode cX2_connect 11 = .ok (.iconst 3, 1) := by decide +kernel
theorem dX2_connect_12 : decode cX2_connect 12 = .ok (.invokevirtual 89, 3) := by decide +kernel
theorem dX2_connect_15 : decode cX2_connect 15 = .ok (.aload_n 0, 1) := by decide +kernel
theorem dX2_connect_16 : decode cX2_connect 16 = .ok (.iload_n 1, 1) := by decide +kernel
theorem dX2_connect_17 : decode cX2_connect 17 = .ok (.iconst 4, 1) := by decide +kernel
theorem dX2_connect_18 : decode cX2_connect 18 = .ok (.iconst 0, 1) := by decide +kernel
theorem dX2_connect_19 : decode cX2_connect 19 = .ok (.invokevirtual 89, 3) := by decide +kernel
theorem dX2_connect_22 : decode cX2_connect 22 = .ok (.aload_n 0, 1) := by decide +kernel
theorem dX2_connect_23 : decode cX2_connect 23 = .ok (.getfield 37, 3) := by decide +kernel
theorem dX2_connect_26 : decode cX2_connect 26 = .ok (.iload_n 1, 1) := by decide +kernel
theorem dX2_connect_27 : decode cX2_connect 27 = .ok (.iload_n 2, 1) := by decide +kernel
theorem dX2_connect_28 : decode cX2_connect 28 = .ok (.iload_n 3, 1) := by decide +kernel
theorem dX2_connect_29 : decode cX2_connect 29 = .ok (.invokevirtual 184, 3) := by decide +kernel
theorem dX2_connect_32 : decode cX2_connect 32 = .ok (.return_, 1) := by decide +kernel
theorem dX2_countWaiting_0 : decode cX2_countWaiting 0 = .ok (.iconst 0, 1) := by decide +kernel
theorem dX2_countWaiting_1 : decode cX2_countWaiting 1 = .ok (.istore_n 1, 1) := by decide +kernel
theorem dX2_countWaiting_2 : decode cX2_countWaiting 2 = .ok (.iload_n 1, 1) := by decide +kernel
theorem dX2_countWaiting_3 : decode cX2_countWaiting 3 = .ok (.aload_n 0, 1) := by decide +kernel
theorem dX2_countWaiting_4 : decode cX2_countWaiting 4 = .ok (.getfield 44, 3) := by decide +kernel
theorem dX2_countWaiting_7 : decode cX2_countWaiting 7 = .ok (.getfield 71, 3) := by decide +kernel
theorem dX2_countWaiting_10 : decode cX2_countWaiting 10 = .ok (.if_icmp .ge 34, 3) := by decide +kernel
theorem dX2_countWaiting_13 : decode cX2_countWaiting 13 = .ok (.aload_n 0, 1) := by decide +kernel
theorem dX2_countWaiting_14 : decode cX2_countWaiting 14 = .ok (.getfield 44, 3) := by decide +kernel
theorem dX2_countWaiting_17 : decode cX2_countWaiting 17 = .ok (.iload_n 1, 1) := by decide +kernel
theorem dX2_countWaiting_18 : decode cX2_countWaiting 18 = .ok (.invokevirtual 155, 3) := by decide +kernel
theorem dX2_countWaiting_21 : decode cX2_countWaiting 21 = .ok (.istore_n 2, 1) := by decide +kernel
theorem dX2_countWaiting_22 : decode cX2_countWaiting 22 = .ok (.aload_n 0, 1) := by decide +kernel
theorem dX2_countWaiting_23 : decode cX2_countWaiting 23 = .ok (.iload_n 2, 1) := by decide +kernel
theorem dX2_countWaiting_24 : decode cX2_countWaiting 24 = .ok (.bipush 10, 2) := by decide +kernel
theorem dX2_countWaiting_26 : decode cX2_countWaiting 26 = .ok (.aload_n 0, 1) := by decide +kernel
theorem dX2_countWaiting_27 : decode cX2_countWaiting 27 = .ok (.iload_n 2, 1) := by decide +kernel
theorem dX2_countWaiting_28 : decode cX2_countWaiting 28 = .ok (.bipush 10, 2) := by decide +kernel
theorem dX2_countWaiting_30 : decode cX2_countWaiting 30 = .ok (.invokevirtual 127, 3) := by decide +kernel
theorem dX2_countWaiting_33 : decode cX2_countWaiting 33 = .ok (.iconst 1, 1) := by decide +kernel
theorem dX2_countWaiting_34 : decode cX2_countWaiting 34 = .ok (.iadd, 1) := by decide +kernel
theorem dX2_countWaiting_35 : decode cX2_countWaiting 35 = .ok (.invokevirtual 89, 3) := by decide +kernel
theorem dX2_countWaiting_38 : decode cX2_countWaiting 38 = .ok (.iinc 1 1, 3) := by decide +kernel
theorem dX2_countWaiting_41 : decode cX2_countWaiting 41 = .ok (.goto (-39), 3) := by decide +kernel
theorem dX2_countWaiting_44 : decode cX2_countWaiting 44 = .ok (.return_, 1) := by decide +kernel
theorem dX2_isQuiet_0 : decode cX2_isQuiet 0 = .ok (.aload_n 0, 1) := by decide +kernel
theorem dX2_isQuiet_1 : decode cX2_isQuiet 1 = .ok (.getfield 37, 3) := by decide +kernel
theorem dX2_isQuiet_4 : decode cX2_isQuiet 4 = .ok (.getfield 93, 3) := by decide +kernel
theorem dX2_isQuiet_7 : decode cX2_isQuiet 7 = .ok (.ifCond .ne 25, 3) := by decide +kernel
theorem dX2_isQuiet_10 : decode cX2_isQuiet 10 = .ok (.aload_n 0, 1) := by decide +kernel
theorem dX2_isQuiet_11 : decode cX2_isQuiet 11 = .ok (.getfield 44, 3) := by decide +kernel
theorem dX2_isQuiet_14 : decode cX2_isQuiet 14 = .ok (.getfield 71, 3) := by decide +kernel
theorem dX2_isQuiet_17 : decode cX2_isQuiet 17 = .ok (.ifCond .ne 15, 3) := by decide +kernel
theorem dX2_isQuiet_20 : decode cX2_isQuiet 20 = .ok (.aload_n 0, 1) := by decide +kernel
theorem dX2_isQuiet_21 : decode cX2_isQuiet 21 = .ok (.iconst 1, 1) := by decide +kernel
theorem dX2_isQuiet_22 : decode cX2_isQuiet 22 = .ok (.invokevirtual 109, 3) := by decide +kernel
theorem dX2_isQuiet_25 : decode cX2_isQuiet 25 = .ok (.ifCond .ne 7, 3) := by decide +kernel
theorem dX2_isQuiet_28 : decode cX2_isQuiet 28 = .ok (.iconst 1, 1) := by decide +kernel
theorem dX2_isQuiet_29 : decode cX2_isQuiet 29 = .ok (.goto 4, 3) := by decide +kernel
theorem dX2_isQuiet_32 : decode cX2_isQuiet 32 = .ok (.iconst 0, 1) := by decide +kernel
theorem dX2_isQuiet_33 : decode cX2_isQuiet 33 = .ok (.ireturn, 1) := by decide +kernel
theorem dX2_refusal_0 : decode cX2_refusal 0 = .ok (.aload_n 0, 1) := by decide +kernel
theorem dX2_refusal_1 : decode cX2_refusal 1 = .ok (.iload_n 2, 1) := by decide +kernel
theorem dX2_refusal_2 : decode cX2_refusal 2 = .ok (.iconst 2, 1) := by decide +kernel
theorem dX2_refusal_3 : decode cX2_refusal 3 = .ok (.invokevirtual 127, 3) := by decide +kernel
theorem dX2_refusal_6 : decode cX2_refusal 6 = .ok (.istore 4, 2) := by decide +kernel
theorem dX2_refusal_8 : decode cX2_refusal 8 = .ok (.getstatic 188, 3) := by decide +kernel
theorem dX2_refusal_11 : decode cX2_refusal 11 = .ok (.aload_n 1, 1) := by decide +kernel
theorem dX2_refusal_12 : decode cX2_refusal 12 = .ok (.invokevirtual 193, 3) := by decide +kernel
theorem dX2_refusal_15 : decode cX2_refusal 15 = .ok (.iaload, 1) := by decide +kernel
theorem dX2_refusal_16 : decode cX2_refusal 16 = .ok (.tableswitch 119 1 5 #[36, 47, 73, 85, 101], 36) := by decide +kernel
theorem dX2_refusal_52 : decode cX2_refusal 52 = .ok (.iload 4, 2) := by decide +kernel
theorem dX2_refusal_54 : decode cX2_refusal 54 = .ok (.ifCond .ne 7, 3) := by decide +kernel
theorem dX2_refusal_57 : decode cX2_refusal 57 = .ok (.iconst 0, 1) := by decide +kernel
theorem dX2_refusal_58 : decode cX2_refusal 58 = .ok (.goto 4, 3) := by decide +kernel
theorem dX2_refusal_61 : decode cX2_refusal 61 = .ok (.iconst 2, 1) := by decide +kernel
theorem dX2_refusal_62 : decode cX2_refusal 62 = .ok (.ireturn, 1) := by decide +kernel
theorem dX2_refusal_63 : decode cX2_refusal 63 = .ok (.iload 4, 2) := by decide +kernel
theorem dX2_refusal_65 : decode cX2_refusal 65 = .ok (.iconst 2, 1) := by decide +kernel
theorem dX2_refusal_66 : decode cX2_refusal 66 = .ok (.if_icmp .eq 17, 3) := by decide +kernel
theorem dX2_refusal_69 : decode cX2_refusal 69 = .ok (.iload 4, 2) := by decide +kernel
theorem dX2_refusal_71 : decode cX2_refusal 71 = .ok (.iconst 1, 1) := by decide +kernel
theorem dX2_refusal_72 : decode cX2_refusal 72 = .ok (.if_icmp .ne 15, 3) := by decide +kernel
theorem dX2_refusal_75 : decode cX2_refusal 75 = .ok (.aload_n 0, 1) := by decide +kernel
theorem dX2_refusal_76 : decode cX2_refusal 76 = .ok (.iload_n 2, 1) := by decide +kernel
theorem dX2_refusal_77 : decode cX2_refusal 77 = .ok (.invokevirtual 172, 3) := by decide +kernel
theorem dX2_refusal_80 : decode cX2_refusal 80 = .ok (.ifCond .ne 7, 3) := by decide +kernel
theorem dX2_refusal_83 : decode cX2_refusal 83 = .ok (.iconst 0, 1) := by decide +kernel
theorem dX2_refusal_84 : decode cX2_refusal 84 = .ok (.goto 4, 3) := by decide +kernel
theorem dX2_refusal_87 : decode cX2_refusal 87 = .ok (.iconst 3, 1) := by decide +kernel
theorem dX2_refusal_88 : decode cX2_refusal 88 = .ok (.ireturn, 1) := by decide +kernel
theorem dX2_refusal_89 : decode cX2_refusal 89 = .ok (.iload 4, 2) := by decide +kernel
theorem dX2_refusal_91 : decode cX2_refusal 91 = .ok (.iconst 3, 1) := by decide +kernel
theorem dX2_refusal_92 : decode cX2_refusal 92 = .ok (.if_icmp .ne 7, 3) := by decide +kernel
theorem dX2_refusal_95 : decode cX2_refusal 95 = .ok (.iconst 0, 1) := by decide +kernel
theorem dX2_refusal_96 : decode cX2_refusal 96 = .ok (.goto 4, 3) := by decide +kernel
theorem dX2_refusal_99 : decode cX2_refusal 99 = .ok (.iconst 4, 1) := by decide +kernel
theorem dX2_refusal_100 : decode cX2_refusal 100 = .ok (.ireturn, 1) := by decide +kernel
theorem dX2_refusal_101 : decode cX2_refusal 101 = .ok (.aload_n 0, 1) := by decide +kernel
theorem dX2_refusal_102 : decode cX2_refusal 102 = .ok (.getfield 37, 3) := by decide +kernel
theorem dX2_refusal_105 : decode cX2_refusal 105 = .ok (.getfield 93, 3) := by decide +kernel
theorem dX2_refusal_108 : decode cX2_refusal 108 = .ok (.ifCond .ne 7, 3) := by decide +kernel
theorem dX2_refusal_111 : decode cX2_refusal 111 = .ok (.iconst 0, 1) := by decide +kernel
theorem dX2_refusal_112 : decode cX2_refusal 112 = .ok (.goto 4, 3) := by decide +kernel
theorem dX2_refusal_115 : decode cX2_refusal 115 = .ok (.iconst 5, 1) := by decide +kernel
theorem dX2_refusal_116 : decode cX2_refusal 116 = .ok (.ireturn, 1) := by decide +kernel
theorem dX2_refusal_117 : decode cX2_refusal 117 = .ok (.iload_n 3, 1) := by decide +kernel
theorem dX2_refusal_118 : decode cX2_refusal 118 = .ok (.aload_n 0, 1) := by decide +kernel
theorem dX2_refusal_119 : decode cX2_refusal 119 = .ok (.iload_n 2, 1) := by decide +kernel
theorem dX2_refusal_120 : decode cX2_refusal 120 = .ok (.bipush 6, 2) := by decide +kernel
theorem dX2_refusal_122 : decode cX2_refusal 122 = .ok (.invokevirtual 127, 3) := by decide +kernel
theorem dX2_refusal_125 : decode cX2_refusal 125 = .ok (.if_icmp .gt 7, 3) := by decide +kernel
theorem dX2_refusal_128 : decode cX2_refusal 128 = .ok (.iconst 0, 1) := by decide +kernel
theorem dX2_refusal_129 : decode cX2_refusal 129 = .ok (.goto 5, 3) := by decide +kernel
theorem dX2_refusal_132 : decode cX2_refusal 132 = .ok (.bipush 6, 2) := by decide +kernel
theorem dX2_refusal_134 : decode cX2_refusal 134 = .ok (.ireturn, 1) := by decide +kernel
theorem dX2_refusal_135 : decode cX2_refusal 135 = .ok (.iconst 0, 1) := by decide +kernel
theorem dX2_refusal_136 : decode cX2_refusal 136 = .ok (.ireturn, 1) := by decide +kernel
theorem dX2_perform_0 : decode cX2_perform 0 = .ok (.getstatic 188, 3) := by decide +kernel
theorem dX2_perform_3 : decode cX2_perform 3 = .ok (.aload_n 1, 1) := by decide +kernel
theorem dX2_perform_4 : decode cX2_perform 4 = .ok (.invokevirtual 193, 3) := by decide +kernel
theorem dX2_perform_7 : decode cX2_perform 7 = .ok (.iaload, 1) := by decide +kernel
theorem dX2_perform_8 : decode cX2_perform 8 = .ok (.tableswitch 78 1 6 #[40, 47, 53, 58, 65, 72], 40) := by decide +kernel
theorem dX2_perform_48 : decode cX2_perform 48 = .ok (.aload_n 0, 1) := by decide +kernel
theorem dX2_perform_49 : decode cX2_perform 49 = .ok (.iload_n 2, 1) := by decide +kernel
theorem dX2_perform_50 : decode cX2_perform 50 = .ok (.iload_n 3, 1) := by decide +kernel
theorem dX2_perform_51 : decode cX2_perform 51 = .ok (.invokevirtual 198, 3) := by decide +kernel
theorem dX2_perform_54 : decode cX2_perform 54 = .ok (.ireturn, 1) := by decide +kernel
theorem dX2_perform_55 : decode cX2_perform 55 = .ok (.aload_n 0, 1) := by decide +kernel
theorem dX2_perform_56 : decode cX2_perform 56 = .ok (.iload_n 2, 1) := by decide +kernel
theorem dX2_perform_57 : decode cX2_perform 57 = .ok (.invokevirtual 201, 3) := by decide +kernel
theorem dX2_perform_60 : decode cX2_perform 60 = .ok (.ireturn, 1) := by decide +kernel
theorem dX2_perform_61 : decode cX2_perform 61 = .ok (.aload_n 0, 1) := by decide +kernel
theorem dX2_perform_62 : decode cX2_perform 62 = .ok (.invokevirtual 152, 3) := by decide +kernel
theorem dX2_perform_65 : decode cX2_perform 65 = .ok (.ireturn, 1) := by decide +kernel
theorem dX2_perform_66 : decode cX2_perform 66 = .ok (.aload_n 0, 1) := by decide +kernel
theorem dX2_perform_67 : decode cX2_perform 67 = .ok (.iload_n 2, 1) := by decide +kernel
theorem dX2_perform_68 : decode cX2_perform 68 = .ok (.iload_n 3, 1) := by decide +kernel
theorem dX2_perform_69 : decode cX2_perform 69 = .ok (.invokevirtual 204, 3) := by decide +kernel
theorem dX2_perform_72 : decode cX2_perform 72 = .ok (.ireturn, 1) := by decide +kernel
theorem dX2_perform_73 : decode cX2_perform 73 = .ok (.aload_n 0, 1) := by decide +kernel
theorem dX2_perform_74 : decode cX2_perform 74 = .ok (.iload_n 2, 1) := by decide +kernel
theorem dX2_perform_75 : decode cX2_perform 75 = .ok (.iload_n 3, 1) := by decide +kernel
theorem dX2_perform_76 : decode cX2_perform 76 = .ok (.invokevirtual 207, 3) := by decide +kernel
theorem dX2_perform_79 : decode cX2_perform 79 = .ok (.ireturn, 1) := by decide +kernel
theorem dX2_perform_80 : decode cX2_perform 80 = .ok (.aload_n 0, 1) := by decide +kernel
theorem dX2_perform_81 : decode cX2_perform 81 = .ok (.iload_n 3, 1) := by decide +kernel
theorem dX2_perform_82 : decode cX2_perform 82 = .ok (.invokevirtual 185, 3) := by decide +kernel
theorem dX2_perform_85 : decode cX2_perform 85 = .ok (.ireturn, 1) := by decide +kernel
theorem dX2_perform_86 : decode cX2_perform 86 = .ok (.aload_n 0, 1) := by decide +kernel
theorem dX2_perform_87 : decode cX2_perform 87 = .ok (.aload_n 1, 1) := by decide +kernel
theorem dX2_perform_88 : decode cX2_perform 88 = .ok (.getfield 210, 3) := by decide +kernel
theorem dX2_perform_91 : decode cX2_perform 91 = .ok (.iload_n 3, 1) := by decide +kernel
theorem dX2_perform_92 : decode cX2_perform 92 = .ok (.invokevirtual 213, 3) := by decide +kernel
theorem dX2_perform_95 : decode cX2_perform 95 = .ok (.ireturn, 1) := by decide +kernel
theorem dX2_setOut_0 : decode cX2_setOut 0 = .ok (.iconst 1, 1) := by decide +kernel
theorem dX2_setOut_1 : decode cX2_setOut 1 = .ok (.aload_n 0, 1) := by decide +kernel
theorem dX2_setOut_2 : decode cX2_setOut 2 = .ok (.iload_n 1, 1) := by decide +kernel
theorem dX2_setOut_3 : decode cX2_setOut 3 = .ok (.iconst 0, 1) := by decide +kernel
theorem dX2_setOut_4 : decode cX2_setOut 4 = .ok (.invokevirtual 127, 3) := by decide +kernel
theorem dX2_setOut_7 : decode cX2_setOut 7 = .ok (.iadd, 1) := by decide +kernel
theorem dX2_setOut_8 : decode cX2_setOut 8 = .ok (.istore_n 3, 1) := by decide +kernel
theorem dX2_setOut_9 : decode cX2_setOut 9 = .ok (.aload_n 0, 1) := by decide +kernel
theorem dX2_setOut_10 : decode cX2_setOut 10 = .ok (.iload_n 1, 1) := by decide +kernel
theorem dX2_setOut_11 : decode cX2_setOut 11 = .ok (.iconst 2, 1) := by decide +kernel
theorem dX2_setOut_12 : decode cX2_setOut 12 = .ok (.iconst 1, 1) := by decide +kernel
theorem dX2_setOut_13 : decode cX2_setOut 13 = .ok (.invokevirtual 89, 3) := by decide +kernel
theorem dX2_setOut_16 : decode cX2_setOut 16 = .ok (.aload_n 0, 1) := by decide +kernel
theorem dX2_setOut_17 : decode cX2_setOut 17 = .ok (.iload_n 1, 1) := by decide +kernel
theorem dX2_setOut_18 : decode cX2_setOut 18 = .ok (.iconst 3, 1) := by decide +kernel
theorem dX2_setOut_19 : decode cX2_setOut 19 = .ok (.iload_n 3, 1) := by decide +kernel
theorem dX2_setOut_20 : decode cX2_setOut 20 = .ok (.invokevirtual 89, 3) := by decide +kernel
theorem dX2_setOut_23 : decode cX2_setOut 23 = .ok (.aload_n 0, 1) := by decide +kernel
theorem dX2_setOut_24 : decode cX2_setOut 24 = .ok (.iload_n 1, 1) := by decide +kernel
theorem dX2_setOut_25 : decode cX2_setOut 25 = .ok (.iconst 4, 1) := by decide +kernel
theorem dX2_setOut_26 : decode cX2_setOut 26 = .ok (.iload_n 2, 1) := by decide +kernel
theorem dX2_setOut_27 : decode cX2_setOut 27 = .ok (.invokevirtual 89, 3) := by decide +kernel
theorem dX2_setOut_30 : decode cX2_setOut 30 = .ok (.iload_n 3, 1) := by decide +kernel
theorem dX2_setOut_31 : decode cX2_setOut 31 = .ok (.ireturn, 1) := by decide +kernel
theorem dX2_giveUp_0 : decode cX2_giveUp 0 = .ok (.aload_n 0, 1) := by decide +kernel
theorem dX2_giveUp_1 : decode cX2_giveUp 1 = .ok (.iload_n 1, 1) := by decide +kernel
theorem dX2_giveUp_2 : decode cX2_giveUp 2 = .ok (.iconst 4, 1) := by decide +kernel
theorem dX2_giveUp_3 : decode cX2_giveUp 3 = .ok (.invokevirtual 127, 3) := by decide +kernel
theorem dX2_giveUp_6 : decode cX2_giveUp 6 = .ok (.istore_n 2, 1) := by decide +kernel
theorem dX2_giveUp_7 : decode cX2_giveUp 7 = .ok (.aload_n 0, 1) := by decide +kernel
theorem dX2_giveUp_8 : decode cX2_giveUp 8 = .ok (.getfield 44, 3) := by decide +kernel
theorem dX2_giveUp_11 : decode cX2_giveUp 11 = .ok (.iload_n 1, 1) := by decide +kernel
theorem dX2_giveUp_12 : decode cX2_giveUp 12 = .ok (.invokevirtual 181, 3) := by decide +kernel
theorem dX2_giveUp_15 : decode cX2_giveUp 15 = .ok (.aload_n 0, 1) := by decide +kernel
theorem dX2_giveUp_16 : decode cX2_giveUp 16 = .ok (.iload_n 1, 1) := by decide +kernel
theorem dX2_giveUp_17 : decode cX2_giveUp 17 = .ok (.iconst 2, 1) := by decide +kernel
theorem dX2_giveUp_18 : decode cX2_giveUp 18 = .ok (.iconst 0, 1) := by decide +kernel
theorem dX2_giveUp_19 : decode cX2_giveUp 19 = .ok (.invokevirtual 89, 3) := by decide +kernel
theorem dX2_giveUp_22 : decode cX2_giveUp 22 = .ok (.aload_n 0, 1) := by decide +kernel
theorem dX2_giveUp_23 : decode cX2_giveUp 23 = .ok (.iload_n 1, 1) := by decide +kernel
theorem dX2_giveUp_24 : decode cX2_giveUp 24 = .ok (.iconst 3, 1) := by decide +kernel
theorem dX2_giveUp_25 : decode cX2_giveUp 25 = .ok (.iconst 0, 1) := by decide +kernel
theorem dX2_giveUp_26 : decode cX2_giveUp 26 = .ok (.invokevirtual 89, 3) := by decide +kernel
theorem dX2_giveUp_29 : decode cX2_giveUp 29 = .ok (.aload_n 0, 1) := by decide +kernel
theorem dX2_giveUp_30 : decode cX2_giveUp 30 = .ok (.iload_n 1, 1) := by decide +kernel
theorem dX2_giveUp_31 : decode cX2_giveUp 31 = .ok (.iconst 4, 1) := by decide +kernel
theorem dX2_giveUp_32 : decode cX2_giveUp 32 = .ok (.iconst 0, 1) := by decide +kernel
theorem dX2_giveUp_33 : decode cX2_giveUp 33 = .ok (.invokevirtual 89, 3) := by decide +kernel
theorem dX2_giveUp_36 : decode cX2_giveUp 36 = .ok (.iload_n 2, 1) := by decide +kernel
theorem dX2_giveUp_37 : decode cX2_giveUp 37 = .ok (.ireturn, 1) := by decide +kernel
theorem dX2_outcomeOfRing_0 : decode cX2_outcomeOfRing 0 = .ok (.aload_n 0, 1) := by decide +kernel
theorem dX2_outcomeOfRing_1 : decode cX2_outcomeOfRing 1 = .ok (.iload_n 1, 1) := by decide +kernel
theorem dX2_outcomeOfRing_2 : decode cX2_outcomeOfRing 2 = .ok (.iconst 2, 1) := by decide +kernel
theorem dX2_outcomeOfRing_3 : decode cX2_outcomeOfRing 3 = .ok (.invokevirtual 127, 3) := by decide +kernel
theorem dX2_outcomeOfRing_6 : decode cX2_outcomeOfRing 6 = .ok (.istore_n 2, 1) := by decide +kernel
theorem dX2_outcomeOfRing_7 : decode cX2_outcomeOfRing 7 = .ok (.iload_n 2, 1) := by decide +kernel
theorem dX2_outcomeOfRing_8 : decode cX2_outcomeOfRing 8 = .ok (.ifCond .ne 20, 3) := by decide +kernel
theorem dX2_outcomeOfRing_11 : decode cX2_outcomeOfRing 11 = .ok (.aload_n 0, 1) := by decide +kernel
theorem dX2_outcomeOfRing_12 : decode cX2_outcomeOfRing 12 = .ok (.iload_n 1, 1) := by decide +kernel
theorem dX2_outcomeOfRing_13 : decode cX2_outcomeOfRing 13 = .ok (.iconst 0, 1) := by decide +kernel
theorem dX2_outcomeOfRing_14 : decode cX2_outcomeOfRing 14 = .ok (.invokevirtual 127, 3) := by decide +kernel
theorem dX2_outcomeOfRing_17 : decode cX2_outcomeOfRing 17 = .ok (.aload_n 0, 1) := by decide +kernel
theorem dX2_outcomeOfRing_18 : decode cX2_outcomeOfRing 18 = .ok (.getfield 21, 3) := by decide +kernel
theorem dX2_outcomeOfRing_21 : decode cX2_outcomeOfRing 21 = .ok (.iconst 5, 1) := by decide +kernel
theorem dX2_outcomeOfRing_22 : decode cX2_outcomeOfRing 22 = .ok (.iaload, 1) := by decide +kernel
theorem dX2_outcomeOfRing_23 : decode cX2_outcomeOfRing 23 = .ok (.if_icmp .gt 5, 3) := by decide +kernel
theorem dX2_outcomeOfRing_26 : decode cX2_outcomeOfRing 26 = .ok (.iconst 0, 1) := by decide +kernel
theorem dX2_outcomeOfRing_27 : decode cX2_outcomeOfRing 27 = .ok (.ireturn, 1) := by decide +kernel
theorem dX2_outcomeOfRing_28 : decode cX2_outcomeOfRing 28 = .ok (.iload_n 2, 1) := by decide +kernel
theorem dX2_outcomeOfRing_29 : decode cX2_outcomeOfRing 29 = .ok (.iconst 2, 1) := by decide +kernel
theorem dX2_outcomeOfRing_30 : decode cX2_outcomeOfRing 30 = .ok (.if_icmp .ne 5, 3) := by decide +kernel
theorem dX2_outcomeOfRing_33 : decode cX2_outcomeOfRing 33 = .ok (.iconst 1, 1) := by decide +kernel
theorem dX2_outcomeOfRing_34 : decode cX2_outcomeOfRing 34 = .ok (.ireturn, 1) := by decide +kernel
theorem dX2_outcomeOfRing_35 : decode cX2_outcomeOfRing 35 = .ok (.aload_n 0, 1) := by decide +kernel
theorem dX2_outcomeOfRing_36 : decode cX2_outcomeOfRing 36 = .ok (.getfield 51, 3) := by decide +kernel
theorem dX2_outcomeOfRing_39 : decode cX2_outcomeOfRing 39 = .ok (.getfield 74, 3) := by decide +kernel
theorem dX2_outcomeOfRing_42 : decode cX2_outcomeOfRing 42 = .ok (.bipush 8, 2) := by decide +kernel
theorem dX2_outcomeOfRing_44 : decode cX2_outcomeOfRing 44 = .ok (.if_icmp .ge 7, 3) := by decide +kernel
theorem dX2_outcomeOfRing_47 : decode cX2_outcomeOfRing 47 = .ok (.iconst 2, 1) := by decide +kernel
theorem dX2_outcomeOfRing_48 : decode cX2_outcomeOfRing 48 = .ok (.goto 4, 3) := by decide +kernel
theorem dX2_outcomeOfRing_51 : decode cX2_outcomeOfRing 51 = .ok (.iconst 3, 1) := by decide +kernel
theorem dX2_outcomeOfRing_52 : decode cX2_outcomeOfRing 52 = .ok (.ireturn, 1) := by decide +kernel
theorem dX2_takeRing_0 : decode cX2_takeRing 0 = .ok (.aload_n 0, 1) := by decide +kernel
theorem dX2_takeRing_1 : decode cX2_takeRing 1 = .ok (.iload_n 1, 1) := by decide +kernel
theorem dX2_takeRing_2 : decode cX2_takeRing 2 = .ok (.invokevirtual 216, 3) := by decide +kernel
theorem dX2_takeRing_5 : decode cX2_takeRing 5 = .ok (.istore_n 3, 1) := by decide +kernel
theorem dX2_takeRing_6 : decode cX2_takeRing 6 = .ok (.iload_n 3, 1) := by decide +kernel
theorem dX2_takeRing_7 : decode cX2_takeRing 7 = .ok (.tableswitch 80 0 2 #[25, 44, 54], 25) := by decide +kernel
theorem dX2_takeRing_32 : decode cX2_takeRing 32 = .ok (.aload_n 0, 1) := by decide +kernel
theorem dX2_takeRing_33 : decode cX2_takeRing 33 = .ok (.iload_n 1, 1) := by decide +kernel
theorem dX2_takeRing_34 : decode cX2_takeRing 34 = .ok (.iconst 0, 1) := by decide +kernel
theorem dX2_takeRing_35 : decode cX2_takeRing 35 = .ok (.invokevirtual 198, 3) := by decide +kernel
theorem dX2_takeRing_38 : decode cX2_takeRing 38 = .ok (.pop, 1) := by decide +kernel
theorem dX2_takeRing_39 : decode cX2_takeRing 39 = .ok (.aload_n 0, 1) := by decide +kernel
theorem dX2_takeRing_40 : decode cX2_takeRing 40 = .ok (.getfield 37, 3) := by decide +kernel
theorem dX2_takeRing_43 : decode cX2_takeRing 43 = .ok (.iload_n 1, 1) := by decide +kernel
theorem dX2_takeRing_44 : decode cX2_takeRing 44 = .ok (.iload_n 2, 1) := by decide +kernel
theorem dX2_takeRing_45 : decode cX2_takeRing 45 = .ok (.invokevirtual 219, 3) := by decide +kernel
theorem dX2_takeRing_48 : decode cX2_takeRing 48 = .ok (.goto 50, 3) := by decide +kernel
theorem dX2_takeRing_51 : decode cX2_takeRing 51 = .ok (.aload_n 0, 1) := by decide +kernel
theorem dX2_takeRing_52 : decode cX2_takeRing 52 = .ok (.iload_n 1, 1) := by decide +kernel
theorem dX2_takeRing_53 : decode cX2_takeRing 53 = .ok (.iload_n 2, 1) := by decide +kernel
theorem dX2_takeRing_54 : decode cX2_takeRing 54 = .ok (.iconst 1, 1) := by decide +kernel
theorem dX2_takeRing_55 : decode cX2_takeRing 55 = .ok (.invokevirtual 158, 3) := by decide +kernel
theorem dX2_takeRing_58 : decode cX2_takeRing 58 = .ok (.goto 40, 3) := by decide +kernel
theorem dX2_takeRing_61 : decode cX2_takeRing 61 = .ok (.aload_n 0, 1) := by decide +kernel
theorem dX2_takeRing_62 : decode cX2_takeRing 62 = .ok (.getfield 51, 3) := by decide +kernel
theorem dX2_takeRing_65 : decode cX2_takeRing 65 = .ok (.iload_n 1, 1) := by decide +kernel
theorem dX2_takeRing_66 : decode cX2_takeRing 66 = .ok (.aload_n 0, 1) := by decide +kernel
theorem dX2_takeRing_67 : decode cX2_takeRing 67 = .ok (.getfield 15, 3) := by decide +kernel
theorem dX2_takeRing_70 : decode cX2_takeRing 70 = .ok (.invokevirtual 222, 3) := by decide +kernel
theorem dX2_takeRing_73 : decode cX2_takeRing 73 = .ok (.aload_n 0, 1) := by decide +kernel
theorem dX2_takeRing_74 : decode cX2_takeRing 74 = .ok (.getfield 25, 3) := by decide +kernel
theorem dX2_takeRing_77 : decode cX2_takeRing 77 = .ok (.bipush 6, 2) := by decide +kernel
theorem dX2_takeRing_79 : decode cX2_takeRing 79 = .ok (.dup2, 1) := by decide +kernel
theorem dX2_takeRing_80 : decode cX2_takeRing 80 = .ok (.iaload, 1) := by decide +kernel
theorem dX2_takeRing_81 : decode cX2_takeRing 81 = .ok (.iconst 1, 1) := by decide +kernel
theorem dX2_takeRing_82 : decode cX2_takeRing 82 = .ok (.iadd, 1) := by decide +kernel
theorem dX2_takeRing_83 : decode cX2_takeRing 83 = .ok (.iastore, 1) := by decide +kernel
theorem dX2_takeRing_84 : decode cX2_takeRing 84 = .ok (.goto 14, 3) := by decide +kernel
theorem dX2_takeRing_87 : decode cX2_takeRing 87 = .ok (.aload_n 0, 1) := by decide +kernel
theorem dX2_takeRing_88 : decode cX2_takeRing 88 = .ok (.getfield 25, 3) := by decide +kernel
theorem dX2_takeRing_91 : decode cX2_takeRing 91 = .ok (.bipush 8, 2) := by decide +kernel
theorem dX2_takeRing_93 : decode cX2_takeRing 93 = .ok (.dup2, 1) := by decide +kernel
theorem dX2_takeRing_94 : decode cX2_takeRing 94 = .ok (.iaload, 1) := by decide +kernel
theorem dX2_takeRing_95 : decode cX2_takeRing 95 = .ok (.iconst 1, 1) := by decide +kernel
theorem dX2_takeRing_96 : decode cX2_takeRing 96 = .ok (.iadd, 1) := by decide +kernel
theorem dX2_takeRing_97 : decode cX2_takeRing 97 = .ok (.iastore, 1) := by decide +kernel
theorem dX2_takeRing_98 : decode cX2_takeRing 98 = .ok (.iload_n 3, 1) := by decide +kernel
theorem dX2_takeRing_99 : decode cX2_takeRing 99 = .ok (.ireturn, 1) := by decide +kernel
theorem dX2_takeMoney_0 : decode cX2_takeMoney 0 = .ok (.aload_n 0, 1) := by decide +kernel
theorem dX2_takeMoney_1 : decode cX2_takeMoney 1 = .ok (.iload_n 1, 1) := by decide +kernel
theorem dX2_takeMoney_2 : decode cX2_takeMoney 2 = .ok (.bipush 6, 2) := by decide +kernel
theorem dX2_takeMoney_4 : decode cX2_takeMoney 4 = .ok (.invokevirtual 127, 3) := by decide +kernel
theorem dX2_takeMoney_7 : decode cX2_takeMoney 7 = .ok (.iload_n 2, 1) := by decide +kernel
theorem dX2_takeMoney_8 : decode cX2_takeMoney 8 = .ok (.isub, 1) := by decide +kernel
theorem dX2_takeMoney_9 : decode cX2_takeMoney 9 = .ok (.istore_n 3, 1) := by decide +kernel
theorem dX2_takeMoney_10 : decode cX2_takeMoney 10 = .ok (.aload_n 0, 1) := by decide +kernel
theorem dX2_takeMoney_11 : decode cX2_takeMoney 11 = .ok (.iload_n 1, 1) := by decide +kernel
theorem dX2_takeMoney_12 : decode cX2_takeMoney 12 = .ok (.bipush 6, 2) := by decide +kernel
theorem dX2_takeMoney_14 : decode cX2_takeMoney 14 = .ok (.iload_n 3, 1) := by decide +kernel
theorem dX2_takeMoney_15 : decode cX2_takeMoney 15 = .ok (.invokevirtual 89, 3) := by decide +kernel
theorem dX2_takeMoney_18 : decode cX2_takeMoney 18 = .ok (.aload_n 0, 1) := by decide +kernel
theorem dX2_takeMoney_19 : decode cX2_takeMoney 19 = .ok (.getfield 25, 3) := by decide +kernel
theorem dX2_takeMoney_22 : decode cX2_takeMoney 22 = .ok (.iconst 5, 1) := by decide +kernel
theorem dX2_takeMoney_23 : decode cX2_takeMoney 23 = .ok (.dup2, 1) := by decide +kernel
theorem dX2_takeMoney_24 : decode cX2_takeMoney 24 = .ok (.iaload, 1) := by decide +kernel
theorem dX2_takeMoney_25 : decode cX2_takeMoney 25 = .ok (.iload_n 2, 1) := by decide +kernel
theorem dX2_takeMoney_26 : decode cX2_takeMoney 26 = .ok (.iadd, 1) := by decide +kernel
theorem dX2_takeMoney_27 : decode cX2_takeMoney 27 = .ok (.iastore, 1) := by decide +kernel
theorem dX2_takeMoney_28 : decode cX2_takeMoney 28 = .ok (.iload_n 3, 1) := by decide +kernel
theorem dX2_takeMoney_29 : decode cX2_takeMoney 29 = .ok (.ireturn, 1) := by decide +kernel
theorem dX3_init_0 : decode cX3_init 0 = .ok (.aload_n 0, 1) := by decide +kernel
theorem dX3_init_1 : decode cX3_init 1 = .ok (.invokespecial 3, 3) := by decide +kernel
theorem dX3_init_4 : decode cX3_init 4 = .ok (.aload_n 0, 1) := by decide +kernel
theorem dX3_init_5 : decode cX3_init 5 = .ok (.iconst 0, 1) := by decide +kernel
theorem dX3_init_6 : decode cX3_init 6 = .ok (.putfield 9, 3) := by decide +kernel
theorem dX3_init_9 : decode cX3_init 9 = .ok (.aload_n 0, 1) := by decide +kernel
theorem dX3_init_10 : decode cX3_init 10 = .ok (.iconst (-1), 1) := by decide +kernel
theorem dX3_init_11 : decode cX3_init 11 = .ok (.putfield 15, 3) := by decide +kernel
theorem dX3_init_14 : decode cX3_init 14 = .ok (.aload_n 0, 1) := by decide +kernel
theorem dX3_init_15 : decode cX3_init 15 = .ok (.iconst 0, 1) := by decide +kernel
theorem dX3_init_16 : decode cX3_init 16 = .ok (.putfield 18, 3) := by decide +kernel
theorem dX3_init_19 : decode cX3_init 19 = .ok (.aload_n 0, 1) := by decide +kernel
theorem dX3_init_20 : decode cX3_init 20 = .ok (.iconst 0, 1) := by decide +kernel
theorem dX3_init_21 : decode cX3_init 21 = .ok (.putfield 21, 3) := by decide +kernel
theorem dX3_init_24 : decode cX3_init 24 = .ok (.aload_n 0, 1) := by decide +kernel
theorem dX3_init_25 : decode cX3_init 25 = .ok (.iconst 0, 1) := by decide +kernel
theorem dX3_init_26 : decode cX3_init 26 = .ok (.putfield 24, 3) := by decide +kernel
theorem dX3_init_29 : decode cX3_init 29 = .ok (.return_, 1) := by decide +kernel
theorem dX3_putDown_0 : decode cX3_putDown 0 = .ok (.aload_n 0, 1) := by decide +kernel
theorem dX3_putDown_1 : decode cX3_putDown 1 = .ok (.iconst 0, 1) := by decide +kernel
theorem dX3_putDown_2 : decode cX3_putDown 2 = .ok (.putfield 9, 3) := by decide +kernel
theorem dX3_putDown_5 : decode cX3_putDown 5 = .ok (.aload_n 0, 1) := by decide +kernel
theorem dX3_putDown_6 : decode cX3_putDown 6 = .ok (.iconst (-1), 1) := by decide +kernel
theorem dX3_putDown_7 : decode cX3_putDown 7 = .ok (.putfield 15, 3) := by decide +kernel
theorem dX3_putDown_10 : decode cX3_putDown 10 = .ok (.aload_n 0, 1) := by decide +kernel
theorem dX3_putDown_11 : decode cX3_putDown 11 = .ok (.iconst 0, 1) := by decide +kernel
theorem dX3_putDown_12 : decode cX3_putDown 12 = .ok (.putfield 18, 3) := by decide +kernel
theorem dX3_putDown_15 : decode cX3_putDown 15 = .ok (.aload_n 0, 1) := by decide +kernel
theorem dX3_putDown_16 : decode cX3_putDown 16 = .ok (.iconst 0, 1) := by decide +kernel
theorem dX3_putDown_17 : decode cX3_putDown 17 = .ok (.putfield 21, 3) := by decide +kernel
theorem dX3_putDown_20 : decode cX3_putDown 20 = .ok (.aload_n 0, 1) := by decide +kernel
theorem dX3_putDown_21 : decode cX3_putDown 21 = .ok (.iconst 0, 1) := by decide +kernel
theorem dX3_putDown_22 : decode cX3_putDown 22 = .ok (.putfield 24, 3) := by decide +kernel
theorem dX3_putDown_25 : decode cX3_putDown 25 = .ok (.return_, 1) := by decide +kernel
theorem dX3_holdFor_0 : decode cX3_holdFor 0 = .ok (.aload_n 0, 1) := by decide +kernel
theorem dX3_holdFor_1 : decode cX3_holdFor 1 = .ok (.iconst 1, 1) := by decide +kernel
theorem dX3_holdFor_2 : decode cX3_holdFor 2 = .ok (.putfield 9, 3) := by decide +kernel
theorem dX3_holdFor_5 : decode cX3_holdFor 5 = .ok (.aload_n 0, 1) := by decide +kernel
theorem dX3_holdFor_6 : decode cX3_holdFor 6 = .ok (.iload_n 1, 1) := by decide +kernel
theorem dX3_holdFor_7 : decode cX3_holdFor 7 = .ok (.putfield 15, 3) := by decide +kernel
theorem dX3_holdFor_10 : decode cX3_holdFor 10 = .ok (.aload_n 0, 1) := by decide +kernel
theorem dX3_holdFor_11 : decode cX3_holdFor 11 = .ok (.iconst 0, 1) := by decide +kernel
theorem dX3_holdFor_12 : decode cX3_holdFor 12 = .ok (.putfield 18, 3) := by decide +kernel
theorem dX3_holdFor_15 : decode cX3_holdFor 15 = .ok (.aload_n 0, 1) := by decide +kernel
theorem dX3_holdFor_16 : decode cX3_holdFor 16 = .ok (.iload_n 2, 1) := by decide +kernel
theorem dX3_holdFor_17 : decode cX3_holdFor 17 = .ok (.putfield 21, 3) := by decide +kernel
theorem dX3_holdFor_20 : decode cX3_holdFor 20 = .ok (.aload_n 0, 1) := by decide +kernel
theorem dX3_holdFor_21 : decode cX3_holdFor 21 = .ok (.iconst 1, 1) := by decide +kernel
theorem dX3_holdFor_22 : decode cX3_holdFor 22 = .ok (.putfield 24, 3) := by decide +kernel
theorem dX3_holdFor_25 : decode cX3_holdFor 25 = .ok (.return_, 1) := by decide +kernel
theorem dX3_connect_0 : decode cX3_connect 0 = .ok (.aload_n 0, 1) := by decide +kernel
theorem dX3_connect_1 : decode cX3_connect 1 = .ok (.iconst 2, 1) := by decide +kernel
theorem dX3_connect_2 : decode cX3_connect 2 = .ok (.putfield 9, 3) := by decide +kernel
theorem dX3_connect_5 : decode cX3_connect 5 = .ok (.aload_n 0, 1) := by decide +kernel
theorem dX3_connect_6 : decode cX3_connect 6 = .ok (.iload_n 1, 1) := by decide +kernel
theorem dX3_connect_7 : decode cX3_connect 7 = .ok (.putfield 15, 3) := by decide +kernel
theorem dX3_connect_10 : decode cX3_connect 10 = .ok (.aload_n 0, 1) := by decide +kernel
theorem dX3_connect_11 : decode cX3_connect 11 = .ok (.iconst 0, 1) := by decide +kernel
theorem dX3_connect_12 : decode cX3_connect 12 = .ok (.putfield 18, 3) := by decide +kernel
theorem dX3_connect_15 : decode cX3_connect 15 = .ok (.aload_n 0, 1) := by decide +kernel
theorem dX3_connect_16 : decode cX3_connect 16 = .ok (.iload_n 2, 1) := by decide +kernel
theorem dX3_connect_17 : decode cX3_connect 17 = .ok (.putfield 21, 3) := by decide +kernel
theorem dX3_connect_20 : decode cX3_connect 20 = .ok (.aload_n 0, 1) := by decide +kernel
theorem dX3_connect_21 : decode cX3_connect 21 = .ok (.iload_n 3, 1) := by decide +kernel
theorem dX3_connect_22 : decode cX3_connect 22 = .ok (.putfield 24, 3) := by decide +kernel
theorem dX3_connect_25 : decode cX3_connect 25 = .ok (.return_, 1) := by decide +kernel
theorem dX3_copyFrom_0 : decode cX3_copyFrom 0 = .ok (.aload_n 0, 1) := by decide +kernel
theorem dX3_copyFrom_1 : decode cX3_copyFrom 1 = .ok (.aload_n 1, 1) := by decide +kernel
theorem dX3_copyFrom_2 : decode cX3_copyFrom 2 = .ok (.getfield 9, 3) := by decide +kernel
theorem dX3_copyFrom_5 : decode cX3_copyFrom 5 = .ok (.putfield 9, 3) := by decide +kernel
theorem dX3_copyFrom_8 : decode cX3_copyFrom 8 = .ok (.aload_n 0, 1) := by decide +kernel
theorem dX3_copyFrom_9 : decode cX3_copyFrom 9 = .ok (.aload_n 1, 1) := by decide +kernel
theorem dX3_copyFrom_10 : decode cX3_copyFrom 10 = .ok (.getfield 15, 3) := by decide +kernel
theorem dX3_copyFrom_13 : decode cX3_copyFrom 13 = .ok (.putfield 15, 3) := by decide +kernel
theorem dX3_copyFrom_16 : decode cX3_copyFrom 16 = .ok (.aload_n 0, 1) := by decide +kernel
theorem dX3_copyFrom_17 : decode cX3_copyFrom 17 = .ok (.aload_n 1, 1) := by decide +kernel
theorem dX3_copyFrom_18 : decode cX3_copyFrom 18 = .ok (.getfield 18, 3) := by decide +kernel
theorem dX3_copyFrom_21 : decode cX3_copyFrom 21 = .ok (.putfield 18, 3) := by decide +kernel
theorem dX3_copyFrom_24 : decode cX3_copyFrom 24 = .ok (.aload_n 0, 1) := by decide +kernel
theorem dX3_copyFrom_25 : decode cX3_copyFrom 25 = .ok (.aload_n 1, 1) := by decide +kernel
theorem dX3_copyFrom_26 : decode cX3_copyFrom 26 = .ok (.getfield 21, 3) := by decide +kernel
theorem dX3_copyFrom_29 : decode cX3_copyFrom 29 = .ok (.putfield 21, 3) := by decide +kernel
theorem dX3_copyFrom_32 : decode cX3_copyFrom 32 = .ok (.aload_n 0, 1) := by decide +kernel
theorem dX3_copyFrom_33 : decode cX3_copyFrom 33 = .ok (.aload_n 1, 1) := by decide +kernel
theorem dX3_copyFrom_34 : decode cX3_copyFrom 34 = .ok (.getfield 24, 3) := by decide +kernel
theorem dX3_copyFrom_37 : decode cX3_copyFrom 37 = .ok (.putfield 24, 3) := by decide +kernel
theorem dX3_copyFrom_40 : decode cX3_copyFrom 40 = .ok (.return_, 1) := by decide +kernel
theorem dX4_init_0 : decode cX4_init 0 = .ok (.aload_n 0, 1) := by decide +kernel
theorem dX4_init_1 : decode cX4_init 1 = .ok (.invokespecial 3, 3) := by decide +kernel
theorem dX4_init_4 : decode cX4_init 4 = .ok (.aload_n 0, 1) := by decide +kernel
theorem dX4_init_5 : decode cX4_init 5 = .ok (.bipush 10, 2) := by decide +kernel
theorem dX4_init_7 : decode cX4_init 7 = .ok (.newarray .int, 2) := by decide +kernel
theorem dX4_init_9 : decode cX4_init 9 = .ok (.putfield 9, 3) := by decide +kernel
theorem dX4_init_12 : decode cX4_init 12 = .ok (.aload_n 0, 1) := by decide +kernel
theorem dX4_init_13 : decode cX4_init 13 = .ok (.iconst 0, 1) := by decide +kernel
theorem dX4_init_14 : decode cX4_init 14 = .ok (.putfield 15, 3) := by decide +kernel
theorem dX4_init_17 : decode cX4_init 17 = .ok (.return_, 1) := by decide +kernel
theorem dX4_at_0 : decode cX4_at 0 = .ok (.iload_n 1, 1) := by decide +kernel
theorem dX4_at_1 : decode cX4_at 1 = .ok (.ifCond .lt 29, 3) := by decide +kernel
theorem dX4_at_4 : decode cX4_at 4 = .ok (.iload_n 1, 1) := by decide +kernel
theorem dX4_at_5 : decode cX4_at 5 = .ok (.aload_n 0, 1) := by decide +kernel
theorem dX4_at_6 : decode cX4_at 6 = .ok (.getfield 15, 3) := by decide +kernel
theorem dX4_at_9 : decode cX4_at 9 = .ok (.if_icmp .ge 21, 3) := by decide +kernel
theorem dX4_at_12 : decode cX4_at 12 = .ok (.iload_n 1, 1) := by decide +kernel
theorem dX4_at_13 : decode cX4_at 13 = .ok (.aload_n 0, 1) := by decide +kernel
theorem dX4_at_14 : decode cX4_at 14 = .ok (.getfield 9, 3) := by decide +kernel
theorem dX4_at_17 : decode cX4_at 17 = .ok (.arraylength, 1) := by decide +kernel
theorem dX4_at_18 : decode cX4_at 18 = .ok (.if_icmp .ge 12, 3) := by decide +kernel
theorem dX4_at_21 : decode cX4_at 21 = .ok (.aload_n 0, 1) := by decide +kernel
theorem dX4_at_22 : decode cX4_at 22 = .ok (.getfield 9, 3) := by decide +kernel
theorem dX4_at_25 : decode cX4_at 25 = .ok (.iload_n 1, 1) := by decide +kernel
theorem dX4_at_26 : decode cX4_at 26 = .ok (.iaload, 1) := by decide +kernel
theorem dX4_at_27 : decode cX4_at 27 = .ok (.goto 4, 3) := by decide +kernel
theorem dX4_at_30 : decode cX4_at 30 = .ok (.iconst (-1), 1) := by decide +kernel
theorem dX4_at_31 : decode cX4_at 31 = .ok (.ireturn, 1) := by decide +kernel
theorem dX4_placeOf_0 : decode cX4_placeOf 0 = .ok (.iconst 0, 1) := by decide +kernel
theorem dX4_placeOf_1 : decode cX4_placeOf 1 = .ok (.istore_n 2, 1) := by decide +kernel
theorem dX4_placeOf_2 : decode cX4_placeOf 2 = .ok (.iload_n 2, 1) := by decide +kernel
theorem dX4_placeOf_3 : decode cX4_placeOf 3 = .ok (.aload_n 0, 1) := by decide +kernel
theorem dX4_placeOf_4 : decode cX4_placeOf 4 = .ok (.getfield 15, 3) := by decide +kernel
theorem dX4_placeOf_7 : decode cX4_placeOf 7 = .ok (.if_icmp .ge 30, 3) := by decide +kernel
theorem dX4_placeOf_10 : decode cX4_placeOf 10 = .ok (.iload_n 2, 1) := by decide +kernel
theorem dX4_placeOf_11 : decode cX4_placeOf 11 = .ok (.aload_n 0, 1) := by decide +kernel
theorem dX4_placeOf_12 : decode cX4_placeOf 12 = .ok (.getfield 9, 3) := by decide +kernel
theorem dX4_placeOf_15 : decode cX4_placeOf 15 = .ok (.arraylength, 1) := by decide +kernel
theorem dX4_placeOf_16 : decode cX4_placeOf 16 = .ok (.if_icmp .ge 21, 3) := by decide +kernel
theorem dX4_placeOf_19 : decode cX4_placeOf 19 = .ok (.aload_n 0, 1) := by decide +kernel
theorem dX4_placeOf_20 : decode cX4_placeOf 20 = .ok (.getfield 9, 3) := by decide +kernel
theorem dX4_placeOf_23 : decode cX4_placeOf 23 = .ok (.iload_n 2, 1) := by decide +kernel
theorem dX4_placeOf_24 : decode cX4_placeOf 24 = .ok (.iaload, 1) := by decide +kernel
theorem dX4_placeOf_25 : decode cX4_placeOf 25 = .ok (.iload_n 1, 1) := by decide +kernel
theorem dX4_placeOf_26 : decode cX4_placeOf 26 = .ok (.if_icmp .ne 5, 3) := by decide +kernel
theorem dX4_placeOf_29 : decode cX4_placeOf 29 = .ok (.iload_n 2, 1) := by decide +kernel
theorem dX4_placeOf_30 : decode cX4_placeOf 30 = .ok (.ireturn, 1) := by decide +kernel
theorem dX4_placeOf_31 : decode cX4_placeOf 31 = .ok (.iinc 2 1, 3) := by decide +kernel
theorem dX4_placeOf_34 : decode cX4_placeOf 34 = .ok (.goto (-32), 3) := by decide +kernel
theorem dX4_placeOf_37 : decode cX4_placeOf 37 = .ok (.iconst (-1), 1) := by decide +kernel
theorem dX4_placeOf_38 : decode cX4_placeOf 38 = .ok (.ireturn, 1) := by decide +kernel
theorem dX4_join_0 : decode cX4_join 0 = .ok (.aload_n 0, 1) := by decide +kernel
theorem dX4_join_1 : decode cX4_join 1 = .ok (.getfield 15, 3) := by decide +kernel
theorem dX4_join_4 : decode cX4_join 4 = .ok (.ifCond .lt 35, 3) := by decide +kernel
theorem dX4_join_7 : decode cX4_join 7 = .ok (.aload_n 0, 1) := by decide +kernel
theorem dX4_join_8 : decode cX4_join 8 = .ok (.getfield 15, 3) := by decide +kernel
theorem dX4_join_11 : decode cX4_join 11 = .ok (.aload_n 0, 1) := by decide +kernel
theorem dX4_join_12 : decode cX4_join 12 = .ok (.getfield 9, 3) := by decide +kernel
theorem dX4_join_15 : decode cX4_join 15 = .ok (.arraylength, 1) := by decide +kernel
theorem dX4_join_16 : decode cX4_join 16 = .ok (.if_icmp .ge 23, 3) := by decide +kernel
theorem dX4_join_19 : decode cX4_join 19 = .ok (.aload_n 0, 1) := by decide +kernel
theorem dX4_join_20 : decode cX4_join 20 = .ok (.getfield 9, 3) := by decide +kernel
theorem dX4_join_23 : decode cX4_join 23 = .ok (.aload_n 0, 1) := by decide +kernel
theorem dX4_join_24 : decode cX4_join 24 = .ok (.getfield 15, 3) := by decide +kernel
theorem dX4_join_27 : decode cX4_join 27 = .ok (.iload_n 1, 1) := by decide +kernel
theorem dX4_join_28 : decode cX4_join 28 = .ok (.iastore, 1) := by decide +kernel
theorem dX4_join_29 : decode cX4_join 29 = .ok (.aload_n 0, 1) := by decide +kernel
theorem dX4_join_30 : decode cX4_join 30 = .ok (.dup, 1) := by decide +kernel
theorem dX4_join_31 : decode cX4_join 31 = .ok (.getfield 15, 3) := by decide +kernel
theorem dX4_join_34 : decode cX4_join 34 = .ok (.iconst 1, 1) := by decide +kernel
theorem dX4_join_35 : decode cX4_join 35 = .ok (.iadd, 1) := by decide +kernel
theorem dX4_join_36 : decode cX4_join 36 = .ok (.putfield 15, 3) := by decide +kernel
theorem dX4_join_39 : decode cX4_join 39 = .ok (.return_, 1) := by decide +kernel
theorem dX4_leave_0 : decode cX4_leave 0 = .ok (.iconst 0, 1) := by decide +kernel
theorem dX4_leave_1 : decode cX4_leave 1 = .ok (.istore_n 2, 1) := by decide +kernel
theorem dX4_leave_2 : decode cX4_leave 2 = .ok (.iconst 0, 1) := by decide +kernel
theorem dX4_leave_3 : decode cX4_leave 3 = .ok (.istore_n 3, 1) := by decide +kernel
theorem dX4_leave_4 : decode cX4_leave 4 = .ok (.iload_n 3, 1) := by decide +kernel
theorem dX4_leave_5 : decode cX4_leave 5 = .ok (.aload_n 0, 1) := by decide +kernel
theorem dX4_leave_6 : decode cX4_leave 6 = .ok (.getfield 15, 3) := by decide +kernel
theorem dX4_leave_9 : decode cX4_leave 9 = .ok (.if_icmp .ge 48, 3) := by decide +kernel
theorem dX4_leave_12 : decode cX4_leave 12 = .ok (.iload_n 3, 1) := by decide +kernel
theorem dX4_leave_13 : decode cX4_leave 13 = .ok (.aload_n 0, 1) := by decide +kernel
theorem dX4_leave_14 : decode cX4_leave 14 = .ok (.getfield 9, 3) := by decide +kernel
theorem dX4_leave_17 : decode cX4_leave 17 = .ok (.arraylength, 1) := by decide +kernel
theorem dX4_leave_18 : decode cX4_leave 18 = .ok (.if_icmp .ge 39, 3) := by decide +kernel
theorem dX4_leave_21 : decode cX4_leave 21 = .ok (.aload_n 0, 1) := by decide +kernel
theorem dX4_leave_22 : decode cX4_leave 22 = .ok (.getfield 9, 3) := by decide +kernel
theorem dX4_leave_25 : decode cX4_leave 25 = .ok (.iload_n 3, 1) := by decide +kernel
theorem dX4_leave_26 : decode cX4_leave 26 = .ok (.iaload, 1) := by decide +kernel
theorem dX4_leave_27 : decode cX4_leave 27 = .ok (.iload_n 1, 1) := by decide +kernel
theorem dX4_leave_28 : decode cX4_leave 28 = .ok (.if_icmp .eq 23, 3) := by decide +kernel
theorem dX4_leave_31 : decode cX4_leave 31 = .ok (.iload_n 2, 1) := by decide +kernel
theorem dX4_leave_32 : decode cX4_leave 32 = .ok (.iload_n 3, 1) := by decide +kernel
theorem dX4_leave_33 : decode cX4_leave 33 = .ok (.if_icmp .gt 18, 3) := by decide +kernel
theorem dX4_leave_36 : decode cX4_leave 36 = .ok (.aload_n 0, 1) := by decide +kernel
theorem dX4_leave_37 : decode cX4_leave 37 = .ok (.getfield 9, 3) := by decide +kernel
theorem dX4_leave_40 : decode cX4_leave 40 = .ok (.iload_n 2, 1) := by decide +kernel
theorem dX4_leave_41 : decode cX4_leave 41 = .ok (.aload_n 0, 1) := by decide +kernel
theorem dX4_leave_42 : decode cX4_leave 42 = .ok (.getfield 9, 3) := by decide +kernel
theorem dX4_leave_45 : decode cX4_leave 45 = .ok (.iload_n 3, 1) := by decide +kernel
theorem dX4_leave_46 : decode cX4_leave 46 = .ok (.iaload, 1) := by decide +kernel
theorem dX4_leave_47 : decode cX4_leave 47 = .ok (.iastore, 1) := by decide +kernel
theorem dX4_leave_48 : decode cX4_leave 48 = .ok (.iinc 2 1, 3) := by decide +kernel
theorem dX4_leave_51 : decode cX4_leave 51 = .ok (.iinc 3 1, 3) := by decide +kernel
theorem dX4_leave_54 : decode cX4_leave 54 = .ok (.goto (-50), 3) := by decide +kernel
theorem dX4_leave_57 : decode cX4_leave 57 = .ok (.aload_n 0, 1) := by decide +kernel
theorem dX4_leave_58 : decode cX4_leave 58 = .ok (.iload_n 2, 1) := by decide +kernel
theorem dX4_leave_59 : decode cX4_leave 59 = .ok (.putfield 15, 3) := by decide +kernel
theorem dX4_leave_62 : decode cX4_leave 62 = .ok (.return_, 1) := by decide +kernel
theorem dX4_copyFrom_0 : decode cX4_copyFrom 0 = .ok (.aload_n 1, 1) := by decide +kernel
theorem dX4_copyFrom_1 : decode cX4_copyFrom 1 = .ok (.getfield 9, 3) := by decide +kernel
theorem dX4_copyFrom_4 : decode cX4_copyFrom 4 = .ok (.aload_n 0, 1) := by decide +kernel
theorem dX4_copyFrom_5 : decode cX4_copyFrom 5 = .ok (.getfield 9, 3) := by decide +kernel
theorem dX4_copyFrom_8 : decode cX4_copyFrom 8 = .ok (.invokestatic 19, 3) := by decide +kernel
theorem dX4_copyFrom_11 : decode cX4_copyFrom 11 = .ok (.aload_n 0, 1) := by decide +kernel
theorem dX4_copyFrom_12 : decode cX4_copyFrom 12 = .ok (.aload_n 1, 1) := by decide +kernel
theorem dX4_copyFrom_13 : decode cX4_copyFrom 13 = .ok (.getfield 15, 3) := by decide +kernel
theorem dX4_copyFrom_16 : decode cX4_copyFrom 16 = .ok (.putfield 15, 3) := by decide +kernel
theorem dX4_copyFrom_19 : decode cX4_copyFrom 19 = .ok (.return_, 1) := by decide +kernel
theorem dX5_init_0 : decode cX5_init 0 = .ok (.aload_n 0, 1) := by decide +kernel
theorem dX5_init_1 : decode cX5_init 1 = .ok (.invokespecial 3, 3) := by decide +kernel
theorem dX5_init_4 : decode cX5_init 4 = .ok (.aload_n 0, 1) := by decide +kernel
theorem dX5_init_5 : decode cX5_init 5 = .ok (.sipush 700, 3) := by decide +kernel
theorem dX5_init_8 : decode cX5_init 8 = .ok (.newarray .int, 2) := by decide +kernel
theorem dX5_init_10 : decode cX5_init 10 = .ok (.putfield 9, 3) := by decide +kernel
theorem dX5_init_13 : decode cX5_init 13 = .ok (.aload_n 0, 1) := by decide +kernel
theorem dX5_init_14 : decode cX5_init 14 = .ok (.iconst 0, 1) := by decide +kernel
theorem dX5_init_15 : decode cX5_init 15 = .ok (.putfield 15, 3) := by decide +kernel
theorem dX5_init_18 : decode cX5_init 18 = .ok (.aload_n 0, 1) := by decide +kernel
theorem dX5_init_19 : decode cX5_init 19 = .ok (.iconst 0, 1) := by decide +kernel
theorem dX5_init_20 : decode cX5_init 20 = .ok (.putfield 19, 3) := by decide +kernel
theorem dX5_init_23 : decode cX5_init 23 = .ok (.aload_n 0, 1) := by decide +kernel
theorem dX5_init_24 : decode cX5_init 24 = .ok (.iconst 0, 1) := by decide +kernel
theorem dX5_init_25 : decode cX5_init 25 = .ok (.putfield 22, 3) := by decide +kernel
theorem dX5_init_28 : decode cX5_init 28 = .ok (.aload_n 0, 1) := by decide +kernel
theorem dX5_init_29 : decode cX5_init 29 = .ok (.iconst 0, 1) := by decide +kernel
theorem dX5_init_30 : decode cX5_init 30 = .ok (.putfield 25, 3) := by decide +kernel
theorem dX5_init_33 : decode cX5_init 33 = .ok (.aload_n 0, 1) := by decide +kernel
theorem dX5_init_34 : decode cX5_init 34 = .ok (.iconst 0, 1) := by decide +kernel
theorem dX5_init_35 : decode cX5_init 35 = .ok (.putfield 28, 3) := by decide +kernel
theorem dX5_init_38 : decode cX5_init 38 = .ok (.aload_n 0, 1) := by decide +kernel
theorem dX5_init_39 : decode cX5_init 39 = .ok (.aconst_null, 1) := by decide +kernel
theorem dX5_init_40 : decode cX5_init 40 = .ok (.putfield 31, 3) := by decide +kernel
theorem dX5_init_43 : decode cX5_init 43 = .ok (.aload_n 0, 1) := by decide +kernel
theorem dX5_init_44 : decode cX5_init 44 = .ok (.iconst (-1), 1) := by decide +kernel
theorem dX5_init_45 : decode cX5_init 45 = .ok (.putfield 35, 3) := by decide +kernel
theorem dX5_init_48 : decode cX5_init 48 = .ok (.aload_n 0, 1) := by decide +kernel
theorem dX5_init_49 : decode cX5_init 49 = .ok (.iconst 0, 1) := by decide +kernel
theorem dX5_init_50 : decode cX5_init 50 = .ok (.putfield 38, 3) := by decide +kernel
theorem dX5_init_53 : decode cX5_init 53 = .ok (.aload_n 0, 1) := by decide +kernel
theorem dX5_init_54 : decode cX5_init 54 = .ok (.iconst 0, 1) := by decide +kernel
theorem dX5_init_55 : decode cX5_init 55 = .ok (.putfield 41, 3) := by decide +kernel
theorem dX5_init_58 : decode cX5_init 58 = .ok (.return_, 1) := by decide +kernel
theorem dX5_takeText_0 : decode cX5_takeText 0 = .ok (.iconst 0, 1) := by decide +kernel
theorem dX5_takeText_1 : decode cX5_takeText 1 = .ok (.istore_n 2, 1) := by decide +kernel
theorem dX5_takeText_2 : decode cX5_takeText 2 = .ok (.iload_n 2, 1) := by decide +kernel
theorem dX5_takeText_3 : decode cX5_takeText 3 = .ok (.aload_n 1, 1) := by decide +kernel
theorem dX5_takeText_4 : decode cX5_takeText 4 = .ok (.invokevirtual 52, 3) := by decide +kernel
theorem dX5_takeText_7 : decode cX5_takeText 7 = .ok (.if_icmp .ge 29, 3) := by decide +kernel
theorem dX5_takeText_10 : decode cX5_takeText 10 = .ok (.iload_n 2, 1) := by decide +kernel
theorem dX5_takeText_11 : decode cX5_takeText 11 = .ok (.aload_n 0, 1) := by decide +kernel
theorem dX5_takeText_12 : decode cX5_takeText 12 = .ok (.getfield 9, 3) := by decide +kernel
theorem dX5_takeText_15 : decode cX5_takeText 15 = .ok (.arraylength, 1) := by decide +kernel
theorem dX5_takeText_16 : decode cX5_takeText 16 = .ok (.if_icmp .ge 20, 3) := by decide +kernel
theorem dX5_takeText_19 : decode cX5_takeText 19 = .ok (.aload_n 0, 1) := by decide +kernel
theorem dX5_takeText_20 : decode cX5_takeText 20 = .ok (.getfield 9, 3) := by decide +kernel
theorem dX5_takeText_23 : decode cX5_takeText 23 = .ok (.iload_n 2, 1) := by decide +kernel
theorem dX5_takeText_24 : decode cX5_takeText 24 = .ok (.aload_n 1, 1) := by decide +kernel
theorem dX5_takeText_25 : decode cX5_takeText 25 = .ok (.iload_n 2, 1) := by decide +kernel
theorem dX5_takeText_26 : decode cX5_takeText 26 = .ok (.invokevirtual 57, 3) := by decide +kernel
theorem dX5_takeText_29 : decode cX5_takeText 29 = .ok (.iastore, 1) := by decide +kernel
theorem dX5_takeText_30 : decode cX5_takeText 30 = .ok (.iinc 2 1, 3) := by decide +kernel
theorem dX5_takeText_33 : decode cX5_takeText 33 = .ok (.goto (-31), 3) := by decide +kernel
theorem dX5_takeText_36 : decode cX5_takeText 36 = .ok (.aload_n 0, 1) := by decide +kernel
theorem dX5_takeText_37 : decode cX5_takeText 37 = .ok (.aload_n 1, 1) := by decide +kernel
theorem dX5_takeText_38 : decode cX5_takeText 38 = .ok (.invokevirtual 52, 3) := by decide +kernel
theorem dX5_takeText_41 : decode cX5_takeText 41 = .ok (.invokevirtual 48, 3) := by decide +kernel
theorem dX5_takeText_44 : decode cX5_takeText 44 = .ok (.return_, 1) := by decide +kernel
theorem dX5_begin_0 : decode cX5_begin 0 = .ok (.aload_n 0, 1) := by decide +kernel
theorem dX5_begin_1 : decode cX5_begin 1 = .ok (.iload_n 1, 1) := by decide +kernel
theorem dX5_begin_2 : decode cX5_begin 2 = .ok (.aload_n 0, 1) := by decide +kernel
theorem dX5_begin_3 : decode cX5_begin 3 = .ok (.getfield 9, 3) := by decide +kernel
theorem dX5_begin_6 : decode cX5_begin 6 = .ok (.arraylength, 1) := by decide +kernel
theorem dX5_begin_7 : decode cX5_begin 7 = .ok (.invokestatic 61, 3) := by decide +kernel
theorem dX5_begin_10 : decode cX5_begin 10 = .ok (.putfield 15, 3) := by decide +kernel
theorem dX5_begin_13 : decode cX5_begin 13 = .ok (.aload_n 0, 1) := by decide +kernel
theorem dX5_begin_14 : decode cX5_begin 14 = .ok (.iconst 0, 1) := by decide +kernel
theorem dX5_begin_15 : decode cX5_begin 15 = .ok (.putfield 19, 3) := by decide +kernel
theorem dX5_begin_18 : decode cX5_begin 18 = .ok (.aload_n 0, 1) := by decide +kernel
theorem dX5_begin_19 : decode cX5_begin 19 = .ok (.iconst 0, 1) := by decide +kernel
theorem dX5_begin_20 : decode cX5_begin 20 = .ok (.putfield 41, 3) := by decide +kernel
theorem dX5_begin_23 : decode cX5_begin 23 = .ok (.return_, 1) := by decide +kernel
theorem dX5_readFlats_0 : decode cX5_readFlats 0 = .ok (.aload_n 0, 1) := by decide +kernel
theorem dX5_readFlats_1 : decode cX5_readFlats 1 = .ok (.invokevirtual 67, 3) := by decide +kernel
theorem dX5_readFlats_4 : decode cX5_readFlats 4 = .ok (.aload_n 0, 1) := by decide +kernel
theorem dX5_readFlats_5 : decode cX5_readFlats 5 = .ok (.ldc 70, 2) := by decide +kernel
theorem dX5_readFlats_7 : decode cX5_readFlats 7 = .ok (.invokevirtual 72, 3) := by decide +kernel
theorem dX5_readFlats_10 : decode cX5_readFlats 10 = .ok (.ifCond .ne 9, 3) := by decide +kernel
theorem dX5_readFlats_13 : decode cX5_readFlats 13 = .ok (.aload_n 0, 1) := by decide +kernel
theorem dX5_readFlats_14 : decode cX5_readFlats 14 = .ok (.iconst 1, 1) := by decide +kernel
theorem dX5_readFlats_15 : decode cX5_readFlats 15 = .ok (.invokevirtual 76, 3) := by decide +kernel
theorem dX5_readFlats_18 : decode cX5_readFlats 18 = .ok (.ireturn, 1) := by decide +kernel
theorem dX5_readFlats_19 : decode cX5_readFlats 19 = .ok (.aload_n 0, 1) := by decide +kernel
theorem dX5_readFlats_20 : decode cX5_readFlats 20 = .ok (.invokevirtual 67, 3) := by decide +kernel
theorem dX5_readFlats_23 : decode cX5_readFlats 23 = .ok (.aload_n 0, 1) := by decide +kernel
theorem dX5_readFlats_24 : decode cX5_readFlats 24 = .ok (.getfield 22, 3) := by decide +kernel
theorem dX5_readFlats_27 : decode cX5_readFlats 27 = .ok (.iconst 3, 1) := by decide +kernel
theorem dX5_readFlats_28 : decode cX5_readFlats 28 = .ok (.if_icmp .eq 9, 3) := by decide +kernel
theorem dX5_readFlats_31 : decode cX5_readFlats 31 = .ok (.aload_n 0, 1) := by decide +kernel
theorem dX5_readFlats_32 : decode cX5_readFlats 32 = .ok (.iconst 1, 1) := by decide +kernel
theorem dX5_readFlats_33 : decode cX5_readFlats 33 = .ok (.invokevirtual 76, 3) := by decide +kernel
theorem dX5_readFlats_36 : decode cX5_readFlats 36 = .ok (.ireturn, 1) := by decide +kernel
theorem dX5_readFlats_37 : decode cX5_readFlats 37 = .ok (.iconst 0, 1) := by decide +kernel
theorem dX5_readFlats_38 : decode cX5_readFlats 38 = .ok (.istore_n 2, 1) := by decide +kernel
theorem dX5_readFlats_39 : decode cX5_readFlats 39 = .ok (.iload_n 2, 1) := by decide +kernel
theorem dX5_readFlats_40 : decode cX5_readFlats 40 = .ok (.bipush 10, 2) := by decide +kernel
theorem dX5_readFlats_42 : decode cX5_readFlats 42 = .ok (.if_icmp .gt 73, 3) := by decide +kernel
theorem dX5_readFlats_45 : decode cX5_readFlats 45 = .ok (.aload_n 0, 1) := by decide +kernel
theorem dX5_readFlats_46 : decode cX5_readFlats 46 = .ok (.getfield 22, 3) := by decide +kernel
theorem dX5_readFlats_49 : decode cX5_readFlats 49 = .ok (.iconst 3, 1) := by decide +kernel
theorem dX5_readFlats_50 : decode cX5_readFlats 50 = .ok (.if_icmp .ne 65, 3) := by decide +kernel
theorem dX5_readFlats_53 : decode cX5_readFlats 53 = .ok (.aload_n 0, 1) := by decide +kernel
theorem dX5_readFlats_54 : decode cX5_readFlats 54 = .ok (.getfield 28, 3) := by decide +kernel
theorem dX5_readFlats_57 : decode cX5_readFlats 57 = .ok (.bipush 9, 2) := by decide +kernel
theorem dX5_readFlats_59 : decode cX5_readFlats 59 = .ok (.if_icmp .le 9, 3) := by decide +kernel
theorem dX5_readFlats_62 : decode cX5_readFlats 62 = .ok (.aload_n 0, 1) := by decide +kernel
theorem dX5_readFlats_63 : decode cX5_readFlats 63 = .ok (.iconst 2, 1) := by decide +kernel
theorem dX5_readFlats_64 : decode cX5_readFlats 64 = .ok (.invokevirtual 76, 3) := by decide +kernel
theorem dX5_readFlats_67 : decode cX5_readFlats 67 = .ok (.ireturn, 1) := by decide +kernel
theorem dX5_readFlats_68 : decode cX5_readFlats 68 = .ok (.aload_n 1, 1) := by decide +kernel
theorem dX5_readFlats_69 : decode cX5_readFlats 69 = .ok (.aload_n 0, 1) := by decide +kernel
theorem dX5_readFlats_70 : decode cX5_readFlats 70 = .ok (.getfield 28, 3) := by decide +kernel
theorem dX5_readFlats_73 : decode cX5_readFlats 73 = .ok (.invokevirtual 80, 3) := by decide +kernel
theorem dX5_readFlats_76 : decode cX5_readFlats 76 = .ok (.ifCond .ne 9, 3) := by decide +kernel
theorem dX5_readFlats_79 : decode cX5_readFlats 79 = .ok (.aload_n 0, 1) := by decide +kernel
theorem dX5_readFlats_80 : decode cX5_readFlats 80 = .ok (.iconst 3, 1) := by decide +kernel
theorem dX5_readFlats_81 : decode cX5_readFlats 81 = .ok (.invokevirtual 76, 3) := by decide +kernel
theorem dX5_readFlats_84 : decode cX5_readFlats 84 = .ok (.ireturn, 1) := by decide +kernel
theorem dX5_readFlats_85 : decode cX5_readFlats 85 = .ok (.aload_n 0, 1) := by decide +kernel
theorem dX5_readFlats_86 : decode cX5_readFlats 86 = .ok (.invokevirtual 67, 3) := by decide +kernel
theorem dX5_readFlats_89 : decode cX5_readFlats 89 = .ok (.aload_n 0, 1) := by decide +kernel
theorem dX5_readFlats_90 : decode cX5_readFlats 90 = .ok (.ldc 85, 2) := by decide +kernel
theorem dX5_readFlats_92 : decode cX5_readFlats 92 = .ok (.invokevirtual 72, 3) := by decide +kernel
theorem dX5_readFlats_95 : decode cX5_readFlats 95 = .ok (.ifCond .eq 14, 3) := by decide +kernel
theorem dX5_readFlats_98 : decode cX5_readFlats 98 = .ok (.aload_n 1, 1) := by decide +kernel
theorem dX5_readFlats_99 : decode cX5_readFlats 99 = .ok (.iload_n 2, 1) := by decide +kernel
theorem dX5_readFlats_100 : decode cX5_readFlats 100 = .ok (.iconst 1, 1) := by decide +kernel
theorem dX5_readFlats_101 : decode cX5_readFlats 101 = .ok (.iconst 1, 1) := by decide +kernel
theorem dX5_readFlats_102 : decode cX5_readFlats 102 = .ok (.invokevirtual 87, 3) := by decide +kernel
theorem dX5_readFlats_105 : decode cX5_readFlats 105 = .ok (.aload_n 0, 1) := by decide +kernel
theorem dX5_readFlats_106 : decode cX5_readFlats 106 = .ok (.invokevirtual 67, 3) := by decide +kernel
theorem dX5_readFlats_109 : decode cX5_readFlats 109 = .ok (.iinc 2 1, 3) := by decide +kernel
theorem dX5_readFlats_112 : decode cX5_readFlats 112 = .ok (.goto (-73), 3) := by decide +kernel
theorem dX5_readFlats_115 : decode cX5_readFlats 115 = .ok (.aload_n 0, 1) := by decide +kernel
theorem dX5_readFlats_116 : decode cX5_readFlats 116 = .ok (.getfield 22, 3) := by decide +kernel
theorem dX5_readFlats_119 : decode cX5_readFlats 119 = .ok (.iconst 1, 1) := by decide +kernel
theorem dX5_readFlats_120 : decode cX5_readFlats 120 = .ok (.if_icmp .eq 11, 3) := by decide +kernel
theorem dX5_readFlats_123 : decode cX5_readFlats 123 = .ok (.aload_n 0, 1) := by decide +kernel
theorem dX5_readFlats_124 : decode cX5_readFlats 124 = .ok (.iconst 1, 1) := by decide +kernel
theorem dX5_readFlats_125 : decode cX5_readFlats 125 = .ok (.invokevirtual 76, 3) := by decide +kernel
theorem dX5_readFlats_128 : decode cX5_readFlats 128 = .ok (.ifCond .eq 7, 3) := by decide +kernel
theorem dX5_readFlats_131 : decode cX5_readFlats 131 = .ok (.iconst 1, 1) := by decide +kernel
theorem dX5_readFlats_132 : decode cX5_readFlats 132 = .ok (.goto 4, 3) := by decide +kernel
theorem dX5_readFlats_135 : decode cX5_readFlats 135 = .ok (.iconst 0, 1) := by decide +kernel
theorem dX5_readFlats_136 : decode cX5_readFlats 136 = .ok (.ireturn, 1) := by decide +kernel
theorem dX5_readStatement_0 : decode cX5_readStatement 0 = .ok (.aload_n 0, 1) := by decide +kernel
theorem dX5_readStatement_1 : decode cX5_readStatement 1 = .ok (.invokevirtual 67, 3) := by decide +kernel
theorem dX5_readStatement_4 : decode cX5_readStatement 4 = .ok (.aload_n 0, 1) := by decide +kernel
theorem dX5_readStatement_5 : decode cX5_readStatement 5 = .ok (.getfield 22, 3) := by decide +kernel
theorem dX5_readStatement_8 : decode cX5_readStatement 8 = .ok (.ifCond .ne 5, 3) := by decide +kernel
theorem dX5_readStatement_11 : decode cX5_readStatement 11 = .ok (.iconst 0, 1) := by decide +kernel
theorem dX5_readStatement_12 : decode cX5_readStatement 12 = .ok (.ireturn, 1) := by decide +kernel
theorem dX5_readStatement_13 : decode cX5_readStatement 13 = .ok (.aload_n 0, 1) := by decide +kernel
theorem dX5_readStatement_14 : decode cX5_readStatement 14 = .ok (.invokevirtual 91, 3) := by decide +kernel
theorem dX5_readStatement_17 : decode cX5_readStatement 17 = .ok (.astore_n 2, 1) := by decide +kernel
theorem dX5_readStatement_18 : decode cX5_readStatement 18 = .ok (.aload_n 2, 1) := by decide +kernel
theorem dX5_readStatement_19 : decode cX5_readStatement 19 = .ok (.ifnonnull 9, 3) := by decide +kernel
theorem dX5_readStatement_22 : decode cX5_readStatement 22 = .ok (.aload_n 0, 1) := by decide +kernel
theorem dX5_readStatement_23 : decode cX5_readStatement 23 = .ok (.iconst 1, 1) := by decide +kernel
theorem dX5_readStatement_24 : decode cX5_readStatement 24 = .ok (.invokevirtual 76, 3) := by decide +kernel
theorem dX5_readStatement_27 : decode cX5_readStatement 27 = .ok (.ireturn, 1) := by decide +kernel
theorem dX5_readStatement_28 : decode cX5_readStatement 28 = .ok (.aload_n 0, 1) := by decide +kernel
theorem dX5_readStatement_29 : decode cX5_readStatement 29 = .ok (.aload_n 2, 1) := by decide +kernel
theorem dX5_readStatement_30 : decode cX5_readStatement 30 = .ok (.putfield 31, 3) := by decide +kernel
theorem dX5_readStatement_33 : decode cX5_readStatement 33 = .ok (.aload_n 0, 1) := by decide +kernel
theorem dX5_readStatement_34 : decode cX5_readStatement 34 = .ok (.iconst (-1), 1) := by decide +kernel
theorem dX5_readStatement_35 : decode cX5_readStatement 35 = .ok (.putfield 35, 3) := by decide +kernel
theorem dX5_readStatement_38 : decode cX5_readStatement 38 = .ok (.aload_n 2, 1) := by decide +kernel
theorem dX5_readStatement_39 : decode cX5_readStatement 39 = .ok (.getfield 95, 3) := by decide +kernel
theorem dX5_readStatement_42 : decode cX5_readStatement 42 = .ok (.ifCond .eq 24, 3) := by decide +kernel
theorem dX5_readStatement_45 : decode cX5_readStatement 45 = .ok (.aload_n 0, 1) := by decide +kernel
theorem dX5_readStatement_46 : decode cX5_readStatement 46 = .ok (.iconst 0, 1) := by decide +kernel
theorem dX5_readStatement_47 : decode cX5_readStatement 47 = .ok (.iload_n 1, 1) := by decide +kernel
theorem dX5_readStatement_48 : decode cX5_readStatement 48 = .ok (.iconst 1, 1) := by decide +kernel
theorem dX5_readStatement_49 : decode cX5_readStatement 49 = .ok (.isub, 1) := by decide +kernel
theorem dX5_readStatement_50 : decode cX5_readStatement 50 = .ok (.invokevirtual 101, 3) := by decide +kernel
theorem dX5_readStatement_53 : decode cX5_readStatement 53 = .ok (.ifCond .ne 5, 3) := by decide +kernel
theorem dX5_readStatement_56 : decode cX5_readStatement 56 = .ok (.iconst 0, 1) := by decide +kernel
theorem dX5_readStatement_57 : decode cX5_readStatement 57 = .ok (.ireturn, 1) := by decide +kernel
theorem dX5_readStatement_58 : decode cX5_readStatement 58 = .ok (.aload_n 0, 1) := by decide +kernel
theorem dX5_readStatement_59 : decode cX5_readStatement 59 = .ok (.aload_n 0, 1) := by decide +kernel
theorem dX5_readStatement_60 : decode cX5_readStatement 60 = .ok (.getfield 28, 3) := by decide +kernel
theorem dX5_readStatement_63 : decode cX5_readStatement 63 = .ok (.putfield 35, 3) := by decide +kernel
theorem dX5_readStatement_66 : decode cX5_readStatement 66 = .ok (.aload_n 0, 1) := by decide +kernel
theorem dX5_readStatement_67 : decode cX5_readStatement 67 = .ok (.iconst 0, 1) := by decide +kernel
theorem dX5_readStatement_68 : decode cX5_readStatement 68 = .ok (.putfield 38, 3) := by decide +kernel
theorem dX5_readStatement_71 : decode cX5_readStatement 71 = .ok (.aload_n 2, 1) := by decide +kernel
theorem dX5_readStatement_72 : decode cX5_readStatement 72 = .ok (.invokevirtual 105, 3) := by decide +kernel
theorem dX5_readStatement_75 : decode cX5_readStatement 75 = .ok (.ifCond .eq 28, 3) := by decide +kernel
theorem dX5_readStatement_78 : decode cX5_readStatement 78 = .ok (.aload_n 0, 1) := by decide +kernel
theorem dX5_readStatement_79 : decode cX5_readStatement 79 = .ok (.aload_n 2, 1) := by decide +kernel
theorem dX5_readStatement_80 : decode cX5_readStatement 80 = .ok (.getfield 109, 3) := by decide +kernel
theorem dX5_readStatement_83 : decode cX5_readStatement 83 = .ok (.aload_n 2, 1) := by decide +kernel
theorem dX5_readStatement_84 : decode cX5_readStatement 84 = .ok (.getfield 112, 3) := by decide +kernel
theorem dX5_readStatement_87 : decode cX5_readStatement 87 = .ok (.invokevirtual 101, 3) := by decide +kernel
theorem dX5_readStatement_90 : decode cX5_readStatement 90 = .ok (.ifCond .ne 5, 3) := by decide +kernel
theorem dX5_readStatement_93 : decode cX5_readStatement 93 = .ok (.iconst 0, 1) := by decide +kernel
theorem dX5_readStatement_94 : decode cX5_readStatement 94 = .ok (.ireturn, 1) := by decide +kernel
theorem dX5_readStatement_95 : decode cX5_readStatement 95 = .ok (.aload_n 0, 1) := by decide +kernel
theorem dX5_readStatement_96 : decode cX5_readStatement 96 = .ok (.aload_n 0, 1) := by decide +kernel
theorem dX5_readStatement_97 : decode cX5_readStatement 97 = .ok (.getfield 28, 3) := by decide +kernel
theorem dX5_readStatement_100 : decode cX5_readStatement 100 = .ok (.putfield 38, 3) := by decide +kernel
theorem dX5_readStatement_103 : decode cX5_readStatement 103 = .ok (.aload_n 0, 1) := by decide +kernel
theorem dX5_readStatement_104 : decode cX5_readStatement 104 = .ok (.invokevirtual 67, 3) := by decide +kernel
theorem dX5_readStatement_107 : decode cX5_readStatement 107 = .ok (.aload_n 0, 1) := by decide +kernel
theorem dX5_readStatement_108 : decode cX5_readStatement 108 = .ok (.getfield 22, 3) := by decide +kernel
theorem dX5_readStatement_111 : decode cX5_readStatement 111 = .ok (.iconst 1, 1) := by decide +kernel
theorem dX5_readStatement_112 : decode cX5_readStatement 112 = .ok (.if_icmp .eq 11, 3) := by decide +kernel
theorem dX5_readStatement_115 : decode cX5_readStatement 115 = .ok (.aload_n 0, 1) := by decide +kernel
theorem dX5_readStatement_116 : decode cX5_readStatement 116 = .ok (.iconst 1, 1) := by decide +kernel
theorem dX5_readStatement_117 : decode cX5_readStatement 117 = .ok (.invokevirtual 76, 3) := by decide +kernel
theorem dX5_readStatement_120 : decode cX5_readStatement 120 = .ok (.ifCond .eq 7, 3) := by decide +kernel
theorem dX5_readStatement_123 : decode cX5_readStatement 123 = .ok (.iconst 1, 1) := by decide +kernel
theorem dX5_readStatement_124 : decode cX5_readStatement 124 = .ok (.goto 4, 3) := by decide +kernel
theorem dX5_readStatement_127 : decode cX5_readStatement 127 = .ok (.iconst 0, 1) := by decide +kernel
theorem dX5_readStatement_128 : decode cX5_readStatement 128 = .ok (.ireturn, 1) := by decide +kernel
theorem dX5_readNumber_0 : decode cX5_readNumber 0 = .ok (.aload_n 0, 1) := by decide +kernel
theorem dX5_readNumber_1 : decode cX5_readNumber 1 = .ok (.invokevirtual 67, 3) := by decide +kernel
theorem dX5_readNumber_4 : decode cX5_readNumber 4 = .ok (.aload_n 0, 1) := by decide +kernel
theorem dX5_readNumber_5 : decode cX5_readNumber 5 = .ok (.getfield 22, 3) := by decide +kernel
theorem dX5_readNumber_8 : decode cX5_readNumber 8 = .ok (.iconst 3, 1) := by decide +kernel
theorem dX5_readNumber_9 : decode cX5_readNumber 9 = .ok (.if_icmp .eq 9, 3) := by decide +kernel
theorem dX5_readNumber_12 : decode cX5_readNumber 12 = .ok (.aload_n 0, 1) := by decide +kernel
theorem dX5_readNumber_13 : decode cX5_readNumber 13 = .ok (.iconst 1, 1) := by decide +kernel
theorem dX5_readNumber_14 : decode cX5_readNumber 14 = .ok (.invokevirtual 76, 3) := by decide +kernel
theorem dX5_readNumber_17 : decode cX5_readNumber 17 = .ok (.ireturn, 1) := by decide +kernel
theorem dX5_readNumber_18 : decode cX5_readNumber 18 = .ok (.aload_n 0, 1) := by decide +kernel
theorem dX5_readNumber_19 : decode cX5_readNumber 19 = .ok (.getfield 28, 3) := by decide +kernel
theorem dX5_readNumber_22 : decode cX5_readNumber 22 = .ok (.iload_n 1, 1) := by decide +kernel
theorem dX5_readNumber_23 : decode cX5_readNumber 23 = .ok (.if_icmp .lt 11, 3) := by decide +kernel
theorem dX5_readNumber_26 : decode cX5_readNumber 26 = .ok (.aload_n 0, 1) := by decide +kernel
theorem dX5_readNumber_27 : decode cX5_readNumber 27 = .ok (.getfield 28, 3) := by decide +kernel
theorem dX5_readNumber_30 : decode cX5_readNumber 30 = .ok (.iload_n 2, 1) := by decide +kernel
theorem dX5_readNumber_31 : decode cX5_readNumber 31 = .ok (.if_icmp .le 11, 3) := by decide +kernel
theorem dX5_readNumber_34 : decode cX5_readNumber 34 = .ok (.aload_n 0, 1) := by decide +kernel
theorem dX5_readNumber_35 : decode cX5_readNumber 35 = .ok (.iconst 2, 1) := by decide +kernel
theorem dX5_readNumber_36 : decode cX5_readNumber 36 = .ok (.invokevirtual 76, 3) := by decide +kernel
theorem dX5_readNumber_39 : decode cX5_readNumber 39 = .ok (.ifCond .eq 7, 3) := by decide +kernel
theorem dX5_readNumber_42 : decode cX5_readNumber 42 = .ok (.iconst 1, 1) := by decide +kernel
theorem dX5_readNumber_43 : decode cX5_readNumber 43 = .ok (.goto 4, 3) := by decide +kernel
theorem dX5_readNumber_46 : decode cX5_readNumber 46 = .ok (.iconst 0, 1) := by decide +kernel
theorem dX5_readNumber_47 : decode cX5_readNumber 47 = .ok (.ireturn, 1) := by decide +kernel
theorem dX5_fail_0 : decode cX5_fail 0 = .ok (.aload_n 0, 1) := by decide +kernel
theorem dX5_fail_1 : decode cX5_fail 1 = .ok (.bipush 8, 2) := by decide +kernel
theorem dX5_fail_3 : decode cX5_fail 3 = .ok (.aload_n 0, 1) := by decide +kernel
theorem dX5_fail_4 : decode cX5_fail 4 = .ok (.getfield 25, 3) := by decide +kernel
theorem dX5_fail_7 : decode cX5_fail 7 = .ok (.imul, 1) := by decide +kernel
theorem dX5_fail_8 : decode cX5_fail 8 = .ok (.iload_n 1, 1) := by decide +kernel
theorem dX5_fail_9 : decode cX5_fail 9 = .ok (.iadd, 1) := by decide +kernel
theorem dX5_fail_10 : decode cX5_fail 10 = .ok (.putfield 41, 3) := by decide +kernel
theorem dX5_fail_13 : decode cX5_fail 13 = .ok (.iconst 0, 1) := by decide +kernel
theorem dX5_fail_14 : decode cX5_fail 14 = .ok (.ireturn, 1) := by decide +kernel
theorem dX5_verbRead_0 : decode cX5_verbRead 0 = .ok (.getstatic 115, 3) := by decide +kernel
theorem dX5_verbRead_3 : decode cX5_verbRead 3 = .ok (.astore_n 1, 1) := by decide +kernel
theorem dX5_verbRead_4 : decode cX5_verbRead 4 = .ok (.aload_n 1, 1) := by decide +kernel
theorem dX5_verbRead_5 : decode cX5_verbRead 5 = .ok (.arraylength, 1) := by decide +kernel
theorem dX5_verbRead_6 : decode cX5_verbRead 6 = .ok (.istore_n 2, 1) := by decide +kernel
theorem dX5_verbRead_7 : decode cX5_verbRead 7 = .ok (.iconst 0, 1) := by decide +kernel
theorem dX5_verbRead_8 : decode cX5_verbRead 8 = .ok (.istore_n 3, 1) := by decide +kernel
theorem dX5_verbRead_9 : decode cX5_verbRead 9 = .ok (.iload_n 3, 1) := by decide +kernel
theorem dX5_verbRead_10 : decode cX5_verbRead 10 = .ok (.iload_n 2, 1) := by decide +kernel
theorem dX5_verbRead_11 : decode cX5_verbRead 11 = .ok (.if_icmp .ge 29, 3) := by decide +kernel
theorem dX5_verbRead_14 : decode cX5_verbRead 14 = .ok (.aload_n 1, 1) := by decide +kernel
theorem dX5_verbRead_15 : decode cX5_verbRead 15 = .ok (.iload_n 3, 1) := by decide +kernel
theorem dX5_verbRead_16 : decode cX5_verbRead 16 = .ok (.aaload, 1) := by decide +kernel
theorem dX5_verbRead_17 : decode cX5_verbRead 17 = .ok (.astore 4, 2) := by decide +kernel
theorem dX5_verbRead_19 : decode cX5_verbRead 19 = .ok (.aload_n 0, 1) := by decide +kernel
theorem dX5_verbRead_20 : decode cX5_verbRead 20 = .ok (.aload 4, 2) := by decide +kernel
theorem dX5_verbRead_22 : decode cX5_verbRead 22 = .ok (.getfield 119, 3) := by decide +kernel
theorem dX5_verbRead_25 : decode cX5_verbRead 25 = .ok (.invokevirtual 72, 3) := by decide +kernel
theorem dX5_verbRead_28 : decode cX5_verbRead 28 = .ok (.ifCond .eq 6, 3) := by decide +kernel
theorem dX5_verbRead_31 : decode cX5_verbRead 31 = .ok (.aload 4, 2) := by decide +kernel
theorem dX5_verbRead_33 : decode cX5_verbRead 33 = .ok (.areturn, 1) := by decide +kernel
theorem dX5_verbRead_34 : decode cX5_verbRead 34 = .ok (.iinc 3 1, 3) := by decide +kernel
theorem dX5_verbRead_37 : decode cX5_verbRead 37 = .ok (.goto (-28), 3) := by decide +kernel
theorem dX5_verbRead_40 : decode cX5_verbRead 40 = .ok (.aconst_null, 1) := by decide +kernel
theorem dX5_verbRead_41 : decode cX5_verbRead 41 = .ok (.areturn, 1) := by decide +kernel
theorem dX5_isWord_0 : decode cX5_isWord 0 = .ok (.aload_n 0, 1) := by decide +kernel
theorem dX5_isWord_1 : decode cX5_isWord 1 = .ok (.getfield 22, 3) := by decide +kernel
theorem dX5_isWord_4 : decode cX5_isWord 4 = .ok (.iconst 2, 1) := by decide +kernel
theorem dX5_isWord_5 : decode cX5_isWord 5 = .ok (.if_icmp .ne 19, 3) := by decide +kernel
theorem dX5_isWord_8 : decode cX5_isWord 8 = .ok (.aload_n 0, 1) := by decide +kernel
theorem dX5_isWord_9 : decode cX5_isWord 9 = .ok (.getfield 19, 3) := by decide +kernel
theorem dX5_isWord_12 : decode cX5_isWord 12 = .ok (.aload_n 0, 1) := by decide +kernel
theorem dX5_isWord_13 : decode cX5_isWord 13 = .ok (.getfield 25, 3) := by decide +kernel
theorem dX5_isWord_16 : decode cX5_isWord 16 = .ok (.isub, 1) := by decide +kernel
theorem dX5_isWord_17 : decode cX5_isWord 17 = .ok (.aload_n 1, 1) := by decide +kernel
theorem dX5_isWord_18 : decode cX5_isWord 18 = .ok (.invokevirtual 52, 3) := by decide +kernel
theorem dX5_isWord_21 : decode cX5_isWord 21 = .ok (.if_icmp .eq 5, 3) := by decide +kernel
theorem dX5_isWord_24 : decode cX5_isWord 24 = .ok (.iconst 0, 1) := by decide +kernel
theorem dX5_isWord_25 : decode cX5_isWord 25 = .ok (.ireturn, 1) := by decide +kernel
theorem dX5_isWord_26 : decode cX5_isWord 26 = .ok (.iconst 0, 1) := by decide +kernel
theorem dX5_isWord_27 : decode cX5_isWord 27 = .ok (.istore_n 2, 1) := by decide +kernel
theorem dX5_isWord_28 : decode cX5_isWord 28 = .ok (.iload_n 2, 1) := by decide +kernel
theorem dX5_isWord_29 : decode cX5_isWord 29 = .ok (.aload_n 1, 1) := by decide +kernel
theorem dX5_isWord_30 : decode cX5_isWord 30 = .ok (.invokevirtual 52, 3) := by decide +kernel
theorem dX5_isWord_33 : decode cX5_isWord 33 = .ok (.if_icmp .ge 29, 3) := by decide +kernel
theorem dX5_isWord_36 : decode cX5_isWord 36 = .ok (.aload_n 0, 1) := by decide +kernel
theorem dX5_isWord_37 : decode cX5_isWord 37 = .ok (.aload_n 0, 1) := by decide +kernel
theorem dX5_isWord_38 : decode cX5_isWord 38 = .ok (.getfield 25, 3) := by decide +kernel
theorem dX5_isWord_41 : decode cX5_isWord 41 = .ok (.iload_n 2, 1) := by decide +kernel
theorem dX5_isWord_42 : decode cX5_isWord 42 = .ok (.iadd, 1) := by decide +kernel
theorem dX5_isWord_43 : decode cX5_isWord 43 = .ok (.invokevirtual 123, 3) := by decide +kernel
theorem dX5_isWord_46 : decode cX5_isWord 46 = .ok (.aload_n 1, 1) := by decide +kernel
theorem dX5_isWord_47 : decode cX5_isWord 47 = .ok (.iload_n 2, 1) := by decide +kernel
theorem dX5_isWord_48 : decode cX5_isWord 48 = .ok (.invokevirtual 57, 3) := by decide +kernel
theorem dX5_isWord_51 : decode cX5_isWord 51 = .ok (.if_icmp .eq 5, 3) := by decide +kernel
theorem dX5_isWord_54 : decode cX5_isWord 54 = .ok (.iconst 0, 1) := by decide +kernel
theorem dX5_isWord_55 : decode cX5_isWord 55 = .ok (.ireturn, 1) := by decide +kernel
theorem dX5_isWord_56 : decode cX5_isWord 56 = .ok (.iinc 2 1, 3) := by decide +kernel
theorem dX5_isWord_59 : decode cX5_isWord 59 = .ok (.goto (-31), 3) := by decide +kernel
theorem dX5_isWord_62 : decode cX5_isWord 62 = .ok (.iconst 1, 1) := by decide +kernel
theorem dX5_isWord_63 : decode cX5_isWord 63 = .ok (.ireturn, 1) := by decide +kernel
theorem dX5_next_0 : decode cX5_next 0 = .ok (.aload_n 0, 1) := by decide +kernel
theorem dX5_next_1 : decode cX5_next 1 = .ok (.getfield 19, 3) := by decide +kernel
theorem dX5_next_4 : decode cX5_next 4 = .ok (.aload_n 0, 1) := by decide +kernel
theorem dX5_next_5 : decode cX5_next 5 = .ok (.getfield 15, 3) := by decide +kernel
theorem dX5_next_8 : decode cX5_next 8 = .ok (.if_icmp .ge 30, 3) := by decide +kernel
theorem dX5_next_11 : decode cX5_next 11 = .ok (.aload_n 0, 1) := by decide +kernel
theorem dX5_next_12 : decode cX5_next 12 = .ok (.aload_n 0, 1) := by decide +kernel
theorem dX5_next_13 : decode cX5_next 13 = .ok (.getfield 19, 3) := by decide +kernel
theorem dX5_next_16 : decode cX5_next 16 = .ok (.invokevirtual 123, 3) := by decide +kernel
theorem dX5_next_19 : decode cX5_next 19 = .ok (.invokestatic 127, 3) := by decide +kernel
theorem dX5_next_22 : decode cX5_next 22 = .ok (.ifCond .eq 16, 3) := by decide +kernel
theorem dX5_next_25 : decode cX5_next 25 = .ok (.aload_n 0, 1) := by decide +kernel
theorem dX5_next_26 : decode cX5_next 26 = .ok (.dup, 1) := by decide +kernel
theorem dX5_next_27 : decode cX5_next 27 = .ok (.getfield 19, 3) := by decide +kernel
theorem dX5_next_30 : decode cX5_next 30 = .ok (.iconst 1, 1) := by decide +kernel
theorem dX5_next_31 : decode cX5_next 31 = .ok (.iadd, 1) := by decide +kernel
theorem dX5_next_32 : decode cX5_next 32 = .ok (.putfield 19, 3) := by decide +kernel
theorem dX5_next_35 : decode cX5_next 35 = .ok (.goto (-35), 3) := by decide +kernel
theorem dX5_next_38 : decode cX5_next 38 = .ok (.aload_n 0, 1) := by decide +kernel
theorem dX5_next_39 : decode cX5_next 39 = .ok (.aload_n 0, 1) := by decide +kernel
theorem dX5_next_40 : decode cX5_next 40 = .ok (.getfield 19, 3) := by decide +kernel
theorem dX5_next_43 : decode cX5_next 43 = .ok (.putfield 25, 3) := by decide +kernel
theorem dX5_next_46 : decode cX5_next 46 = .ok (.aload_n 0, 1) := by decide +kernel
theorem dX5_next_47 : decode cX5_next 47 = .ok (.getfield 19, 3) := by decide +kernel
theorem dX5_next_50 : decode cX5_next 50 = .ok (.aload_n 0, 1) := by decide +kernel
theorem dX5_next_51 : decode cX5_next 51 = .ok (.getfield 15, 3) := by decide +kernel
theorem dX5_next_54 : decode cX5_next 54 = .ok (.if_icmp .lt 11, 3) := by decide +kernel
theorem dX5_next_57 : decode cX5_next 57 = .ok (.aload_n 0, 1) := by decide +kernel
theorem dX5_next_58 : decode cX5_next 58 = .ok (.iconst 0, 1) := by decide +kernel
theorem dX5_next_59 : decode cX5_next 59 = .ok (.putfield 22, 3) := by decide +kernel
theorem dX5_next_62 : decode cX5_next 62 = .ok (.goto 113, 3) := by decide +kernel
theorem dX5_next_65 : decode cX5_next 65 = .ok (.aload_n 0, 1) := by decide +kernel
theorem dX5_next_66 : decode cX5_next 66 = .ok (.aload_n 0, 1) := by decide +kernel
theorem dX5_next_67 : decode cX5_next 67 = .ok (.getfield 19, 3) := by decide +kernel
theorem dX5_next_70 : decode cX5_next 70 = .ok (.invokevirtual 123, 3) := by decide +kernel
theorem dX5_next_73 : decode cX5_next 73 = .ok (.invokestatic 130, 3) := by decide +kernel
theorem dX5_next_76 : decode cX5_next 76 = .ok (.ifCond .eq 46, 3) := by decide +kernel
theorem dX5_next_79 : decode cX5_next 79 = .ok (.aload_n 0, 1) := by decide +kernel
theorem dX5_next_80 : decode cX5_next 80 = .ok (.iconst 2, 1) := by decide +kernel
theorem dX5_next_81 : decode cX5_next 81 = .ok (.putfield 22, 3) := by decide +kernel
theorem dX5_next_84 : decode cX5_next 84 = .ok (.aload_n 0, 1) := by decide +kernel
theorem dX5_next_85 : decode cX5_next 85 = .ok (.getfield 19, 3) := by decide +kernel
theorem dX5_next_88 : decode cX5_next 88 = .ok (.aload_n 0, 1) := by decide +kernel
theorem dX5_next_89 : decode cX5_next 89 = .ok (.getfield 15, 3) := by decide +kernel
theorem dX5_next_92 : decode cX5_next 92 = .ok (.if_icmp .ge 83, 3) := by decide +kernel
theorem dX5_next_95 : decode cX5_next 95 = .ok (.aload_n 0, 1) := by decide +kernel
theorem dX5_next_96 : decode cX5_next 96 = .ok (.aload_n 0, 1) := by decide +kernel
theorem dX5_next_97 : decode cX5_next 97 = .ok (.getfield 19, 3) := by decide +kernel
theorem dX5_next_100 : decode cX5_next 100 = .ok (.invokevirtual 123, 3) := by decide +kernel
theorem dX5_next_103 : decode cX5_next 103 = .ok (.invokestatic 130, 3) := by decide +kernel
theorem dX5_next_106 : decode cX5_next 106 = .ok (.ifCond .eq 69, 3) := by decide +kernel
theorem dX5_next_109 : decode cX5_next 109 = .ok (.aload_n 0, 1) := by decide +kernel
theorem dX5_next_110 : decode cX5_next 110 = .ok (.dup, 1) := by decide +kernel
theorem dX5_next_111 : decode cX5_next 111 = .ok (.getfield 19, 3) := by decide +kernel
theorem dX5_next_114 : decode cX5_next 114 = .ok (.iconst 1, 1) := by decide +kernel
theorem dX5_next_115 : decode cX5_next 115 = .ok (.iadd, 1) := by decide +kernel
theorem dX5_next_116 : decode cX5_next 116 = .ok (.putfield 19, 3) := by decide +kernel
theorem dX5_next_119 : decode cX5_next 119 = .ok (.goto (-35), 3) := by decide +kernel
theorem dX5_next_122 : decode cX5_next 122 = .ok (.aload_n 0, 1) := by decide +kernel
theorem dX5_next_123 : decode cX5_next 123 = .ok (.aload_n 0, 1) := by decide +kernel
theorem dX5_next_124 : decode cX5_next 124 = .ok (.getfield 19, 3) := by decide +kernel
theorem dX5_next_127 : decode cX5_next 127 = .ok (.invokevirtual 123, 3) := by decide +kernel
theorem dX5_next_130 : decode cX5_next 130 = .ok (.invokestatic 133, 3) := by decide +kernel
theorem dX5_next_133 : decode cX5_next 133 = .ok (.ifCond .eq 10, 3) := by decide +kernel
theorem dX5_next_136 : decode cX5_next 136 = .ok (.aload_n 0, 1) := by decide +kernel
theorem dX5_next_137 : decode cX5_next 137 = .ok (.invokevirtual 136, 3) := by decide +kernel
theorem dX5_next_140 : decode cX5_next 140 = .ok (.goto 35, 3) := by decide +kernel
theorem dX5_next_143 : decode cX5_next 143 = .ok (.aload_n 0, 1) := by decide +kernel
theorem dX5_next_144 : decode cX5_next 144 = .ok (.aload_n 0, 1) := by decide +kernel
theorem dX5_next_145 : decode cX5_next 145 = .ok (.aload_n 0, 1) := by decide +kernel
theorem dX5_next_146 : decode cX5_next 146 = .ok (.getfield 19, 3) := by decide +kernel
theorem dX5_next_149 : decode cX5_next 149 = .ok (.invokevirtual 123, 3) := by decide +kernel
theorem dX5_next_152 : decode cX5_next 152 = .ok (.bipush 59, 2) := by decide +kernel
theorem dX5_next_154 : decode cX5_next 154 = .ok (.if_icmp .ne 7, 3) := by decide +kernel
theorem dX5_next_157 : decode cX5_next 157 = .ok (.iconst 1, 1) := by decide +kernel
theorem dX5_next_158 : decode cX5_next 158 = .ok (.goto 4, 3) := by decide +kernel
theorem dX5_next_161 : decode cX5_next 161 = .ok (.iconst 4, 1) := by decide +kernel
theorem dX5_next_162 : decode cX5_next 162 = .ok (.putfield 22, 3) := by decide +kernel
theorem dX5_next_165 : decode cX5_next 165 = .ok (.aload_n 0, 1) := by decide +kernel
theorem dX5_next_166 : decode cX5_next 166 = .ok (.dup, 1) := by decide +kernel
theorem dX5_next_167 : decode cX5_next 167 = .ok (.getfield 19, 3) := by decide +kernel
theorem dX5_next_170 : decode cX5_next 170 = .ok (.iconst 1, 1) := by decide +kernel
theorem dX5_next_171 : decode cX5_next 171 = .ok (.iadd, 1) := by decide +kernel
theorem dX5_next_172 : decode cX5_next 172 = .ok (.putfield 19, 3) := by decide +kernel
theorem dX5_next_175 : decode cX5_next 175 = .ok (.return_, 1) := by decide +kernel
theorem dX5_nextNumber_0 : decode cX5_nextNumber 0 = .ok (.aload_n 0, 1) := by decide +kernel
theorem dX5_nextNumber_1 : decode cX5_nextNumber 1 = .ok (.iconst 0, 1) := by decide +kernel
theorem dX5_nextNumber_2 : decode cX5_nextNumber 2 = .ok (.putfield 28, 3) := by decide +kernel
theorem dX5_nextNumber_5 : decode cX5_nextNumber 5 = .ok (.aload_n 0, 1) := by decide +kernel
theorem dX5_nextNumber_6 : decode cX5_nextNumber 6 = .ok (.getfield 19, 3) := by decide +kernel
theorem dX5_nextNumber_9 : decode cX5_nextNumber 9 = .ok (.aload_n 0, 1) := by decide +kernel
theorem dX5_nextNumber_10 : decode cX5_nextNumber 10 = .ok (.getfield 15, 3) := by decide +kernel
theorem dX5_nextNumber_13 : decode cX5_nextNumber 13 = .ok (.if_icmp .ge 66, 3) := by decide +kernel
theorem dX5_nextNumber_16 : decode cX5_nextNumber 16 = .ok (.aload_n 0, 1) := by decide +kernel
theorem dX5_nextNumber_17 : decode cX5_nextNumber 17 = .ok (.aload_n 0, 1) := by decide +kernel
theorem dX5_nextNumber_18 : decode cX5_nextNumber 18 = .ok (.getfield 19, 3) := by decide +kernel
theorem dX5_nextNumber_21 : decode cX5_nextNumber 21 = .ok (.invokevirtual 123, 3) := by decide +kernel
theorem dX5_nextNumber_24 : decode cX5_nextNumber 24 = .ok (.invokestatic 133, 3) := by decide +kernel
theorem dX5_nextNumber_27 : decode cX5_nextNumber 27 = .ok (.ifCond .eq 52, 3) := by decide +kernel
theorem dX5_nextNumber_30 : decode cX5_nextNumber 30 = .ok (.aload_n 0, 1) := by decide +kernel
theorem dX5_nextNumber_31 : decode cX5_nextNumber 31 = .ok (.getfield 19, 3) := by decide +kernel
theorem dX5_nextNumber_34 : decode cX5_nextNumber 34 = .ok (.aload_n 0, 1) := by decide +kernel
theorem dX5_nextNumber_35 : decode cX5_nextNumber 35 = .ok (.getfield 25, 3) := by decide +kernel
theorem dX5_nextNumber_38 : decode cX5_nextNumber 38 = .ok (.isub, 1) := by decide +kernel
theorem dX5_nextNumber_39 : decode cX5_nextNumber 39 = .ok (.iconst 4, 1) := by decide +kernel
theorem dX5_nextNumber_40 : decode cX5_nextNumber 40 = .ok (.if_icmp .ge 26, 3) := by decide +kernel
theorem dX5_nextNumber_43 : decode cX5_nextNumber 43 = .ok (.aload_n 0, 1) := by decide +kernel
theorem dX5_nextNumber_44 : decode cX5_nextNumber 44 = .ok (.bipush 10, 2) := by decide +kernel
theorem dX5_nextNumber_46 : decode cX5_nextNumber 46 = .ok (.aload_n 0, 1) := by decide +kernel
theorem dX5_nextNumber_47 : decode cX5_nextNumber 47 = .ok (.getfield 28, 3) := by decide +kernel
theorem dX5_nextNumber_50 : decode cX5_nextNumber 50 = .ok (.imul, 1) := by decide +kernel
theorem dX5_nextNumber_51 : decode cX5_nextNumber 51 = .ok (.aload_n 0, 1) := by decide +kernel
theorem dX5_nextNumber_52 : decode cX5_nextNumber 52 = .ok (.aload_n 0, 1) := by decide +kernel
theorem dX5_nextNumber_53 : decode cX5_nextNumber 53 = .ok (.getfield 19, 3) := by decide +kernel
theorem dX5_nextNumber_56 : decode cX5_nextNumber 56 = .ok (.invokevirtual 123, 3) := by decide +kernel
theorem dX5_nextNumber_59 : decode cX5_nextNumber 59 = .ok (.iadd, 1) := by decide +kernel
theorem dX5_nextNumber_60 : decode cX5_nextNumber 60 = .ok (.bipush 48, 2) := by decide +kernel
theorem dX5_nextNumber_62 : decode cX5_nextNumber 62 = .ok (.isub, 1) := by decide +kernel
theorem dX5_nextNumber_63 : decode cX5_nextNumber 63 = .ok (.putfield 28, 3) := by decide +kernel
theorem dX5_nextNumber_66 : decode cX5_nextNumber 66 = .ok (.aload_n 0, 1) := by decide +kernel
theorem dX5_nextNumber_67 : decode cX5_nextNumber 67 = .ok (.dup, 1) := by decide +kernel
theorem dX5_nextNumber_68 : decode cX5_nextNumber 68 = .ok (.getfield 19, 3) := by decide +kernel
theorem dX5_nextNumber_71 : decode cX5_nextNumber 71 = .ok (.iconst 1, 1) := by decide +kernel
theorem dX5_nextNumber_72 : decode cX5_nextNumber 72 = .ok (.iadd, 1) := by decide +kernel
theorem dX5_nextNumber_73 : decode cX5_nextNumber 73 = .ok (.putfield 19, 3) := by decide +kernel
theorem dX5_nextNumber_76 : decode cX5_nextNumber 76 = .ok (.goto (-71), 3) := by decide +kernel
theorem dX5_nextNumber_79 : decode cX5_nextNumber 79 = .ok (.aload_n 0, 1) := by decide +kernel
theorem dX5_nextNumber_80 : decode cX5_nextNumber 80 = .ok (.aload_n 0, 1) := by decide +kernel
theorem dX5_nextNumber_81 : decode cX5_nextNumber 81 = .ok (.getfield 19, 3) := by decide +kernel
theorem dX5_nextNumber_84 : decode cX5_nextNumber 84 = .ok (.aload_n 0, 1) := by decide +kernel
theorem dX5_nextNumber_85 : decode cX5_nextNumber 85 = .ok (.getfield 25, 3) := by decide +kernel
theorem dX5_nextNumber_88 : decode cX5_nextNumber 88 = .ok (.isub, 1) := by decide +kernel
theorem dX5_nextNumber_89 : decode cX5_nextNumber 89 = .ok (.iconst 4, 1) := by decide +kernel
theorem dX5_nextNumber_90 : decode cX5_nextNumber 90 = .ok (.if_icmp .gt 7, 3) := by decide +kernel
theorem dX5_nextNumber_93 : decode cX5_nextNumber 93 = .ok (.iconst 3, 1) := by decide +kernel
theorem dX5_nextNumber_94 : decode cX5_nextNumber 94 = .ok (.goto 4, 3) := by decide +kernel
theorem dX5_nextNumber_97 : decode cX5_nextNumber 97 = .ok (.iconst 4, 1) := by decide +kernel
theorem dX5_nextNumber_98 : decode cX5_nextNumber 98 = .ok (.putfield 22, 3) := by decide +kernel
theorem dX5_nextNumber_101 : decode cX5_nextNumber 101 = .ok (.return_, 1) := by decide +kernel
theorem dX5_byteAt_0 : decode cX5_byteAt 0 = .ok (.iload_n 1, 1) := by decide +kernel
theorem dX5_byteAt_1 : decode cX5_byteAt 1 = .ok (.ifCond .lt 21, 3) := by decide +kernel
theorem dX5_byteAt_4 : decode cX5_byteAt 4 = .ok (.iload_n 1, 1) := by decide +kernel
theorem dX5_byteAt_5 : decode cX5_byteAt 5 = .ok (.aload_n 0, 1) := by decide +kernel
theorem dX5_byteAt_6 : decode cX5_byteAt 6 = .ok (.getfield 9, 3) := by decide +kernel
theorem dX5_byteAt_9 : decode cX5_byteAt 9 = .ok (.arraylength, 1) := by decide +kernel
theorem dX5_byteAt_10 : decode cX5_byteAt 10 = .ok (.if_icmp .ge 12, 3) := by decide +kernel
theorem dX5_byteAt_13 : decode cX5_byteAt 13 = .ok (.aload_n 0, 1) := by decide +kernel
theorem dX5_byteAt_14 : decode cX5_byteAt 14 = .ok (.getfield 9, 3) := by decide +kernel
theorem dX5_byteAt_17 : decode cX5_byteAt 17 = .ok (.iload_n 1, 1) := by decide +kernel
theorem dX5_byteAt_18 : decode cX5_byteAt 18 = .ok (.iaload, 1) := by decide +kernel
theorem dX5_byteAt_19 : decode cX5_byteAt 19 = .ok (.goto 4, 3) := by decide +kernel
theorem dX5_byteAt_22 : decode cX5_byteAt 22 = .ok (.iconst (-1), 1) := by decide +kernel
theorem dX5_byteAt_23 : decode cX5_byteAt 23 = .ok (.ireturn, 1) := by decide +kernel
theorem dX5_isSpace_0 : decode cX5_isSpace 0 = .ok (.iload_n 0, 1) := by decide +kernel
theorem dX5_isSpace_1 : decode cX5_isSpace 1 = .ok (.bipush 32, 2) := by decide +kernel
theorem dX5_isSpace_3 : decode cX5_isSpace 3 = .ok (.if_icmp .eq 9, 3) := by decide +kernel
theorem dX5_isSpace_6 : decode cX5_isSpace 6 = .ok (.iload_n 0, 1) := by decide +kernel
theorem dX5_isSpace_7 : decode cX5_isSpace 7 = .ok (.bipush 10, 2) := by decide +kernel
theorem dX5_isSpace_9 : decode cX5_isSpace 9 = .ok (.if_icmp .ne 7, 3) := by decide +kernel
theorem dX5_isSpace_12 : decode cX5_isSpace 12 = .ok (.iconst 1, 1) := by decide +kernel
theorem dX5_isSpace_13 : decode cX5_isSpace 13 = .ok (.goto 4, 3) := by decide +kernel
theorem dX5_isSpace_16 : decode cX5_isSpace 16 = .ok (.iconst 0, 1) := by decide +kernel
theorem dX5_isSpace_17 : decode cX5_isSpace 17 = .ok (.ireturn, 1) := by decide +kernel
theorem dX5_isLetter_0 : decode cX5_isLetter 0 = .ok (.iload_n 0, 1) := by decide +kernel
theorem dX5_isLetter_1 : decode cX5_isLetter 1 = .ok (.bipush 97, 2) := by decide +kernel
theorem dX5_isLetter_3 : decode cX5_isLetter 3 = .ok (.if_icmp .lt 13, 3) := by decide +kernel
theorem dX5_isLetter_6 : decode cX5_isLetter 6 = .ok (.iload_n 0, 1) := by decide +kernel
theorem dX5_isLetter_7 : decode cX5_isLetter 7 = .ok (.bipush 122, 2) := by decide +kernel
theorem dX5_isLetter_9 : decode cX5_isLetter 9 = .ok (.if_icmp .gt 7, 3) := by decide +kernel
theorem dX5_isLetter_12 : decode cX5_isLetter 12 = .ok (.iconst 1, 1) := by decide +kernel
theorem dX5_isLetter_13 : decode cX5_isLetter 13 = .ok (.goto 4, 3) := by decide +kernel
theorem dX5_isLetter_16 : decode cX5_isLetter 16 = .ok (.iconst 0, 1) := by decide +kernel
theorem dX5_isLetter_17 : decode cX5_isLetter 17 = .ok (.ireturn, 1) := by decide +kernel
theorem dX5_isDigit_0 : decode cX5_isDigit 0 = .ok (.iload_n 0, 1) := by decide +kernel
theorem dX5_isDigit_1 : decode cX5_isDigit 1 = .ok (.bipush 48, 2) := by decide +kernel
theorem dX5_isDigit_3 : decode cX5_isDigit 3 = .ok (.if_icmp .lt 13, 3) := by decide +kernel
theorem dX5_isDigit_6 : decode cX5_isDigit 6 = .ok (.iload_n 0, 1) := by decide +kernel
theorem dX5_isDigit_7 : decode cX5_isDigit 7 = .ok (.bipush 57, 2) := by decide +kernel
theorem dX5_isDigit_9 : decode cX5_isDigit 9 = .ok (.if_icmp .gt 7, 3) := by decide +kernel
theorem dX5_isDigit_12 : decode cX5_isDigit 12 = .ok (.iconst 1, 1) := by decide +kernel
theorem dX5_isDigit_13 : decode cX5_isDigit 13 = .ok (.goto 4, 3) := by decide +kernel
theorem dX5_isDigit_16 : decode cX5_isDigit 16 = .ok (.iconst 0, 1) := by decide +kernel
theorem dX5_isDigit_17 : decode cX5_isDigit 17 = .ok (.ireturn, 1) := by decide +kernel
theorem dX6_init_0 : decode cX6_init 0 = .ok (.aload_n 0, 1) := by decide +kernel
theorem dX6_init_1 : decode cX6_init 1 = .ok (.invokespecial 3, 3) := by decide +kernel
theorem dX6_init_4 : decode cX6_init 4 = .ok (.aload_n 0, 1) := by decide +kernel
theorem dX6_init_5 : decode cX6_init 5 = .ok (.bipush 8, 2) := by decide +kernel
theorem dX6_init_7 : decode cX6_init 7 = .ok (.newarray .int, 2) := by decide +kernel
theorem dX6_init_9 : decode cX6_init 9 = .ok (.putfield 9, 3) := by decide +kernel
theorem dX6_init_12 : decode cX6_init 12 = .ok (.aload_n 0, 1) := by decide +kernel
theorem dX6_init_13 : decode cX6_init 13 = .ok (.bipush 8, 2) := by decide +kernel
theorem dX6_init_15 : decode cX6_init 15 = .ok (.newarray .int, 2) := by decide +kernel
theorem dX6_init_17 : decode cX6_init 17 = .ok (.putfield 15, 3) := by decide +kernel
theorem dX6_init_20 : decode cX6_init 20 = .ok (.aload_n 0, 1) := by decide +kernel
theorem dX6_init_21 : decode cX6_init 21 = .ok (.iconst 0, 1) := by decide +kernel
theorem dX6_init_22 : decode cX6_init 22 = .ok (.putfield 18, 3) := by decide +kernel
theorem dX6_init_25 : decode cX6_init 25 = .ok (.return_, 1) := by decide +kernel
theorem dX6_flatAt_0 : decode cX6_flatAt 0 = .ok (.iload_n 1, 1) := by decide +kernel
theorem dX6_flatAt_1 : decode cX6_flatAt 1 = .ok (.ifCond .lt 21, 3) := by decide +kernel
theorem dX6_flatAt_4 : decode cX6_flatAt 4 = .ok (.iload_n 1, 1) := by decide +kernel
theorem dX6_flatAt_5 : decode cX6_flatAt 5 = .ok (.aload_n 0, 1) := by decide +kernel
theorem dX6_flatAt_6 : decode cX6_flatAt 6 = .ok (.getfield 9, 3) := by decide +kernel
theorem dX6_flatAt_9 : decode cX6_flatAt 9 = .ok (.arraylength, 1) := by decide +kernel
theorem dX6_flatAt_10 : decode cX6_flatAt 10 = .ok (.if_icmp .ge 12, 3) := by decide +kernel
theorem dX6_flatAt_13 : decode cX6_flatAt 13 = .ok (.aload_n 0, 1) := by decide +kernel
theorem dX6_flatAt_14 : decode cX6_flatAt 14 = .ok (.getfield 9, 3) := by decide +kernel
theorem dX6_flatAt_17 : decode cX6_flatAt 17 = .ok (.iload_n 1, 1) := by decide +kernel
theorem dX6_flatAt_18 : decode cX6_flatAt 18 = .ok (.iaload, 1) := by decide +kernel
theorem dX6_flatAt_19 : decode cX6_flatAt 19 = .ok (.goto 4, 3) := by decide +kernel
theorem dX6_flatAt_22 : decode cX6_flatAt 22 = .ok (.iconst (-1), 1) := by decide +kernel
theorem dX6_flatAt_23 : decode cX6_flatAt 23 = .ok (.ireturn, 1) := by decide +kernel
theorem dX6_minuteAt_0 : decode cX6_minuteAt 0 = .ok (.iload_n 1, 1) := by decide +kernel
theorem dX6_minuteAt_1 : decode cX6_minuteAt 1 = .ok (.ifCond .lt 21, 3) := by decide +kernel
theorem dX6_minuteAt_4 : decode cX6_minuteAt 4 = .ok (.iload_n 1, 1) := by decide +kernel
theorem dX6_minuteAt_5 : decode cX6_minuteAt 5 = .ok (.aload_n 0, 1) := by decide +kernel
theorem dX6_minuteAt_6 : decode cX6_minuteAt 6 = .ok (.getfield 15, 3) := by decide +kernel
theorem dX6_minuteAt_9 : decode cX6_minuteAt 9 = .ok (.arraylength, 1) := by decide +kernel
theorem dX6_minuteAt_10 : decode cX6_minuteAt 10 = .ok (.if_icmp .ge 12, 3) := by decide +kernel
theorem dX6_minuteAt_13 : decode cX6_minuteAt 13 = .ok (.aload_n 0, 1) := by decide +kernel
theorem dX6_minuteAt_14 : decode cX6_minuteAt 14 = .ok (.getfield 15, 3) := by decide +kernel
theorem dX6_minuteAt_17 : decode cX6_minuteAt 17 = .ok (.iload_n 1, 1) := by decide +kernel
theorem dX6_minuteAt_18 : decode cX6_minuteAt 18 = .ok (.iaload, 1) := by decide +kernel
theorem dX6_minuteAt_19 : decode cX6_minuteAt 19 = .ok (.goto 4, 3) := by decide +kernel
theorem dX6_minuteAt_22 : decode cX6_minuteAt 22 = .ok (.iconst (-1), 1) := by decide +kernel
theorem dX6_minuteAt_23 : decode cX6_minuteAt 23 = .ok (.ireturn, 1) := by decide +kernel
theorem dX6_countFor_0 : decode cX6_countFor 0 = .ok (.iconst 0, 1) := by decide +kernel
theorem dX6_countFor_1 : decode cX6_countFor 1 = .ok (.istore_n 2, 1) := by decide +kernel
theorem dX6_countFor_2 : decode cX6_countFor 2 = .ok (.iconst 0, 1) := by decide +kernel
theorem dX6_countFor_3 : decode cX6_countFor 3 = .ok (.istore_n 3, 1) := by decide +kernel
theorem dX6_countFor_4 : decode cX6_countFor 4 = .ok (.iload_n 3, 1) := by decide +kernel
theorem dX6_countFor_5 : decode cX6_countFor 5 = .ok (.aload_n 0, 1) := by decide +kernel
theorem dX6_countFor_6 : decode cX6_countFor 6 = .ok (.getfield 18, 3) := by decide +kernel
theorem dX6_countFor_9 : decode cX6_countFor 9 = .ok (.if_icmp .ge 21, 3) := by decide +kernel
theorem dX6_countFor_12 : decode cX6_countFor 12 = .ok (.aload_n 0, 1) := by decide +kernel
theorem dX6_countFor_13 : decode cX6_countFor 13 = .ok (.iload_n 3, 1) := by decide +kernel
theorem dX6_countFor_14 : decode cX6_countFor 14 = .ok (.invokevirtual 22, 3) := by decide +kernel
theorem dX6_countFor_17 : decode cX6_countFor 17 = .ok (.iload_n 1, 1) := by decide +kernel
theorem dX6_countFor_18 : decode cX6_countFor 18 = .ok (.if_icmp .ne 6, 3) := by decide +kernel
theorem dX6_countFor_21 : decode cX6_countFor 21 = .ok (.iinc 2 1, 3) := by decide +kernel
theorem dX6_countFor_24 : decode cX6_countFor 24 = .ok (.iinc 3 1, 3) := by decide +kernel
theorem dX6_countFor_27 : decode cX6_countFor 27 = .ok (.goto (-23), 3) := by decide +kernel
theorem dX6_countFor_30 : decode cX6_countFor 30 = .ok (.iload_n 2, 1) := by decide +kernel
theorem dX6_countFor_31 : decode cX6_countFor 31 = .ok (.ireturn, 1) := by decide +kernel
theorem dX6_write_0 : decode cX6_write 0 = .ok (.aload_n 0, 1) := by decide +kernel
theorem dX6_write_1 : decode cX6_write 1 = .ok (.getfield 18, 3) := by decide +kernel
theorem dX6_write_4 : decode cX6_write 4 = .ok (.ifCond .lt 57, 3) := by decide +kernel
theorem dX6_write_7 : decode cX6_write 7 = .ok (.aload_n 0, 1) := by decide +kernel
theorem dX6_write_8 : decode cX6_write 8 = .ok (.getfield 18, 3) := by decide +kernel
theorem dX6_write_11 : decode cX6_write 11 = .ok (.aload_n 0, 1) := by decide +kernel
theorem dX6_write_12 : decode cX6_write 12 = .ok (.getfield 9, 3) := by decide +kernel
theorem dX6_write_15 : decode cX6_write 15 = .ok (.arraylength, 1) := by decide +kernel
theorem dX6_write_16 : decode cX6_write 16 = .ok (.if_icmp .ge 45, 3) := by decide +kernel
theorem dX6_write_19 : decode cX6_write 19 = .ok (.aload_n 0, 1) := by decide +kernel
theorem dX6_write_20 : decode cX6_write 20 = .ok (.getfield 18, 3) := by decide +kernel
theorem dX6_write_23 : decode cX6_write 23 = .ok (.aload_n 0, 1) := by decide +kernel
theorem dX6_write_24 : decode cX6_write 24 = .ok (.getfield 15, 3) := by decide +kernel
theorem dX6_write_27 : decode cX6_write 27 = .ok (.arraylength, 1) := by decide +kernel
theorem dX6_write_28 : decode cX6_write 28 = .ok (.if_icmp .ge 33, 3) := by decide +kernel
theorem dX6_write_31 : decode cX6_write 31 = .ok (.aload_n 0, 1) := by decide +kernel
theorem dX6_write_32 : decode cX6_write 32 = .ok (.getfield 9, 3) := by decide +kernel
theorem dX6_write_35 : decode cX6_write 35 = .ok (.aload_n 0, 1) := by decide +kernel
theorem dX6_write_36 : decode cX6_write 36 = .ok (.getfield 18, 3) := by decide +kernel
theorem dX6_write_39 : decode cX6_write 39 = .ok (.iload_n 1, 1) := by decide +kernel
theorem dX6_write_40 : decode cX6_write 40 = .ok (.iastore, 1) := by decide +kernel
theorem dX6_write_41 : decode cX6_write 41 = .ok (.aload_n 0, 1) := by decide +kernel
theorem dX6_write_42 : decode cX6_write 42 = .ok (.getfield 15, 3) := by decide +kernel
theorem dX6_write_45 : decode cX6_write 45 = .ok (.aload_n 0, 1) := by decide +kernel
theorem dX6_write_46 : decode cX6_write 46 = .ok (.getfield 18, 3) := by decide +kernel
theorem dX6_write_49 : decode cX6_write 49 = .ok (.iload_n 2, 1) := by decide +kernel
theorem dX6_write_50 : decode cX6_write 50 = .ok (.iastore, 1) := by decide +kernel
theorem dX6_write_51 : decode cX6_write 51 = .ok (.aload_n 0, 1) := by decide +kernel
theorem dX6_write_52 : decode cX6_write 52 = .ok (.dup, 1) := by decide +kernel
theorem dX6_write_53 : decode cX6_write 53 = .ok (.getfield 18, 3) := by decide +kernel
theorem dX6_write_56 : decode cX6_write 56 = .ok (.iconst 1, 1) := by decide +kernel
theorem dX6_write_57 : decode cX6_write 57 = .ok (.iadd, 1) := by decide +kernel
theorem dX6_write_58 : decode cX6_write 58 = .ok (.putfield 18, 3) := by decide +kernel
theorem dX6_write_61 : decode cX6_write 61 = .ok (.return_, 1) := by decide +kernel
theorem dX6_wipeFor_0 : decode cX6_wipeFor 0 = .ok (.iconst 0, 1) := by decide +kernel
theorem dX6_wipeFor_1 : decode cX6_wipeFor 1 = .ok (.istore_n 2, 1) := by decide +kernel
theorem dX6_wipeFor_2 : decode cX6_wipeFor 2 = .ok (.aload_n 0, 1) := by decide +kernel
theorem dX6_wipeFor_3 : decode cX6_wipeFor 3 = .ok (.getfield 18, 3) := by decide +kernel
theorem dX6_wipeFor_6 : decode cX6_wipeFor 6 = .ok (.istore_n 3, 1) := by decide +kernel
theorem dX6_wipeFor_7 : decode cX6_wipeFor 7 = .ok (.iconst 0, 1) := by decide +kernel
theorem dX6_wipeFor_8 : decode cX6_wipeFor 8 = .ok (.istore 4, 2) := by decide +kernel
theorem dX6_wipeFor_10 : decode cX6_wipeFor 10 = .ok (.iload 4, 2) := by decide +kernel
theorem dX6_wipeFor_12 : decode cX6_wipeFor 12 = .ok (.iload_n 3, 1) := by decide +kernel
theorem dX6_wipeFor_13 : decode cX6_wipeFor 13 = .ok (.if_icmp .ge 75, 3) := by decide +kernel
theorem dX6_wipeFor_16 : decode cX6_wipeFor 16 = .ok (.iload 4, 2) := by decide +kernel
theorem dX6_wipeFor_18 : decode cX6_wipeFor 18 = .ok (.aload_n 0, 1) := by decide +kernel
theorem dX6_wipeFor_19 : decode cX6_wipeFor 19 = .ok (.getfield 9, 3) := by decide +kernel
theorem dX6_wipeFor_22 : decode cX6_wipeFor 22 = .ok (.arraylength, 1) := by decide +kernel
theorem dX6_wipeFor_23 : decode cX6_wipeFor 23 = .ok (.if_icmp .ge 65, 3) := by decide +kernel
theorem dX6_wipeFor_26 : decode cX6_wipeFor 26 = .ok (.iload 4, 2) := by decide +kernel
theorem dX6_wipeFor_28 : decode cX6_wipeFor 28 = .ok (.aload_n 0, 1) := by decide +kernel
theorem dX6_wipeFor_29 : decode cX6_wipeFor 29 = .ok (.getfield 15, 3) := by decide +kernel
theorem dX6_wipeFor_32 : decode cX6_wipeFor 32 = .ok (.arraylength, 1) := by decide +kernel
theorem dX6_wipeFor_33 : decode cX6_wipeFor 33 = .ok (.if_icmp .ge 55, 3) := by decide +kernel
theorem dX6_wipeFor_36 : decode cX6_wipeFor 36 = .ok (.aload_n 0, 1) := by decide +kernel
theorem dX6_wipeFor_37 : decode cX6_wipeFor 37 = .ok (.getfield 9, 3) := by decide +kernel
theorem dX6_wipeFor_40 : decode cX6_wipeFor 40 = .ok (.iload 4, 2) := by decide +kernel
theorem dX6_wipeFor_42 : decode cX6_wipeFor 42 = .ok (.iaload, 1) := by decide +kernel
theorem dX6_wipeFor_43 : decode cX6_wipeFor 43 = .ok (.iload_n 1, 1) := by decide +kernel
theorem dX6_wipeFor_44 : decode cX6_wipeFor 44 = .ok (.if_icmp .eq 38, 3) := by decide +kernel
theorem dX6_wipeFor_47 : decode cX6_wipeFor 47 = .ok (.iload_n 2, 1) := by decide +kernel
theorem dX6_wipeFor_48 : decode cX6_wipeFor 48 = .ok (.iload 4, 2) := by decide +kernel
theorem dX6_wipeFor_50 : decode cX6_wipeFor 50 = .ok (.if_icmp .gt 32, 3) := by decide +kernel
theorem dX6_wipeFor_53 : decode cX6_wipeFor 53 = .ok (.aload_n 0, 1) := by decide +kernel
theorem dX6_wipeFor_54 : decode cX6_wipeFor 54 = .ok (.getfield 9, 3) := by decide +kernel
theorem dX6_wipeFor_57 : decode cX6_wipeFor 57 = .ok (.iload_n 2, 1) := by decide +kernel
theorem dX6_wipeFor_58 : decode cX6_wipeFor 58 = .ok (.aload_n 0, 1) := by decide +kernel
theorem dX6_wipeFor_59 : decode cX6_wipeFor 59 = .ok (.getfield 9, 3) := by decide +kernel
theorem dX6_wipeFor_62 : decode cX6_wipeFor 62 = .ok (.iload 4, 2) := by decide +kernel
theorem dX6_wipeFor_64 : decode cX6_wipeFor 64 = .ok (.iaload, 1) := by decide +kernel
theorem dX6_wipeFor_65 : decode cX6_wipeFor 65 = .ok (.iastore, 1) := by decide +kernel
theorem dX6_wipeFor_66 : decode cX6_wipeFor 66 = .ok (.aload_n 0, 1) := by decide +kernel
theorem dX6_wipeFor_67 : decode cX6_wipeFor 67 = .ok (.getfield 15, 3) := by decide +kernel
theorem dX6_wipeFor_70 : decode cX6_wipeFor 70 = .ok (.iload_n 2, 1) := by decide +kernel
theorem dX6_wipeFor_71 : decode cX6_wipeFor 71 = .ok (.aload_n 0, 1) := by decide +kernel
theorem dX6_wipeFor_72 : decode cX6_wipeFor 72 = .ok (.getfield 15, 3) := by decide +kernel
theorem dX6_wipeFor_75 : decode cX6_wipeFor 75 = .ok (.iload 4, 2) := by decide +kernel
theorem dX6_wipeFor_77 : decode cX6_wipeFor 77 = .ok (.iaload, 1) := by decide +kernel
theorem dX6_wipeFor_78 : decode cX6_wipeFor 78 = .ok (.iastore, 1) := by decide +kernel
theorem dX6_wipeFor_79 : decode cX6_wipeFor 79 = .ok (.iinc 2 1, 3) := by decide +kernel
theorem dX6_wipeFor_82 : decode cX6_wipeFor 82 = .ok (.iinc 4 1, 3) := by decide +kernel
theorem dX6_wipeFor_85 : decode cX6_wipeFor 85 = .ok (.goto (-75), 3) := by decide +kernel
theorem dX6_wipeFor_88 : decode cX6_wipeFor 88 = .ok (.aload_n 0, 1) := by decide +kernel
theorem dX6_wipeFor_89 : decode cX6_wipeFor 89 = .ok (.iload_n 2, 1) := by decide +kernel
theorem dX6_wipeFor_90 : decode cX6_wipeFor 90 = .ok (.putfield 18, 3) := by decide +kernel
theorem dX6_wipeFor_93 : decode cX6_wipeFor 93 = .ok (.iload_n 3, 1) := by decide +kernel
theorem dX6_wipeFor_94 : decode cX6_wipeFor 94 = .ok (.iload_n 2, 1) := by decide +kernel
theorem dX6_wipeFor_95 : decode cX6_wipeFor 95 = .ok (.isub, 1) := by decide +kernel
theorem dX6_wipeFor_96 : decode cX6_wipeFor 96 = .ok (.ireturn, 1) := by decide +kernel
theorem dX6_copyFrom_0 : decode cX6_copyFrom 0 = .ok (.aload_n 1, 1) := by decide +kernel
theorem dX6_copyFrom_1 : decode cX6_copyFrom 1 = .ok (.getfield 9, 3) := by decide +kernel
theorem dX6_copyFrom_4 : decode cX6_copyFrom 4 = .ok (.aload_n 0, 1) := by decide +kernel
theorem dX6_copyFrom_5 : decode cX6_copyFrom 5 = .ok (.getfield 9, 3) := by decide +kernel
theorem dX6_copyFrom_8 : decode cX6_copyFrom 8 = .ok (.invokestatic 26, 3) := by decide +kernel
theorem dX6_copyFrom_11 : decode cX6_copyFrom 11 = .ok (.aload_n 1, 1) := by decide +kernel
theorem dX6_copyFrom_12 : decode cX6_copyFrom 12 = .ok (.getfield 15, 3) := by decide +kernel
theorem dX6_copyFrom_15 : decode cX6_copyFrom 15 = .ok (.aload_n 0, 1) := by decide +kernel
theorem dX6_copyFrom_16 : decode cX6_copyFrom 16 = .ok (.getfield 15, 3) := by decide +kernel
theorem dX6_copyFrom_19 : decode cX6_copyFrom 19 = .ok (.invokestatic 26, 3) := by decide +kernel
theorem dX6_copyFrom_22 : decode cX6_copyFrom 22 = .ok (.aload_n 0, 1) := by decide +kernel
theorem dX6_copyFrom_23 : decode cX6_copyFrom 23 = .ok (.aload_n 1, 1) := by decide +kernel
theorem dX6_copyFrom_24 : decode cX6_copyFrom 24 = .ok (.getfield 18, 3) := by decide +kernel
theorem dX6_copyFrom_27 : decode cX6_copyFrom 27 = .ok (.putfield 18, 3) := by decide +kernel
theorem dX6_copyFrom_30 : decode cX6_copyFrom 30 = .ok (.return_, 1) := by decide +kernel
theorem dX7_takesNumber_0 : decode cX7_takesNumber 0 = .ok (.aload_n 0, 1) := by decide +kernel
theorem dX7_takesNumber_1 : decode cX7_takesNumber 1 = .ok (.getfield 76, 3) := by decide +kernel
theorem dX7_takesNumber_4 : decode cX7_takesNumber 4 = .ok (.ifCond .le 7, 3) := by decide +kernel
theorem dX7_takesNumber_7 : decode cX7_takesNumber 7 = .ok (.iconst 1, 1) := by decide +kernel
theorem dX7_takesNumber_8 : decode cX7_takesNumber 8 = .ok (.goto 4, 3) := by decide +kernel
theorem dX7_takesNumber_11 : decode cX7_takesNumber 11 = .ok (.iconst 0, 1) := by decide +kernel
theorem dX7_takesNumber_12 : decode cX7_takesNumber 12 = .ok (.ireturn, 1) := by decide +kernel
theorem dX7_ofSetting_0 : decode cX7_ofSetting 0 = .ok (.getstatic 79, 3) := by decide +kernel
theorem dX7_ofSetting_3 : decode cX7_ofSetting 3 = .ok (.astore_n 1, 1) := by decide +kernel
theorem dX7_ofSetting_4 : decode cX7_ofSetting 4 = .ok (.aload_n 1, 1) := by decide +kernel
theorem dX7_ofSetting_5 : decode cX7_ofSetting 5 = .ok (.arraylength, 1) := by decide +kernel
theorem dX7_ofSetting_6 : decode cX7_ofSetting 6 = .ok (.istore_n 2, 1) := by decide +kernel
theorem dX7_ofSetting_7 : decode cX7_ofSetting 7 = .ok (.iconst 0, 1) := by decide +kernel
theorem dX7_ofSetting_8 : decode cX7_ofSetting 8 = .ok (.istore_n 3, 1) := by decide +kernel
theorem dX7_ofSetting_9 : decode cX7_ofSetting 9 = .ok (.iload_n 3, 1) := by decide +kernel
theorem dX7_ofSetting_10 : decode cX7_ofSetting 10 = .ok (.iload_n 2, 1) := by decide +kernel
theorem dX7_ofSetting_11 : decode cX7_ofSetting 11 = .ok (.if_icmp .ge 31, 3) := by decide +kernel
theorem dX7_ofSetting_14 : decode cX7_ofSetting 14 = .ok (.aload_n 1, 1) := by decide +kernel
theorem dX7_ofSetting_15 : decode cX7_ofSetting 15 = .ok (.iload_n 3, 1) := by decide +kernel
theorem dX7_ofSetting_16 : decode cX7_ofSetting 16 = .ok (.aaload, 1) := by decide +kernel
theorem dX7_ofSetting_17 : decode cX7_ofSetting 17 = .ok (.astore 4, 2) := by decide +kernel
theorem dX7_ofSetting_19 : decode cX7_ofSetting 19 = .ok (.aload 4, 2) := by decide +kernel
theorem dX7_ofSetting_21 : decode cX7_ofSetting 21 = .ok (.getfield 65, 3) := by decide +kernel
theorem dX7_ofSetting_24 : decode cX7_ofSetting 24 = .ok (.iload_n 0, 1) := by decide +kernel
theorem dX7_ofSetting_25 : decode cX7_ofSetting 25 = .ok (.if_icmp .ne 11, 3) := by decide +kernel
theorem dX7_ofSetting_28 : decode cX7_ofSetting 28 = .ok (.iload_n 0, 1) := by decide +kernel
theorem dX7_ofSetting_29 : decode cX7_ofSetting 29 = .ok (.iconst (-1), 1) := by decide +kernel
theorem dX7_ofSetting_30 : decode cX7_ofSetting 30 = .ok (.if_icmp .eq 6, 3) := by decide +kernel
theorem dX7_ofSetting_33 : decode cX7_ofSetting 33 = .ok (.aload 4, 2) := by decide +kernel
theorem dX7_ofSetting_35 : decode cX7_ofSetting 35 = .ok (.areturn, 1) := by decide +kernel
theorem dX7_ofSetting_36 : decode cX7_ofSetting 36 = .ok (.iinc 3 1, 3) := by decide +kernel
theorem dX7_ofSetting_39 : decode cX7_ofSetting 39 = .ok (.goto (-30), 3) := by decide +kernel
theorem dX7_ofSetting_42 : decode cX7_ofSetting 42 = .ok (.aconst_null, 1) := by decide +kernel
theorem dX7_ofSetting_43 : decode cX7_ofSetting 43 = .ok (.areturn, 1) := by decide +kernel
theorem dX8_init_0 : decode cX8_init 0 = .ok (.aload_n 0, 1) := by decide +kernel
theorem dX8_init_1 : decode cX8_init 1 = .ok (.invokespecial 1, 3) := by decide +kernel
theorem dX8_init_4 : decode cX8_init 4 = .ok (.aload_n 0, 1) := by decide +kernel
theorem dX8_init_5 : decode cX8_init 5 = .ok (.new 7, 3) := by decide +kernel
theorem dX8_init_8 : decode cX8_init 8 = .ok (.dup, 1) := by decide +kernel
theorem dX8_init_9 : decode cX8_init 9 = .ok (.invokespecial 9, 3) := by decide +kernel
theorem dX8_init_12 : decode cX8_init 12 = .ok (.putfield 10, 3) := by decide +kernel
theorem dX8_init_15 : decode cX8_init 15 = .ok (.aload_n 0, 1) := by decide +kernel
theorem dX8_init_16 : decode cX8_init 16 = .ok (.new 7, 3) := by decide +kernel
theorem dX8_init_19 : decode cX8_init 19 = .ok (.dup, 1) := by decide +kernel
theorem dX8_init_20 : decode cX8_init 20 = .ok (.invokespecial 9, 3) := by decide +kernel
theorem dX8_init_23 : decode cX8_init 23 = .ok (.putfield 16, 3) := by decide +kernel
theorem dX8_init_26 : decode cX8_init 26 = .ok (.aload_n 0, 1) := by decide +kernel
theorem dX8_init_27 : decode cX8_init 27 = .ok (.new 19, 3) := by decide +kernel
theorem dX8_init_30 : decode cX8_init 30 = .ok (.dup, 1) := by decide +kernel
theorem dX8_init_31 : decode cX8_init 31 = .ok (.invokespecial 21, 3) := by decide +kernel
theorem dX8_init_34 : decode cX8_init 34 = .ok (.putfield 22, 3) := by decide +kernel
theorem dX8_init_37 : decode cX8_init 37 = .ok (.aload_n 0, 1) := by decide +kernel
theorem dX8_init_38 : decode cX8_init 38 = .ok (.new 7, 3) := by decide +kernel
theorem dX8_init_41 : decode cX8_init 41 = .ok (.dup, 1) := by decide +kernel
theorem dX8_init_42 : decode cX8_init 42 = .ok (.invokespecial 9, 3) := by decide +kernel
theorem dX8_init_45 : decode cX8_init 45 = .ok (.putfield 26, 3) := by decide +kernel
theorem dX8_init_48 : decode cX8_init 48 = .ok (.aload_n 0, 1) := by decide +kernel
theorem dX8_init_49 : decode cX8_init 49 = .ok (.new 7, 3) := by decide +kernel
theorem dX8_init_52 : decode cX8_init 52 = .ok (.dup, 1) := by decide +kernel
theorem dX8_init_53 : decode cX8_init 53 = .ok (.invokespecial 9, 3) := by decide +kernel
theorem dX8_init_56 : decode cX8_init 56 = .ok (.putfield 29, 3) := by decide +kernel
theorem dX8_init_59 : decode cX8_init 59 = .ok (.aload_n 0, 1) := by decide +kernel
theorem dX8_init_60 : decode cX8_init 60 = .ok (.iconst 0, 1) := by decide +kernel
theorem dX8_init_61 : decode cX8_init 61 = .ok (.putfield 32, 3) := by decide +kernel
theorem dX8_init_64 : decode cX8_init 64 = .ok (.aload_n 0, 1) := by decide +kernel
theorem dX8_init_65 : decode cX8_init 65 = .ok (.new 36, 3) := by decide +kernel
theorem dX8_init_68 : decode cX8_init 68 = .ok (.dup, 1) := by decide +kernel
theorem dX8_init_69 : decode cX8_init 69 = .ok (.invokespecial 38, 3) := by decide +kernel
theorem dX8_init_72 : decode cX8_init 72 = .ok (.putfield 39, 3) := by decide +kernel
theorem dX8_init_75 : decode cX8_init 75 = .ok (.aload_n 0, 1) := by decide +kernel
theorem dX8_init_76 : decode cX8_init 76 = .ok (.sipush 700, 3) := by decide +kernel
theorem dX8_init_79 : decode cX8_init 79 = .ok (.newarray .int, 2) := by decide +kernel
theorem dX8_init_81 : decode cX8_init 81 = .ok (.putfield 43, 3) := by decide +kernel
theorem dX8_init_84 : decode cX8_init 84 = .ok (.aload_n 0, 1) := by decide +kernel
theorem dX8_init_85 : decode cX8_init 85 = .ok (.iconst 0, 1) := by decide +kernel
theorem dX8_init_86 : decode cX8_init 86 = .ok (.putfield 47, 3) := by decide +kernel
theorem dX8_init_89 : decode cX8_init 89 = .ok (.aload_n 0, 1) := by decide +kernel
theorem dX8_init_90 : decode cX8_init 90 = .ok (.new 50, 3) := by decide +kernel
theorem dX8_init_93 : decode cX8_init 93 = .ok (.dup, 1) := by decide +kernel
theorem dX8_init_94 : decode cX8_init 94 = .ok (.invokespecial 52, 3) := by decide +kernel
theorem dX8_init_97 : decode cX8_init 97 = .ok (.putfield 53, 3) := by decide +kernel
theorem dX8_init_100 : decode cX8_init 100 = .ok (.aload_n 0, 1) := by decide +kernel
theorem dX8_init_101 : decode cX8_init 101 = .ok (.getfield 39, 3) := by decide +kernel
theorem dX8_init_104 : decode cX8_init 104 = .ok (.ldc 57, 2) := by decide +kernel
theorem dX8_init_106 : decode cX8_init 106 = .ok (.invokevirtual 59, 3) := by decide +kernel
theorem dX8_init_109 : decode cX8_init 109 = .ok (.aload_n 0, 1) := by decide +kernel
theorem dX8_init_110 : decode cX8_init 110 = .ok (.invokevirtual 63, 3) := by decide +kernel
theorem dX8_init_113 : decode cX8_init 113 = .ok (.pop, 1) := by decide +kernel
theorem dX8_init_114 : decode cX8_init 114 = .ok (.return_, 1) := by decide +kernel
theorem dX8_load_0 : decode cX8_load 0 = .ok (.iload_n 1, 1) := by decide +kernel
theorem dX8_load_1 : decode cX8_load 1 = .ok (.iconst 0, 1) := by decide +kernel
theorem dX8_load_2 : decode cX8_load 2 = .ok (.iconst 2, 1) := by decide +kernel
theorem dX8_load_3 : decode cX8_load 3 = .ok (.invokestatic 71, 3) := by decide +kernel
theorem dX8_load_6 : decode cX8_load 6 = .ok (.aload_n 0, 1) := by decide +kernel
theorem dX8_load_7 : decode cX8_load 7 = .ok (.getfield 39, 3) := by decide +kernel
theorem dX8_load_10 : decode cX8_load 10 = .ok (.iload_n 1, 1) := by decide +kernel
theorem dX8_load_11 : decode cX8_load 11 = .ok (.ifCond .ne 8, 3) := by decide +kernel
theorem dX8_load_14 : decode cX8_load 14 = .ok (.ldc 57, 2) := by decide +kernel
theorem dX8_load_16 : decode cX8_load 16 = .ok (.goto 15, 3) := by decide +kernel
theorem dX8_load_19 : decode cX8_load 19 = .ok (.iload_n 1, 1) := by decide +kernel
theorem dX8_load_20 : decode cX8_load 20 = .ok (.iconst 1, 1) := by decide +kernel
theorem dX8_load_21 : decode cX8_load 21 = .ok (.if_icmp .ne 8, 3) := by decide +kernel
theorem dX8_load_24 : decode cX8_load 24 = .ok (.ldc 79, 2) := by decide +kernel
theorem dX8_load_26 : decode cX8_load 26 = .ok (.goto 5, 3) := by decide +kernel
theorem dX8_load_29 : decode cX8_load 29 = .ok (.ldc 81, 2) := by decide +kernel
theorem dX8_load_31 : decode cX8_load 31 = .ok (.invokevirtual 59, 3) := by decide +kernel
theorem dX8_load_34 : decode cX8_load 34 = .ok (.aload_n 0, 1) := by decide +kernel
theorem dX8_load_35 : decode cX8_load 35 = .ok (.invokevirtual 63, 3) := by decide +kernel
theorem dX8_load_38 : decode cX8_load 38 = .ok (.ireturn, 1) := by decide +kernel
theorem dX8_size_0 : decode cX8_size 0 = .ok (.iload_n 1, 1) := by decide +kernel
theorem dX8_size_1 : decode cX8_size 1 = .ok (.iconst 0, 1) := by decide +kernel
theorem dX8_size_2 : decode cX8_size 2 = .ok (.bipush 13, 2) := by decide +kernel
theorem dX8_size_4 : decode cX8_size 4 = .ok (.invokestatic 71, 3) := by decide +kernel
theorem dX8_size_7 : decode cX8_size 7 = .ok (.iload_n 1, 1) := by decide +kernel
theorem dX8_size_8 : decode cX8_size 8 = .ok (.tableswitch 49 11 13 #[28, 36, 41], 28) := by decide +kernel
theorem dX8_size_36 : decode cX8_size 36 = .ok (.aload_n 0, 1) := by decide +kernel
theorem dX8_size_37 : decode cX8_size 37 = .ok (.getfield 22, 3) := by decide +kernel
theorem dX8_size_40 : decode cX8_size 40 = .ok (.getfield 83, 3) := by decide +kernel
theorem dX8_size_43 : decode cX8_size 43 = .ok (.ireturn, 1) := by decide +kernel
theorem dX8_size_44 : decode cX8_size 44 = .ok (.aload_n 0, 1) := by decide +kernel
theorem dX8_size_45 : decode cX8_size 45 = .ok (.getfield 47, 3) := by decide +kernel
theorem dX8_size_48 : decode cX8_size 48 = .ok (.ireturn, 1) := by decide +kernel
theorem dX8_size_49 : decode cX8_size 49 = .ok (.aload_n 0, 1) := by decide +kernel
theorem dX8_size_50 : decode cX8_size 50 = .ok (.getfield 53, 3) := by decide +kernel
theorem dX8_size_53 : decode cX8_size 53 = .ok (.invokevirtual 86, 3) := by decide +kernel
theorem dX8_size_56 : decode cX8_size 56 = .ok (.ireturn, 1) := by decide +kernel
theorem dX8_size_57 : decode cX8_size 57 = .ok (.aload_n 0, 1) := by decide +kernel
theorem dX8_size_58 : decode cX8_size 58 = .ok (.getfield 10, 3) := by decide +kernel
theorem dX8_size_61 : decode cX8_size 61 = .ok (.iload_n 1, 1) := by decide +kernel
theorem dX8_size_62 : decode cX8_size 62 = .ok (.invokevirtual 89, 3) := by decide +kernel
theorem dX8_size_65 : decode cX8_size 65 = .ok (.ireturn, 1) := by decide +kernel
theorem dX8_setting_0 : decode cX8_setting 0 = .ok (.iload_n 1, 1) := by decide +kernel
theorem dX8_setting_1 : decode cX8_setting 1 = .ok (.iconst 0, 1) := by decide +kernel
theorem dX8_setting_2 : decode cX8_setting 2 = .ok (.iconst 5, 1) := by decide +kernel
theorem dX8_setting_3 : decode cX8_setting 3 = .ok (.invokestatic 71, 3) := by decide +kernel
theorem dX8_setting_6 : decode cX8_setting 6 = .ok (.aload_n 0, 1) := by decide +kernel
theorem dX8_setting_7 : decode cX8_setting 7 = .ok (.getfield 10, 3) := by decide +kernel
theorem dX8_setting_10 : decode cX8_setting 10 = .ok (.iload_n 1, 1) := by decide +kernel
theorem dX8_setting_11 : decode cX8_setting 11 = .ok (.invokevirtual 93, 3) := by decide +kernel
theorem dX8_setting_14 : decode cX8_setting 14 = .ok (.ireturn, 1) := by decide +kernel
theorem dX8_flat_0 : decode cX8_flat 0 = .ok (.aload_n 0, 1) := by decide +kernel
theorem dX8_flat_1 : decode cX8_flat 1 = .ok (.iload_n 1, 1) := by decide +kernel
theorem dX8_flat_2 : decode cX8_flat 2 = .ok (.invokevirtual 96, 3) := by decide +kernel
theorem dX8_flat_5 : decode cX8_flat 5 = .ok (.iload_n 2, 1) := by decide +kernel
theorem dX8_flat_6 : decode cX8_flat 6 = .ok (.iconst 0, 1) := by decide +kernel
theorem dX8_flat_7 : decode cX8_flat 7 = .ok (.bipush 10, 2) := by decide +kernel
theorem dX8_flat_9 : decode cX8_flat 9 = .ok (.invokestatic 71, 3) := by decide +kernel
theorem dX8_flat_12 : decode cX8_flat 12 = .ok (.aload_n 0, 1) := by decide +kernel
theorem dX8_flat_13 : decode cX8_flat 13 = .ok (.getfield 10, 3) := by decide +kernel
theorem dX8_flat_16 : decode cX8_flat 16 = .ok (.iload_n 1, 1) := by decide +kernel
theorem dX8_flat_17 : decode cX8_flat 17 = .ok (.iload_n 2, 1) := by decide +kernel
theorem dX8_flat_18 : decode cX8_flat 18 = .ok (.invokevirtual 99, 3) := by decide +kernel
theorem dX8_flat_21 : decode cX8_flat 21 = .ok (.ireturn, 1) := by decide +kernel
theorem dX8_queued_0 : decode cX8_queued 0 = .ok (.aload_n 0, 1) := by decide +kernel
theorem dX8_queued_1 : decode cX8_queued 1 = .ok (.getfield 10, 3) := by decide +kernel
theorem dX8_queued_4 : decode cX8_queued 4 = .ok (.getfield 103, 3) := by decide +kernel
theorem dX8_queued_7 : decode cX8_queued 7 = .ok (.iload_n 1, 1) := by decide +kernel
theorem dX8_queued_8 : decode cX8_queued 8 = .ok (.invokevirtual 107, 3) := by decide +kernel
theorem dX8_queued_11 : decode cX8_queued 11 = .ok (.ireturn, 1) := by decide +kernel
theorem dX8_message_0 : decode cX8_message 0 = .ok (.iload_n 1, 1) := by decide +kernel
theorem dX8_message_1 : decode cX8_message 1 = .ok (.ifCond .lt 17, 3) := by decide +kernel
theorem dX8_message_4 : decode cX8_message 4 = .ok (.iload_n 1, 1) := by decide +kernel
theorem dX8_message_5 : decode cX8_message 5 = .ok (.aload_n 0, 1) := by decide +kernel
theorem dX8_message_6 : decode cX8_message 6 = .ok (.getfield 10, 3) := by decide +kernel
theorem dX8_message_9 : decode cX8_message 9 = .ok (.getfield 112, 3) := by decide +kernel
theorem dX8_message_12 : decode cX8_message 12 = .ok (.getfield 116, 3) := by decide +kernel
theorem dX8_message_15 : decode cX8_message 15 = .ok (.if_icmp .lt 13, 3) := by decide +kernel
theorem dX8_message_18 : decode cX8_message 18 = .ok (.new 120, 3) := by decide +kernel
theorem dX8_message_21 : decode cX8_message 21 = .ok (.dup, 1) := by decide +kernel
theorem dX8_message_22 : decode cX8_message 22 = .ok (.ldc 122, 2) := by decide +kernel
theorem dX8_message_24 : decode cX8_message 24 = .ok (.invokespecial 124, 3) := by decide +kernel
theorem dX8_message_27 : decode cX8_message 27 = .ok (.athrow, 1) := by decide +kernel
theorem dX8_message_28 : decode cX8_message 28 = .ok (.iload_n 2, 1) := by decide +kernel
theorem dX8_message_29 : decode cX8_message 29 = .ok (.iconst 0, 1) := by decide +kernel
theorem dX8_message_30 : decode cX8_message 30 = .ok (.iconst 1, 1) := by decide +kernel
theorem dX8_message_31 : decode cX8_message 31 = .ok (.invokestatic 71, 3) := by decide +kernel
theorem dX8_message_34 : decode cX8_message 34 = .ok (.iload_n 2, 1) := by decide +kernel
theorem dX8_message_35 : decode cX8_message 35 = .ok (.ifCond .ne 17, 3) := by decide +kernel
theorem dX8_message_38 : decode cX8_message 38 = .ok (.aload_n 0, 1) := by decide +kernel
theorem dX8_message_39 : decode cX8_message 39 = .ok (.getfield 10, 3) := by decide +kernel
theorem dX8_message_42 : decode cX8_message 42 = .ok (.getfield 112, 3) := by decide +kernel
theorem dX8_message_45 : decode cX8_message 45 = .ok (.iload_n 1, 1) := by decide +kernel
theorem dX8_message_46 : decode cX8_message 46 = .ok (.invokevirtual 126, 3) := by decide +kernel
theorem dX8_message_49 : decode cX8_message 49 = .ok (.goto 14, 3) := by decide +kernel
theorem dX8_message_52 : decode cX8_message 52 = .ok (.aload_n 0, 1) := by decide +kernel
theorem dX8_message_53 : decode cX8_message 53 = .ok (.getfield 10, 3) := by decide +kernel
theorem dX8_message_56 : decode cX8_message 56 = .ok (.getfield 112, 3) := by decide +kernel
theorem dX8_message_59 : decode cX8_message 59 = .ok (.iload_n 1, 1) := by decide +kernel
theorem dX8_message_60 : decode cX8_message 60 = .ok (.invokevirtual 129, 3) := by decide +kernel
theorem dX8_message_63 : decode cX8_message 63 = .ok (.ireturn, 1) := by decide +kernel
theorem dX8_heard_0 : decode cX8_heard 0 = .ok (.aload_n 0, 1) := by decide +kernel
theorem dX8_heard_1 : decode cX8_heard 1 = .ok (.iload_n 1, 1) := by decide +kernel
theorem dX8_heard_2 : decode cX8_heard 2 = .ok (.invokevirtual 96, 3) := by decide +kernel
theorem dX8_heard_5 : decode cX8_heard 5 = .ok (.aload_n 0, 1) := by decide +kernel
theorem dX8_heard_6 : decode cX8_heard 6 = .ok (.iload_n 2, 1) := by decide +kernel
theorem dX8_heard_7 : decode cX8_heard 7 = .ok (.invokevirtual 96, 3) := by decide +kernel
theorem dX8_heard_10 : decode cX8_heard 10 = .ok (.aload_n 0, 1) := by decide +kernel
theorem dX8_heard_11 : decode cX8_heard 11 = .ok (.getfield 10, 3) := by decide +kernel
theorem dX8_heard_14 : decode cX8_heard 14 = .ok (.iload_n 1, 1) := by decide +kernel
theorem dX8_heard_15 : decode cX8_heard 15 = .ok (.iload_n 2, 1) := by decide +kernel
theorem dX8_heard_16 : decode cX8_heard 16 = .ok (.invokevirtual 132, 3) := by decide +kernel
theorem dX8_heard_19 : decode cX8_heard 19 = .ok (.ireturn, 1) := by decide +kernel
theorem dX8_cost_0 : decode cX8_cost 0 = .ok (.iload_n 1, 1) := by decide +kernel
theorem dX8_cost_1 : decode cX8_cost 1 = .ok (.iconst 1, 1) := by decide +kernel
theorem dX8_cost_2 : decode cX8_cost 2 = .ok (.bipush 99, 2) := by decide +kernel
theorem dX8_cost_4 : decode cX8_cost 4 = .ok (.invokestatic 71, 3) := by decide +kernel
theorem dX8_cost_7 : decode cX8_cost 7 = .ok (.aload_n 0, 1) := by decide +kernel
theorem dX8_cost_8 : decode cX8_cost 8 = .ok (.getfield 10, 3) := by decide +kernel
theorem dX8_cost_11 : decode cX8_cost 11 = .ok (.iload_n 1, 1) := by decide +kernel
theorem dX8_cost_12 : decode cX8_cost 12 = .ok (.invokevirtual 149, 3) := by decide +kernel
theorem dX8_cost_15 : decode cX8_cost 15 = .ok (.ireturn, 1) := by decide +kernel
theorem dX8_ifRung_0 : decode cX8_ifRung 0 = .ok (.aload_n 0, 1) := by decide +kernel
theorem dX8_ifRung_1 : decode cX8_ifRung 1 = .ok (.iload_n 1, 1) := by decide +kernel
theorem dX8_ifRung_2 : decode cX8_ifRung 2 = .ok (.invokevirtual 96, 3) := by decide +kernel
theorem dX8_ifRung_5 : decode cX8_ifRung 5 = .ok (.aload_n 0, 1) := by decide +kernel
theorem dX8_ifRung_6 : decode cX8_ifRung 6 = .ok (.getfield 10, 3) := by decide +kernel
theorem dX8_ifRung_9 : decode cX8_ifRung 9 = .ok (.getstatic 200, 3) := by decide +kernel
theorem dX8_ifRung_12 : decode cX8_ifRung 12 = .ok (.iload_n 1, 1) := by decide +kernel
theorem dX8_ifRung_13 : decode cX8_ifRung 13 = .ok (.iconst 1, 1) := by decide +kernel
theorem dX8_ifRung_14 : decode cX8_ifRung 14 = .ok (.invokevirtual 181, 3) := by decide +kernel
theorem dX8_ifRung_17 : decode cX8_ifRung 17 = .ok (.istore_n 2, 1) := by decide +kernel
theorem dX8_ifRung_18 : decode cX8_ifRung 18 = .ok (.iload_n 2, 1) := by decide +kernel
theorem dX8_ifRung_19 : decode cX8_ifRung 19 = .ok (.ifCond .eq 7, 3) := by decide +kernel
theorem dX8_ifRung_22 : decode cX8_ifRung 22 = .ok (.iload_n 2, 1) := by decide +kernel
theorem dX8_ifRung_23 : decode cX8_ifRung 23 = .ok (.goto 11, 3) := by decide +kernel
theorem dX8_ifRung_26 : decode cX8_ifRung 26 = .ok (.aload_n 0, 1) := by decide +kernel
theorem dX8_ifRung_27 : decode cX8_ifRung 27 = .ok (.getfield 10, 3) := by decide +kernel
theorem dX8_ifRung_30 : decode cX8_ifRung 30 = .ok (.iload_n 1, 1) := by decide +kernel
theorem dX8_ifRung_31 : decode cX8_ifRung 31 = .ok (.invokevirtual 203, 3) := by decide +kernel
theorem dX8_ifRung_34 : decode cX8_ifRung 34 = .ok (.ireturn, 1) := by decide +kernel
theorem dX8_account_0 : decode cX8_account 0 = .ok (.iload_n 1, 1) := by decide +kernel
theorem dX8_account_1 : decode cX8_account 1 = .ok (.iconst 0, 1) := by decide +kernel
theorem dX8_account_2 : decode cX8_account 2 = .ok (.bipush 10, 2) := by decide +kernel
theorem dX8_account_4 : decode cX8_account 4 = .ok (.invokestatic 71, 3) := by decide +kernel
theorem dX8_account_7 : decode cX8_account 7 = .ok (.aload_n 0, 1) := by decide +kernel
theorem dX8_account_8 : decode cX8_account 8 = .ok (.getfield 10, 3) := by decide +kernel
theorem dX8_account_11 : decode cX8_account 11 = .ok (.iload_n 1, 1) := by decide +kernel
theorem dX8_account_12 : decode cX8_account 12 = .ok (.invokevirtual 206, 3) := by decide +kernel
theorem dX8_account_15 : decode cX8_account 15 = .ok (.ireturn, 1) := by decide +kernel
theorem dX8_want_0 : decode cX8_want 0 = .ok (.aload_n 0, 1) := by decide +kernel
theorem dX8_want_1 : decode cX8_want 1 = .ok (.getstatic 175, 3) := by decide +kernel
theorem dX8_want_4 : decode cX8_want 4 = .ok (.iload_n 1, 1) := by decide +kernel
theorem dX8_want_5 : decode cX8_want 5 = .ok (.iload_n 2, 1) := by decide +kernel
theorem dX8_want_6 : decode cX8_want 6 = .ok (.invokevirtual 229, 3) := by decide +kernel
theorem dX8_want_9 : decode cX8_want 9 = .ok (.ireturn, 1) := by decide +kernel
theorem dX8_drop_0 : decode cX8_drop 0 = .ok (.aload_n 0, 1) := by decide +kernel
theorem dX8_drop_1 : decode cX8_drop 1 = .ok (.getstatic 232, 3) := by decide +kernel
theorem dX8_drop_4 : decode cX8_drop 4 = .ok (.iload_n 1, 1) := by decide +kernel
theorem dX8_drop_5 : decode cX8_drop 5 = .ok (.iconst 0, 1) := by decide +kernel
theorem dX8_drop_6 : decode cX8_drop 6 = .ok (.invokevirtual 229, 3) := by decide +kernel
theorem dX8_drop_9 : decode cX8_drop 9 = .ok (.ireturn, 1) := by decide +kernel
theorem dX8_hang_0 : decode cX8_hang 0 = .ok (.aload_n 0, 1) := by decide +kernel
theorem dX8_hang_1 : decode cX8_hang 1 = .ok (.getstatic 235, 3) := by decide +kernel
theorem dX8_hang_4 : decode cX8_hang 4 = .ok (.iload_n 1, 1) := by decide +kernel
theorem dX8_hang_5 : decode cX8_hang 5 = .ok (.iconst 0, 1) := by decide +kernel
theorem dX8_hang_6 : decode cX8_hang 6 = .ok (.invokevirtual 229, 3) := by decide +kernel
theorem dX8_hang_9 : decode cX8_hang 9 = .ok (.ireturn, 1) := by decide +kernel
theorem dX8_ring_0 : decode cX8_ring 0 = .ok (.aload_n 0, 1) := by decide +kernel
theorem dX8_ring_1 : decode cX8_ring 1 = .ok (.getstatic 200, 3) := by decide +kernel
theorem dX8_ring_4 : decode cX8_ring 4 = .ok (.iload_n 1, 1) := by decide +kernel
theorem dX8_ring_5 : decode cX8_ring 5 = .ok (.iload_n 2, 1) := by decide +kernel
theorem dX8_ring_6 : decode cX8_ring 6 = .ok (.invokevirtual 229, 3) := by decide +kernel
theorem dX8_ring_9 : decode cX8_ring 9 = .ok (.ireturn, 1) := by decide +kernel
theorem dX8_pay_0 : decode cX8_pay 0 = .ok (.aload_n 0, 1) := by decide +kernel
theorem dX8_pay_1 : decode cX8_pay 1 = .ok (.getstatic 238, 3) := by decide +kernel
theorem dX8_pay_4 : decode cX8_pay 4 = .ok (.iload_n 1, 1) := by decide +kernel
theorem dX8_pay_5 : decode cX8_pay 5 = .ok (.iload_n 2, 1) := by decide +kernel
theorem dX8_pay_6 : decode cX8_pay 6 = .ok (.invokevirtual 229, 3) := by decide +kernel
theorem dX8_pay_9 : decode cX8_pay 9 = .ok (.ireturn, 1) := by decide +kernel
theorem dX8_setCurious_0 : decode cX8_setCurious 0 = .ok (.aload_n 0, 1) := by decide +kernel
theorem dX8_setCurious_1 : decode cX8_setCurious 1 = .ok (.iload_n 1, 1) := by decide +kernel
theorem dX8_setCurious_2 : decode cX8_setCurious 2 = .ok (.invokevirtual 96, 3) := by decide +kernel
theorem dX8_setCurious_5 : decode cX8_setCurious 5 = .ok (.aload_n 0, 1) := by decide +kernel
theorem dX8_setCurious_6 : decode cX8_setCurious 6 = .ok (.getfield 10, 3) := by decide +kernel
theorem dX8_setCurious_9 : decode cX8_setCurious 9 = .ok (.iload_n 1, 1) := by decide +kernel
theorem dX8_setCurious_10 : decode cX8_setCurious 10 = .ok (.iconst 1, 1) := by decide +kernel
theorem dX8_setCurious_11 : decode cX8_setCurious 11 = .ok (.invokevirtual 172, 3) := by decide +kernel
theorem dX8_setCurious_14 : decode cX8_setCurious 14 = .ok (.iconst 1, 1) := by decide +kernel
theorem dX8_setCurious_15 : decode cX8_setCurious 15 = .ok (.if_icmp .ne 7, 3) := by decide +kernel
theorem dX8_setCurious_18 : decode cX8_setCurious 18 = .ok (.iconst 1, 1) := by decide +kernel
theorem dX8_setCurious_19 : decode cX8_setCurious 19 = .ok (.goto 4, 3) := by decide +kernel
theorem dX8_setCurious_22 : decode cX8_setCurious 22 = .ok (.iconst 0, 1) := by decide +kernel
theorem dX8_setCurious_23 : decode cX8_setCurious 23 = .ok (.istore_n 3, 1) := by decide +kernel
theorem dX8_setCurious_24 : decode cX8_setCurious 24 = .ok (.aload_n 0, 1) := by decide +kernel
theorem dX8_setCurious_25 : decode cX8_setCurious 25 = .ok (.getfield 22, 3) := by decide +kernel
theorem dX8_setCurious_28 : decode cX8_setCurious 28 = .ok (.aload_n 0, 1) := by decide +kernel
theorem dX8_setCurious_29 : decode cX8_setCurious 29 = .ok (.getfield 10, 3) := by decide +kernel
theorem dX8_setCurious_32 : decode cX8_setCurious 32 = .ok (.invokevirtual 241, 3) := by decide +kernel
theorem dX8_setCurious_35 : decode cX8_setCurious 35 = .ok (.aload_n 0, 1) := by decide +kernel
theorem dX8_setCurious_36 : decode cX8_setCurious 36 = .ok (.getfield 10, 3) := by decide +kernel
theorem dX8_setCurious_39 : decode cX8_setCurious 39 = .ok (.iload_n 1, 1) := by decide +kernel
theorem dX8_setCurious_40 : decode cX8_setCurious 40 = .ok (.iconst 1, 1) := by decide +kernel
theorem dX8_setCurious_41 : decode cX8_setCurious 41 = .ok (.iload_n 2, 1) := by decide +kernel
theorem dX8_setCurious_42 : decode cX8_setCurious 42 = .ok (.ifCond .eq 7, 3) := by decide +kernel
theorem dX8_setCurious_45 : decode cX8_setCurious 45 = .ok (.iconst 1, 1) := by decide +kernel
theorem dX8_setCurious_46 : decode cX8_setCurious 46 = .ok (.goto 4, 3) := by decide +kernel
theorem dX8_setCurious_49 : decode cX8_setCurious 49 = .ok (.iconst 0, 1) := by decide +kernel
theorem dX8_setCurious_50 : decode cX8_setCurious 50 = .ok (.invokevirtual 244, 3) := by decide +kernel
theorem dX8_setCurious_53 : decode cX8_setCurious 53 = .ok (.iload_n 3, 1) := by decide +kernel
theorem dX8_setCurious_54 : decode cX8_setCurious 54 = .ok (.ireturn, 1) := by decide +kernel
theorem dX8_set_0 : decode cX8_set 0 = .ok (.iload_n 1, 1) := by decide +kernel
theorem dX8_set_1 : decode cX8_set 1 = .ok (.invokestatic 247, 3) := by decide +kernel
theorem dX8_set_4 : decode cX8_set 4 = .ok (.astore_n 3, 1) := by decide +kernel
theorem dX8_set_5 : decode cX8_set 5 = .ok (.aload_n 3, 1) := by decide +kernel
theorem dX8_set_6 : decode cX8_set 6 = .ok (.ifnonnull 13, 3) := by decide +kernel
theorem dX8_set_9 : decode cX8_set 9 = .ok (.new 251, 3) := by decide +kernel
theorem dX8_set_12 : decode cX8_set 12 = .ok (.dup, 1) := by decide +kernel
theorem dX8_set_13 : decode cX8_set 13 = .ok (.ldc 253, 2) := by decide +kernel
theorem dX8_set_15 : decode cX8_set 15 = .ok (.invokespecial 255, 3) := by decide +kernel
theorem dX8_set_18 : decode cX8_set 18 = .ok (.athrow, 1) := by decide +kernel
theorem dX8_set_19 : decode cX8_set 19 = .ok (.iload_n 2, 1) := by decide +kernel
theorem dX8_set_20 : decode cX8_set 20 = .ok (.aload_n 3, 1) := by decide +kernel
theorem dX8_set_21 : decode cX8_set 21 = .ok (.getfield 256, 3) := by decide +kernel
theorem dX8_set_24 : decode cX8_set 24 = .ok (.aload_n 3, 1) := by decide +kernel
theorem dX8_set_25 : decode cX8_set 25 = .ok (.getfield 259, 3) := by decide +kernel
theorem dX8_set_28 : decode cX8_set 28 = .ok (.invokestatic 71, 3) := by decide +kernel
theorem dX8_set_31 : decode cX8_set 31 = .ok (.aload_n 0, 1) := by decide +kernel
theorem dX8_set_32 : decode cX8_set 32 = .ok (.getfield 22, 3) := by decide +kernel
theorem dX8_set_35 : decode cX8_set 35 = .ok (.aload_n 0, 1) := by decide +kernel
theorem dX8_set_36 : decode cX8_set 36 = .ok (.getfield 10, 3) := by decide +kernel
theorem dX8_set_39 : decode cX8_set 39 = .ok (.invokevirtual 241, 3) := by decide +kernel
theorem dX8_set_42 : decode cX8_set 42 = .ok (.aload_n 0, 1) := by decide +kernel
theorem dX8_set_43 : decode cX8_set 43 = .ok (.getfield 10, 3) := by decide +kernel
theorem dX8_set_46 : decode cX8_set 46 = .ok (.aload_n 3, 1) := by decide +kernel
theorem dX8_set_47 : decode cX8_set 47 = .ok (.iconst (-1), 1) := by decide +kernel
theorem dX8_set_48 : decode cX8_set 48 = .ok (.iload_n 2, 1) := by decide +kernel
theorem dX8_set_49 : decode cX8_set 49 = .ok (.invokevirtual 185, 3) := by decide +kernel
theorem dX8_set_52 : decode cX8_set 52 = .ok (.ireturn, 1) := by decide +kernel
theorem dX8_pass_0 : decode cX8_pass 0 = .ok (.iload_n 1, 1) := by decide +kernel
theorem dX8_pass_1 : decode cX8_pass 1 = .ok (.getstatic 262, 3) := by decide +kernel
theorem dX8_pass_4 : decode cX8_pass 4 = .ok (.getfield 256, 3) := by decide +kernel
theorem dX8_pass_7 : decode cX8_pass 7 = .ok (.getstatic 262, 3) := by decide +kernel
theorem dX8_pass_10 : decode cX8_pass 10 = .ok (.getfield 259, 3) := by decide +kernel
theorem dX8_pass_13 : decode cX8_pass 13 = .ok (.invokestatic 71, 3) := by decide +kernel
theorem dX8_pass_16 : decode cX8_pass 16 = .ok (.aload_n 0, 1) := by decide +kernel
theorem dX8_pass_17 : decode cX8_pass 17 = .ok (.getfield 22, 3) := by decide +kernel
theorem dX8_pass_20 : decode cX8_pass 20 = .ok (.aload_n 0, 1) := by decide +kernel
theorem dX8_pass_21 : decode cX8_pass 21 = .ok (.getfield 10, 3) := by decide +kernel
theorem dX8_pass_24 : decode cX8_pass 24 = .ok (.invokevirtual 241, 3) := by decide +kernel
theorem dX8_pass_27 : decode cX8_pass 27 = .ok (.aload_n 0, 1) := by decide +kernel
theorem dX8_pass_28 : decode cX8_pass 28 = .ok (.getfield 10, 3) := by decide +kernel
theorem dX8_pass_31 : decode cX8_pass 31 = .ok (.getstatic 262, 3) := by decide +kernel
theorem dX8_pass_34 : decode cX8_pass 34 = .ok (.iconst (-1), 1) := by decide +kernel
theorem dX8_pass_35 : decode cX8_pass 35 = .ok (.iload_n 1, 1) := by decide +kernel
theorem dX8_pass_36 : decode cX8_pass 36 = .ok (.invokevirtual 185, 3) := by decide +kernel
theorem dX8_pass_39 : decode cX8_pass 39 = .ok (.ireturn, 1) := by decide +kernel
theorem dX8_undo_0 : decode cX8_undo 0 = .ok (.aload_n 0, 1) := by decide +kernel
theorem dX8_undo_1 : decode cX8_undo 1 = .ok (.getfield 22, 3) := by decide +kernel
theorem dX8_undo_4 : decode cX8_undo 4 = .ok (.aload_n 0, 1) := by decide +kernel
theorem dX8_undo_5 : decode cX8_undo 5 = .ok (.getfield 10, 3) := by decide +kernel
theorem dX8_undo_8 : decode cX8_undo 8 = .ok (.invokevirtual 265, 3) := by decide +kernel
theorem dX8_undo_11 : decode cX8_undo 11 = .ok (.ifCond .eq 13, 3) := by decide +kernel
theorem dX8_undo_14 : decode cX8_undo 14 = .ok (.aload_n 0, 1) := by decide +kernel
theorem dX8_undo_15 : decode cX8_undo 15 = .ok (.getfield 22, 3) := by decide +kernel
theorem dX8_undo_18 : decode cX8_undo 18 = .ok (.getfield 83, 3) := by decide +kernel
theorem dX8_undo_21 : decode cX8_undo 21 = .ok (.goto 4, 3) := by decide +kernel
theorem dX8_undo_24 : decode cX8_undo 24 = .ok (.iconst (-1), 1) := by decide +kernel
theorem dX8_undo_25 : decode cX8_undo 25 = .ok (.ireturn, 1) := by decide +kernel
theorem dX8_checksum_0 : decode cX8_checksum 0 = .ok (.lconst 0, 1) := by decide +kernel
theorem dX8_checksum_1 : decode cX8_checksum 1 = .ok (.lstore_n 1, 1) := by decide +kernel
theorem dX8_checksum_2 : decode cX8_checksum 2 = .ok (.iconst 0, 1) := by decide +kernel
theorem dX8_checksum_3 : decode cX8_checksum 3 = .ok (.istore_n 3, 1) := by decide +kernel
theorem dX8_checksum_4 : decode cX8_checksum 4 = .ok (.iload_n 3, 1) := by decide +kernel
theorem dX8_checksum_5 : decode cX8_checksum 5 = .ok (.bipush 10, 2) := by decide +kernel
theorem dX8_checksum_7 : decode cX8_checksum 7 = .ok (.if_icmp .gt 25, 3) := by decide +kernel
theorem dX8_checksum_10 : decode cX8_checksum 10 = .ok (.ldc2_w 284, 3) := by decide +kernel
theorem dX8_checksum_13 : decode cX8_checksum 13 = .ok (.lload_n 1, 1) := by decide +kernel
theorem dX8_checksum_14 : decode cX8_checksum 14 = .ok (.lmul, 1) := by decide +kernel
theorem dX8_checksum_15 : decode cX8_checksum 15 = .ok (.aload_n 0, 1) := by decide +kernel
theorem dX8_checksum_16 : decode cX8_checksum 16 = .ok (.getfield 10, 3) := by decide +kernel
theorem dX8_checksum_19 : decode cX8_checksum 19 = .ok (.iload_n 3, 1) := by decide +kernel
theorem dX8_checksum_20 : decode cX8_checksum 20 = .ok (.invokevirtual 89, 3) := by decide +kernel
theorem dX8_checksum_23 : decode cX8_checksum 23 = .ok (.i2l, 1) := by decide +kernel
theorem dX8_checksum_24 : decode cX8_checksum 24 = .ok (.ladd, 1) := by decide +kernel
theorem dX8_checksum_25 : decode cX8_checksum 25 = .ok (.lstore_n 1, 1) := by decide +kernel
theorem dX8_checksum_26 : decode cX8_checksum 26 = .ok (.iinc 3 1, 3) := by decide +kernel
theorem dX8_checksum_29 : decode cX8_checksum 29 = .ok (.goto (-25), 3) := by decide +kernel
theorem dX8_checksum_32 : decode cX8_checksum 32 = .ok (.iconst 0, 1) := by decide +kernel
theorem dX8_checksum_33 : decode cX8_checksum 33 = .ok (.istore_n 3, 1) := by decide +kernel
theorem dX8_checksum_34 : decode cX8_checksum 34 = .ok (.iload_n 3, 1) := by decide +kernel
theorem dX8_checksum_35 : decode cX8_checksum 35 = .ok (.bipush 6, 2) := by decide +kernel
theorem dX8_checksum_37 : decode cX8_checksum 37 = .ok (.if_icmp .ge 25, 3) := by decide +kernel
theorem dX8_checksum_40 : decode cX8_checksum 40 = .ok (.ldc2_w 284, 3) := by decide +kernel
theorem dX8_checksum_43 : decode cX8_checksum 43 = .ok (.lload_n 1, 1) := by decide +kernel
theorem dX8_checksum_44 : decode cX8_checksum 44 = .ok (.lmul, 1) := by decide +kernel
theorem dX8_checksum_45 : decode cX8_checksum 45 = .ok (.aload_n 0, 1) := by decide +kernel
theorem dX8_checksum_46 : decode cX8_checksum 46 = .ok (.getfield 10, 3) := by decide +kernel
theorem dX8_checksum_49 : decode cX8_checksum 49 = .ok (.iload_n 3, 1) := by decide +kernel
theorem dX8_checksum_50 : decode cX8_checksum 50 = .ok (.invokevirtual 93, 3) := by decide +kernel
theorem dX8_checksum_53 : decode cX8_checksum 53 = .ok (.i2l, 1) := by decide +kernel
theorem dX8_checksum_54 : decode cX8_checksum 54 = .ok (.ladd, 1) := by decide +kernel
theorem dX8_checksum_55 : decode cX8_checksum 55 = .ok (.lstore_n 1, 1) := by decide +kernel
theorem dX8_checksum_56 : decode cX8_checksum 56 = .ok (.iinc 3 1, 3) := by decide +kernel
theorem dX8_checksum_59 : decode cX8_checksum 59 = .ok (.goto (-25), 3) := by decide +kernel
theorem dX8_checksum_62 : decode cX8_checksum 62 = .ok (.iconst 0, 1) := by decide +kernel
theorem dX8_checksum_63 : decode cX8_checksum 63 = .ok (.istore_n 3, 1) := by decide +kernel
theorem dX8_checksum_64 : decode cX8_checksum 64 = .ok (.iload_n 3, 1) := by decide +kernel
theorem dX8_checksum_65 : decode cX8_checksum 65 = .ok (.aload_n 0, 1) := by decide +kernel
theorem dX8_checksum_66 : decode cX8_checksum 66 = .ok (.getfield 10, 3) := by decide +kernel
theorem dX8_checksum_69 : decode cX8_checksum 69 = .ok (.getfield 141, 3) := by decide +kernel
theorem dX8_checksum_72 : decode cX8_checksum 72 = .ok (.if_icmp .ge 16, 3) := by decide +kernel
theorem dX8_checksum_75 : decode cX8_checksum 75 = .ok (.aload_n 0, 1) := by decide +kernel
theorem dX8_checksum_76 : decode cX8_checksum 76 = .ok (.lload_n 1, 1) := by decide +kernel
theorem dX8_checksum_77 : decode cX8_checksum 77 = .ok (.iload_n 3, 1) := by decide +kernel
theorem dX8_checksum_78 : decode cX8_checksum 78 = .ok (.invokevirtual 286, 3) := by decide +kernel
theorem dX8_checksum_81 : decode cX8_checksum 81 = .ok (.lstore_n 1, 1) := by decide +kernel
theorem dX8_checksum_82 : decode cX8_checksum 82 = .ok (.iinc 3 1, 3) := by decide +kernel
theorem dX8_checksum_85 : decode cX8_checksum 85 = .ok (.goto (-21), 3) := by decide +kernel
theorem dX8_checksum_88 : decode cX8_checksum 88 = .ok (.iconst 0, 1) := by decide +kernel
theorem dX8_checksum_89 : decode cX8_checksum 89 = .ok (.istore_n 3, 1) := by decide +kernel
theorem dX8_checksum_90 : decode cX8_checksum 90 = .ok (.iload_n 3, 1) := by decide +kernel
theorem dX8_checksum_91 : decode cX8_checksum 91 = .ok (.aload_n 0, 1) := by decide +kernel
theorem dX8_checksum_92 : decode cX8_checksum 92 = .ok (.getfield 10, 3) := by decide +kernel
theorem dX8_checksum_95 : decode cX8_checksum 95 = .ok (.getfield 112, 3) := by decide +kernel
theorem dX8_checksum_98 : decode cX8_checksum 98 = .ok (.getfield 116, 3) := by decide +kernel
theorem dX8_checksum_101 : decode cX8_checksum 101 = .ok (.if_icmp .ge 47, 3) := by decide +kernel
theorem dX8_checksum_104 : decode cX8_checksum 104 = .ok (.ldc2_w 284, 3) := by decide +kernel
theorem dX8_checksum_107 : decode cX8_checksum 107 = .ok (.lload_n 1, 1) := by decide +kernel
theorem dX8_checksum_108 : decode cX8_checksum 108 = .ok (.lmul, 1) := by decide +kernel
theorem dX8_checksum_109 : decode cX8_checksum 109 = .ok (.aload_n 0, 1) := by decide +kernel
theorem dX8_checksum_110 : decode cX8_checksum 110 = .ok (.getfield 10, 3) := by decide +kernel
theorem dX8_checksum_113 : decode cX8_checksum 113 = .ok (.getfield 112, 3) := by decide +kernel
theorem dX8_checksum_116 : decode cX8_checksum 116 = .ok (.iload_n 3, 1) := by decide +kernel
theorem dX8_checksum_117 : decode cX8_checksum 117 = .ok (.invokevirtual 126, 3) := by decide +kernel
theorem dX8_checksum_120 : decode cX8_checksum 120 = .ok (.i2l, 1) := by decide +kernel
theorem dX8_checksum_121 : decode cX8_checksum 121 = .ok (.ladd, 1) := by decide +kernel
theorem dX8_checksum_122 : decode cX8_checksum 122 = .ok (.lstore_n 1, 1) := by decide +kernel
theorem dX8_checksum_123 : decode cX8_checksum 123 = .ok (.ldc2_w 284, 3) := by decide +kernel
theorem dX8_checksum_126 : decode cX8_checksum 126 = .ok (.lload_n 1, 1) := by decide +kernel
theorem dX8_checksum_127 : decode cX8_checksum 127 = .ok (.lmul, 1) := by decide +kernel
theorem dX8_checksum_128 : decode cX8_checksum 128 = .ok (.aload_n 0, 1) := by decide +kernel
theorem dX8_checksum_129 : decode cX8_checksum 129 = .ok (.getfield 10, 3) := by decide +kernel
theorem dX8_checksum_132 : decode cX8_checksum 132 = .ok (.getfield 112, 3) := by decide +kernel
theorem dX8_checksum_135 : decode cX8_checksum 135 = .ok (.iload_n 3, 1) := by decide +kernel
theorem dX8_checksum_136 : decode cX8_checksum 136 = .ok (.invokevirtual 129, 3) := by decide +kernel
theorem dX8_checksum_139 : decode cX8_checksum 139 = .ok (.i2l, 1) := by decide +kernel
theorem dX8_checksum_140 : decode cX8_checksum 140 = .ok (.ladd, 1) := by decide +kernel
theorem dX8_checksum_141 : decode cX8_checksum 141 = .ok (.lstore_n 1, 1) := by decide +kernel
theorem dX8_checksum_142 : decode cX8_checksum 142 = .ok (.iinc 3 1, 3) := by decide +kernel
theorem dX8_checksum_145 : decode cX8_checksum 145 = .ok (.goto (-55), 3) := by decide +kernel
theorem dX8_checksum_148 : decode cX8_checksum 148 = .ok (.iconst 0, 1) := by decide +kernel
theorem dX8_checksum_149 : decode cX8_checksum 149 = .ok (.istore_n 3, 1) := by decide +kernel
theorem dX8_checksum_150 : decode cX8_checksum 150 = .ok (.iload_n 3, 1) := by decide +kernel
theorem dX8_checksum_151 : decode cX8_checksum 151 = .ok (.bipush 10, 2) := by decide +kernel
theorem dX8_checksum_153 : decode cX8_checksum 153 = .ok (.if_icmp .ge 25, 3) := by decide +kernel
theorem dX8_checksum_156 : decode cX8_checksum 156 = .ok (.ldc2_w 284, 3) := by decide +kernel
theorem dX8_checksum_159 : decode cX8_checksum 159 = .ok (.lload_n 1, 1) := by decide +kernel
theorem dX8_checksum_160 : decode cX8_checksum 160 = .ok (.lmul, 1) := by decide +kernel
theorem dX8_checksum_161 : decode cX8_checksum 161 = .ok (.aload_n 0, 1) := by decide +kernel
theorem dX8_checksum_162 : decode cX8_checksum 162 = .ok (.getfield 10, 3) := by decide +kernel
theorem dX8_checksum_165 : decode cX8_checksum 165 = .ok (.iload_n 3, 1) := by decide +kernel
theorem dX8_checksum_166 : decode cX8_checksum 166 = .ok (.invokevirtual 206, 3) := by decide +kernel
theorem dX8_checksum_169 : decode cX8_checksum 169 = .ok (.i2l, 1) := by decide +kernel
theorem dX8_checksum_170 : decode cX8_checksum 170 = .ok (.ladd, 1) := by decide +kernel
theorem dX8_checksum_171 : decode cX8_checksum 171 = .ok (.lstore_n 1, 1) := by decide +kernel
theorem dX8_checksum_172 : decode cX8_checksum 172 = .ok (.iinc 3 1, 3) := by decide +kernel
theorem dX8_checksum_175 : decode cX8_checksum 175 = .ok (.goto (-25), 3) := by decide +kernel
theorem dX8_checksum_178 : decode cX8_checksum 178 = .ok (.lload_n 1, 1) := by decide +kernel
theorem dX8_checksum_179 : decode cX8_checksum 179 = .ok (.lreturn, 1) := by decide +kernel
theorem dX8_checkFlat_0 : decode cX8_checkFlat 0 = .ok (.iload_n 1, 1) := by decide +kernel
theorem dX8_checkFlat_1 : decode cX8_checkFlat 1 = .ok (.ifCond .lt 14, 3) := by decide +kernel
theorem dX8_checkFlat_4 : decode cX8_checkFlat 4 = .ok (.iload_n 1, 1) := by decide +kernel
theorem dX8_checkFlat_5 : decode cX8_checkFlat 5 = .ok (.aload_n 0, 1) := by decide +kernel
theorem dX8_checkFlat_6 : decode cX8_checkFlat 6 = .ok (.getfield 10, 3) := by decide +kernel
theorem dX8_checkFlat_9 : decode cX8_checkFlat 9 = .ok (.getfield 141, 3) := by decide +kernel
theorem dX8_checkFlat_12 : decode cX8_checkFlat 12 = .ok (.if_icmp .lt 14, 3) := by decide +kernel
theorem dX8_checkFlat_15 : decode cX8_checkFlat 15 = .ok (.new 290, 3) := by decide +kernel
theorem dX8_checkFlat_18 : decode cX8_checkFlat 18 = .ok (.dup, 1) := by decide +kernel
theorem dX8_checkFlat_19 : decode cX8_checkFlat 19 = .ok (.ldc_w 292, 3) := by decide +kernel
theorem dX8_checkFlat_22 : decode cX8_checkFlat 22 = .ok (.invokespecial 294, 3) := by decide +kernel
theorem dX8_checkFlat_25 : decode cX8_checkFlat 25 = .ok (.athrow, 1) := by decide +kernel
theorem dX8_checkFlat_26 : decode cX8_checkFlat 26 = .ok (.return_, 1) := by decide +kernel
theorem dX8_checkRange_0 : decode cX8_checkRange 0 = .ok (.iload_n 0, 1) := by decide +kernel
theorem dX8_checkRange_1 : decode cX8_checkRange 1 = .ok (.iload_n 1, 1) := by decide +kernel
theorem dX8_checkRange_2 : decode cX8_checkRange 2 = .ok (.if_icmp .lt 8, 3) := by decide +kernel
theorem dX8_checkRange_5 : decode cX8_checkRange 5 = .ok (.iload_n 0, 1) := by decide +kernel
theorem dX8_checkRange_6 : decode cX8_checkRange 6 = .ok (.iload_n 2, 1) := by decide +kernel
theorem dX8_checkRange_7 : decode cX8_checkRange 7 = .ok (.if_icmp .le 14, 3) := by decide +kernel
theorem dX8_checkRange_10 : decode cX8_checkRange 10 = .ok (.new 251, 3) := by decide +kernel
theorem dX8_checkRange_13 : decode cX8_checkRange 13 = .ok (.dup, 1) := by decide +kernel
theorem dX8_checkRange_14 : decode cX8_checkRange 14 = .ok (.ldc_w 295, 3) := by decide +kernel
theorem dX8_checkRange_17 : decode cX8_checkRange 17 = .ok (.invokespecial 255, 3) := by decide +kernel
theorem dX8_checkRange_20 : decode cX8_checkRange 20 = .ok (.athrow, 1) := by decide +kernel
theorem dX8_checkRange_21 : decode cX8_checkRange 21 = .ok (.return_, 1) := by decide +kernel
theorem dX8_replaceByText_0 : decode cX8_replaceByText 0 = .ok (.aload_n 0, 1) := by decide +kernel
theorem dX8_replaceByText_1 : decode cX8_replaceByText 1 = .ok (.getfield 16, 3) := by decide +kernel
theorem dX8_replaceByText_4 : decode cX8_replaceByText 4 = .ok (.invokevirtual 297, 3) := by decide +kernel
theorem dX8_replaceByText_7 : decode cX8_replaceByText 7 = .ok (.aload_n 0, 1) := by decide +kernel
theorem dX8_replaceByText_8 : decode cX8_replaceByText 8 = .ok (.getfield 39, 3) := by decide +kernel
theorem dX8_replaceByText_11 : decode cX8_replaceByText 11 = .ok (.aload_n 0, 1) := by decide +kernel
theorem dX8_replaceByText_12 : decode cX8_replaceByText 12 = .ok (.getfield 16, 3) := by decide +kernel
theorem dX8_replaceByText_15 : decode cX8_replaceByText 15 = .ok (.invokevirtual 300, 3) := by decide +kernel
theorem dX8_replaceByText_18 : decode cX8_replaceByText 18 = .ok (.istore_n 1, 1) := by decide +kernel
theorem dX8_replaceByText_19 : decode cX8_replaceByText 19 = .ok (.iconst 0, 1) := by decide +kernel
theorem dX8_replaceByText_20 : decode cX8_replaceByText 20 = .ok (.istore_n 2, 1) := by decide +kernel
theorem dX8_replaceByText_21 : decode cX8_replaceByText 21 = .ok (.iload_n 1, 1) := by decide +kernel
theorem dX8_replaceByText_22 : decode cX8_replaceByText 22 = .ok (.ifCond .eq 107, 3) := by decide +kernel
theorem dX8_replaceByText_25 : decode cX8_replaceByText 25 = .ok (.iload_n 2, 1) := by decide +kernel
theorem dX8_replaceByText_26 : decode cX8_replaceByText 26 = .ok (.sipush 700, 3) := by decide +kernel
theorem dX8_replaceByText_29 : decode cX8_replaceByText 29 = .ok (.if_icmp .ge 100, 3) := by decide +kernel
theorem dX8_replaceByText_32 : decode cX8_replaceByText 32 = .ok (.aload_n 0, 1) := by decide +kernel
theorem dX8_replaceByText_33 : decode cX8_replaceByText 33 = .ok (.getfield 39, 3) := by decide +kernel
theorem dX8_replaceByText_36 : decode cX8_replaceByText 36 = .ok (.aload_n 0, 1) := by decide +kernel
theorem dX8_replaceByText_37 : decode cX8_replaceByText 37 = .ok (.getfield 16, 3) := by decide +kernel
theorem dX8_replaceByText_40 : decode cX8_replaceByText 40 = .ok (.getfield 141, 3) := by decide +kernel
theorem dX8_replaceByText_43 : decode cX8_replaceByText 43 = .ok (.invokevirtual 303, 3) := by decide +kernel
theorem dX8_replaceByText_46 : decode cX8_replaceByText 46 = .ok (.istore_n 1, 1) := by decide +kernel
theorem dX8_replaceByText_47 : decode cX8_replaceByText 47 = .ok (.aload_n 0, 1) := by decide +kernel
theorem dX8_replaceByText_48 : decode cX8_replaceByText 48 = .ok (.getfield 39, 3) := by decide +kernel
theorem dX8_replaceByText_51 : decode cX8_replaceByText 51 = .ok (.getfield 306, 3) := by decide +kernel
theorem dX8_replaceByText_54 : decode cX8_replaceByText 54 = .ok (.astore_n 3, 1) := by decide +kernel
theorem dX8_replaceByText_55 : decode cX8_replaceByText 55 = .ok (.iload_n 1, 1) := by decide +kernel
theorem dX8_replaceByText_56 : decode cX8_replaceByText 56 = .ok (.ifCond .eq 67, 3) := by decide +kernel
theorem dX8_replaceByText_59 : decode cX8_replaceByText 59 = .ok (.aload_n 3, 1) := by decide +kernel
theorem dX8_replaceByText_60 : decode cX8_replaceByText 60 = .ok (.ifnull 63, 3) := by decide +kernel
theorem dX8_replaceByText_63 : decode cX8_replaceByText 63 = .ok (.aload_n 0, 1) := by decide +kernel
theorem dX8_replaceByText_64 : decode cX8_replaceByText 64 = .ok (.getfield 16, 3) := by decide +kernel
theorem dX8_replaceByText_67 : decode cX8_replaceByText 67 = .ok (.aload_n 3, 1) := by decide +kernel
theorem dX8_replaceByText_68 : decode cX8_replaceByText 68 = .ok (.aload_n 0, 1) := by decide +kernel
theorem dX8_replaceByText_69 : decode cX8_replaceByText 69 = .ok (.getfield 39, 3) := by decide +kernel
theorem dX8_replaceByText_72 : decode cX8_replaceByText 72 = .ok (.getfield 309, 3) := by decide +kernel
theorem dX8_replaceByText_75 : decode cX8_replaceByText 75 = .ok (.aload_n 0, 1) := by decide +kernel
theorem dX8_replaceByText_76 : decode cX8_replaceByText 76 = .ok (.getfield 39, 3) := by decide +kernel
theorem dX8_replaceByText_79 : decode cX8_replaceByText 79 = .ok (.getfield 312, 3) := by decide +kernel
theorem dX8_replaceByText_82 : decode cX8_replaceByText 82 = .ok (.invokevirtual 181, 3) := by decide +kernel
theorem dX8_replaceByText_85 : decode cX8_replaceByText 85 = .ok (.ifCond .ne 29, 3) := by decide +kernel
theorem dX8_replaceByText_88 : decode cX8_replaceByText 88 = .ok (.aload_n 0, 1) := by decide +kernel
theorem dX8_replaceByText_89 : decode cX8_replaceByText 89 = .ok (.getfield 16, 3) := by decide +kernel
theorem dX8_replaceByText_92 : decode cX8_replaceByText 92 = .ok (.aload_n 3, 1) := by decide +kernel
theorem dX8_replaceByText_93 : decode cX8_replaceByText 93 = .ok (.aload_n 0, 1) := by decide +kernel
theorem dX8_replaceByText_94 : decode cX8_replaceByText 94 = .ok (.getfield 39, 3) := by decide +kernel
theorem dX8_replaceByText_97 : decode cX8_replaceByText 97 = .ok (.getfield 309, 3) := by decide +kernel
theorem dX8_replaceByText_100 : decode cX8_replaceByText 100 = .ok (.aload_n 0, 1) := by decide +kernel
theorem dX8_replaceByText_101 : decode cX8_replaceByText 101 = .ok (.getfield 39, 3) := by decide +kernel
theorem dX8_replaceByText_104 : decode cX8_replaceByText 104 = .ok (.getfield 312, 3) := by decide +kernel
theorem dX8_replaceByText_107 : decode cX8_replaceByText 107 = .ok (.invokevirtual 185, 3) := by decide +kernel
theorem dX8_replaceByText_110 : decode cX8_replaceByText 110 = .ok (.pop, 1) := by decide +kernel
theorem dX8_replaceByText_111 : decode cX8_replaceByText 111 = .ok (.goto 12, 3) := by decide +kernel
theorem dX8_replaceByText_114 : decode cX8_replaceByText 114 = .ok (.aload_n 0, 1) := by decide +kernel
theorem dX8_replaceByText_115 : decode cX8_replaceByText 115 = .ok (.getfield 39, 3) := by decide +kernel
theorem dX8_replaceByText_118 : decode cX8_replaceByText 118 = .ok (.iconst 4, 1) := by decide +kernel
theorem dX8_replaceByText_119 : decode cX8_replaceByText 119 = .ok (.invokevirtual 315, 3) := by decide +kernel
theorem dX8_replaceByText_122 : decode cX8_replaceByText 122 = .ok (.istore_n 1, 1) := by decide +kernel
theorem dX8_replaceByText_123 : decode cX8_replaceByText 123 = .ok (.iinc 2 1, 3) := by decide +kernel
theorem dX8_replaceByText_126 : decode cX8_replaceByText 126 = .ok (.goto (-105), 3) := by decide +kernel
theorem dX8_replaceByText_129 : decode cX8_replaceByText 129 = .ok (.aload_n 0, 1) := by decide +kernel
theorem dX8_replaceByText_130 : decode cX8_replaceByText 130 = .ok (.getfield 39, 3) := by decide +kernel
theorem dX8_replaceByText_133 : decode cX8_replaceByText 133 = .ok (.getfield 318, 3) := by decide +kernel
theorem dX8_replaceByText_136 : decode cX8_replaceByText 136 = .ok (.ifCond .eq 14, 3) := by decide +kernel
theorem dX8_replaceByText_139 : decode cX8_replaceByText 139 = .ok (.bipush (-2), 2) := by decide +kernel
theorem dX8_replaceByText_141 : decode cX8_replaceByText 141 = .ok (.aload_n 0, 1) := by decide +kernel
theorem dX8_replaceByText_142 : decode cX8_replaceByText 142 = .ok (.getfield 39, 3) := by decide +kernel
theorem dX8_replaceByText_145 : decode cX8_replaceByText 145 = .ok (.getfield 318, 3) := by decide +kernel
theorem dX8_replaceByText_148 : decode cX8_replaceByText 148 = .ok (.isub, 1) := by decide +kernel
theorem dX8_replaceByText_149 : decode cX8_replaceByText 149 = .ok (.ireturn, 1) := by decide +kernel
theorem dX8_replaceByText_150 : decode cX8_replaceByText 150 = .ok (.aload_n 0, 1) := by decide +kernel
theorem dX8_replaceByText_151 : decode cX8_replaceByText 151 = .ok (.getfield 10, 3) := by decide +kernel
theorem dX8_replaceByText_154 : decode cX8_replaceByText 154 = .ok (.aload_n 0, 1) := by decide +kernel
theorem dX8_replaceByText_155 : decode cX8_replaceByText 155 = .ok (.getfield 16, 3) := by decide +kernel
theorem dX8_replaceByText_158 : decode cX8_replaceByText 158 = .ok (.invokevirtual 158, 3) := by decide +kernel
theorem dX8_replaceByText_161 : decode cX8_replaceByText 161 = .ok (.aload_n 0, 1) := by decide +kernel
theorem dX8_replaceByText_162 : decode cX8_replaceByText 162 = .ok (.getfield 22, 3) := by decide +kernel
theorem dX8_replaceByText_165 : decode cX8_replaceByText 165 = .ok (.invokevirtual 278, 3) := by decide +kernel
theorem dX8_replaceByText_168 : decode cX8_replaceByText 168 = .ok (.aload_n 0, 1) := by decide +kernel
theorem dX8_replaceByText_169 : decode cX8_replaceByText 169 = .ok (.iconst 0, 1) := by decide +kernel
theorem dX8_replaceByText_170 : decode cX8_replaceByText 170 = .ok (.putfield 32, 3) := by decide +kernel
theorem dX8_replaceByText_173 : decode cX8_replaceByText 173 = .ok (.aload_n 0, 1) := by decide +kernel
theorem dX8_replaceByText_174 : decode cX8_replaceByText 174 = .ok (.getfield 10, 3) := by decide +kernel
theorem dX8_replaceByText_177 : decode cX8_replaceByText 177 = .ok (.getfield 141, 3) := by decide +kernel
theorem dX8_replaceByText_180 : decode cX8_replaceByText 180 = .ok (.ireturn, 1) := by decide +kernel
theorem dX8_changeOfFlat_0 : decode cX8_changeOfFlat 0 = .ok (.aload_n 0, 1) := by decide +kernel
theorem dX8_changeOfFlat_1 : decode cX8_changeOfFlat 1 = .ok (.iload_n 2, 1) := by decide +kernel
theorem dX8_changeOfFlat_2 : decode cX8_changeOfFlat 2 = .ok (.invokevirtual 96, 3) := by decide +kernel
theorem dX8_changeOfFlat_5 : decode cX8_changeOfFlat 5 = .ok (.iload_n 3, 1) := by decide +kernel
theorem dX8_changeOfFlat_6 : decode cX8_changeOfFlat 6 = .ok (.aload_n 1, 1) := by decide +kernel
theorem dX8_changeOfFlat_7 : decode cX8_changeOfFlat 7 = .ok (.getfield 256, 3) := by decide +kernel
theorem dX8_changeOfFlat_10 : decode cX8_changeOfFlat 10 = .ok (.aload_n 1, 1) := by decide +kernel
theorem dX8_changeOfFlat_11 : decode cX8_changeOfFlat 11 = .ok (.getfield 259, 3) := by decide +kernel
theorem dX8_changeOfFlat_14 : decode cX8_changeOfFlat 14 = .ok (.invokestatic 71, 3) := by decide +kernel
theorem dX8_changeOfFlat_17 : decode cX8_changeOfFlat 17 = .ok (.aload_n 0, 1) := by decide +kernel
theorem dX8_changeOfFlat_18 : decode cX8_changeOfFlat 18 = .ok (.getfield 10, 3) := by decide +kernel
theorem dX8_changeOfFlat_21 : decode cX8_changeOfFlat 21 = .ok (.aload_n 1, 1) := by decide +kernel
theorem dX8_changeOfFlat_22 : decode cX8_changeOfFlat 22 = .ok (.iload_n 2, 1) := by decide +kernel
theorem dX8_changeOfFlat_23 : decode cX8_changeOfFlat 23 = .ok (.iload_n 3, 1) := by decide +kernel
theorem dX8_changeOfFlat_24 : decode cX8_changeOfFlat 24 = .ok (.invokevirtual 181, 3) := by decide +kernel
theorem dX8_changeOfFlat_27 : decode cX8_changeOfFlat 27 = .ok (.istore 4, 2) := by decide +kernel
theorem dX8_changeOfFlat_29 : decode cX8_changeOfFlat 29 = .ok (.iload 4, 2) := by decide +kernel
theorem dX8_changeOfFlat_31 : decode cX8_changeOfFlat 31 = .ok (.ifCond .eq 7, 3) := by decide +kernel
theorem dX8_changeOfFlat_34 : decode cX8_changeOfFlat 34 = .ok (.iload 4, 2) := by decide +kernel
theorem dX8_changeOfFlat_36 : decode cX8_changeOfFlat 36 = .ok (.ineg, 1) := by decide +kernel
theorem dX8_changeOfFlat_37 : decode cX8_changeOfFlat 37 = .ok (.ireturn, 1) := by decide +kernel
theorem dX8_changeOfFlat_38 : decode cX8_changeOfFlat 38 = .ok (.aload_n 0, 1) := by decide +kernel
theorem dX8_changeOfFlat_39 : decode cX8_changeOfFlat 39 = .ok (.getfield 22, 3) := by decide +kernel
theorem dX8_changeOfFlat_42 : decode cX8_changeOfFlat 42 = .ok (.aload_n 0, 1) := by decide +kernel
theorem dX8_changeOfFlat_43 : decode cX8_changeOfFlat 43 = .ok (.getfield 10, 3) := by decide +kernel
theorem dX8_changeOfFlat_46 : decode cX8_changeOfFlat 46 = .ok (.invokevirtual 241, 3) := by decide +kernel
theorem dX8_changeOfFlat_49 : decode cX8_changeOfFlat 49 = .ok (.aload_n 0, 1) := by decide +kernel
theorem dX8_changeOfFlat_50 : decode cX8_changeOfFlat 50 = .ok (.getfield 10, 3) := by decide +kernel
theorem dX8_changeOfFlat_53 : decode cX8_changeOfFlat 53 = .ok (.aload_n 1, 1) := by decide +kernel
theorem dX8_changeOfFlat_54 : decode cX8_changeOfFlat 54 = .ok (.iload_n 2, 1) := by decide +kernel
theorem dX8_changeOfFlat_55 : decode cX8_changeOfFlat 55 = .ok (.iload_n 3, 1) := by decide +kernel
theorem dX8_changeOfFlat_56 : decode cX8_changeOfFlat 56 = .ok (.invokevirtual 185, 3) := by decide +kernel
theorem dX8_changeOfFlat_59 : decode cX8_changeOfFlat 59 = .ok (.ireturn, 1) := by decide +kernel
theorem dX8_checksumWithFlat_0 : decode cX8_checksumWithFlat 0 = .ok (.lload_n 1, 1) := by decide +kernel
theorem dX8_checksumWithFlat_1 : decode cX8_checksumWithFlat 1 = .ok (.lstore 4, 2) := by decide +kernel
theorem dX8_checksumWithFlat_3 : decode cX8_checksumWithFlat 3 = .ok (.iconst 0, 1) := by decide +kernel
theorem dX8_checksumWithFlat_4 : decode cX8_checksumWithFlat 4 = .ok (.istore 6, 2) := by decide +kernel
theorem dX8_checksumWithFlat_6 : decode cX8_checksumWithFlat 6 = .ok (.iload 6, 2) := by decide +kernel
theorem dX8_checksumWithFlat_8 : decode cX8_checksumWithFlat 8 = .ok (.bipush 11, 2) := by decide +kernel
theorem dX8_checksumWithFlat_10 : decode cX8_checksumWithFlat 10 = .ok (.if_icmp .ge 29, 3) := by decide +kernel
theorem dX8_checksumWithFlat_13 : decode cX8_checksumWithFlat 13 = .ok (.ldc2_w 284, 3) := by decide +kernel
theorem dX8_checksumWithFlat_16 : decode cX8_checksumWithFlat 16 = .ok (.lload 4, 2) := by decide +kernel
theorem dX8_checksumWithFlat_18 : decode cX8_checksumWithFlat 18 = .ok (.lmul, 1) := by decide +kernel
theorem dX8_checksumWithFlat_19 : decode cX8_checksumWithFlat 19 = .ok (.aload_n 0, 1) := by decide +kernel
theorem dX8_checksumWithFlat_20 : decode cX8_checksumWithFlat 20 = .ok (.getfield 10, 3) := by decide +kernel
theorem dX8_checksumWithFlat_23 : decode cX8_checksumWithFlat 23 = .ok (.iload_n 3, 1) := by decide +kernel
theorem dX8_checksumWithFlat_24 : decode cX8_checksumWithFlat 24 = .ok (.iload 6, 2) := by decide +kernel
theorem dX8_checksumWithFlat_26 : decode cX8_checksumWithFlat 26 = .ok (.invokevirtual 99, 3) := by decide +kernel
theorem dX8_checksumWithFlat_29 : decode cX8_checksumWithFlat 29 = .ok (.i2l, 1) := by decide +kernel
theorem dX8_checksumWithFlat_30 : decode cX8_checksumWithFlat 30 = .ok (.ladd, 1) := by decide +kernel
theorem dX8_checksumWithFlat_31 : decode cX8_checksumWithFlat 31 = .ok (.lstore 4, 2) := by decide +kernel
theorem dX8_checksumWithFlat_33 : decode cX8_checksumWithFlat 33 = .ok (.iinc 6 1, 3) := by decide +kernel
theorem dX8_checksumWithFlat_36 : decode cX8_checksumWithFlat 36 = .ok (.goto (-30), 3) := by decide +kernel
theorem dX8_checksumWithFlat_39 : decode cX8_checksumWithFlat 39 = .ok (.iconst 0, 1) := by decide +kernel
theorem dX8_checksumWithFlat_40 : decode cX8_checksumWithFlat 40 = .ok (.istore 6, 2) := by decide +kernel
theorem dX8_checksumWithFlat_42 : decode cX8_checksumWithFlat 42 = .ok (.iload 6, 2) := by decide +kernel
theorem dX8_checksumWithFlat_44 : decode cX8_checksumWithFlat 44 = .ok (.aload_n 0, 1) := by decide +kernel
theorem dX8_checksumWithFlat_45 : decode cX8_checksumWithFlat 45 = .ok (.getfield 10, 3) := by decide +kernel
theorem dX8_checksumWithFlat_48 : decode cX8_checksumWithFlat 48 = .ok (.getfield 141, 3) := by decide +kernel
theorem dX8_checksumWithFlat_51 : decode cX8_checksumWithFlat 51 = .ok (.if_icmp .ge 29, 3) := by decide +kernel
theorem dX8_checksumWithFlat_54 : decode cX8_checksumWithFlat 54 = .ok (.ldc2_w 284, 3) := by decide +kernel
theorem dX8_checksumWithFlat_57 : decode cX8_checksumWithFlat 57 = .ok (.lload 4, 2) := by decide +kernel
theorem dX8_checksumWithFlat_59 : decode cX8_checksumWithFlat 59 = .ok (.lmul, 1) := by decide +kernel
theorem dX8_checksumWithFlat_60 : decode cX8_checksumWithFlat 60 = .ok (.aload_n 0, 1) := by decide +kernel
theorem dX8_checksumWithFlat_61 : decode cX8_checksumWithFlat 61 = .ok (.getfield 10, 3) := by decide +kernel
theorem dX8_checksumWithFlat_64 : decode cX8_checksumWithFlat 64 = .ok (.iload_n 3, 1) := by decide +kernel
theorem dX8_checksumWithFlat_65 : decode cX8_checksumWithFlat 65 = .ok (.iload 6, 2) := by decide +kernel
theorem dX8_checksumWithFlat_67 : decode cX8_checksumWithFlat 67 = .ok (.invokevirtual 132, 3) := by decide +kernel
theorem dX8_checksumWithFlat_70 : decode cX8_checksumWithFlat 70 = .ok (.i2l, 1) := by decide +kernel
theorem dX8_checksumWithFlat_71 : decode cX8_checksumWithFlat 71 = .ok (.ladd, 1) := by decide +kernel
theorem dX8_checksumWithFlat_72 : decode cX8_checksumWithFlat 72 = .ok (.lstore 4, 2) := by decide +kernel
theorem dX8_checksumWithFlat_74 : decode cX8_checksumWithFlat 74 = .ok (.iinc 6 1, 3) := by decide +kernel
theorem dX8_checksumWithFlat_77 : decode cX8_checksumWithFlat 77 = .ok (.goto (-35), 3) := by decide +kernel
theorem dX8_checksumWithFlat_80 : decode cX8_checksumWithFlat 80 = .ok (.lload 4, 2) := by decide +kernel
theorem dX8_checksumWithFlat_82 : decode cX8_checksumWithFlat 82 = .ok (.lreturn, 1) := by decide +kernel
theorem dX8_copyRow_0 : decode cX8_copyRow 0 = .ok (.aload_n 0, 1) := by decide +kernel
theorem dX8_copyRow_1 : decode cX8_copyRow 1 = .ok (.iconst 0, 1) := by decide +kernel
theorem dX8_copyRow_2 : decode cX8_copyRow 2 = .ok (.aload_n 1, 1) := by decide +kernel
theorem dX8_copyRow_3 : decode cX8_copyRow 3 = .ok (.iconst 0, 1) := by decide +kernel
theorem dX8_copyRow_4 : decode cX8_copyRow 4 = .ok (.aload_n 0, 1) := by decide +kernel
theorem dX8_copyRow_5 : decode cX8_copyRow 5 = .ok (.arraylength, 1) := by decide +kernel
theorem dX8_copyRow_6 : decode cX8_copyRow 6 = .ok (.aload_n 1, 1) := by decide +kernel
theorem dX8_copyRow_7 : decode cX8_copyRow 7 = .ok (.arraylength, 1) := by decide +kernel
theorem dX8_copyRow_8 : decode cX8_copyRow 8 = .ok (.invokestatic 336, 3) := by decide +kernel
theorem dX8_copyRow_11 : decode cX8_copyRow 11 = .ok (.invokestatic 341, 3) := by decide +kernel
theorem dX8_copyRow_14 : decode cX8_copyRow 14 = .ok (.return_, 1) := by decide +kernel
