theorem dX0_init_0 : decode cX0_init 0 = .ok (.aload_n 0, 1) := by decide +kernel
theorem dX0_init_1 : decode cX0_init 1 = .ok (.invokespecial 1, 3) := by decide +kernel
theorem dX0_init_4 : decode cX0_init 4 = .ok (.aload_n 0, 1) := by decide +kernel
theorem dX0_init_5 : decode cX0_init 5 = .ok (.bipush 24, 2) := by decide +kernel
theorem dX0_init_7 : decode cX0_init 7 = .ok (.newarray .int, 2) := by decide +kernel
theorem dX0_init_9 : decode cX0_init 9 = .ok (.putfield 9, 3) := by decide +kernel
theorem dX0_init_12 : decode cX0_init 12 = .ok (.aload_n 0, 1) := by decide +kernel
theorem dX0_init_13 : decode cX0_init 13 = .ok (.bipush 24, 2) := by decide +kernel
theorem dX0_init_15 : decode cX0_init 15 = .ok (.newarray .int, 2) := by decide +kernel
theorem dX0_init_17 : decode cX0_init 17 = .ok (.putfield 13, 3) := by decide +kernel
theorem dX0_init_20 : decode cX0_init 20 = .ok (.aload_n 0, 1) := by decide +kernel
theorem dX0_init_21 : decode cX0_init 21 = .ok (.bipush 24, 2) := by decide +kernel
theorem dX0_init_23 : decode cX0_init 23 = .ok (.newarray .int, 2) := by decide +kernel
theorem dX0_init_25 : decode cX0_init 25 = .ok (.putfield 16, 3) := by decide +kernel
theorem dX0_init_28 : decode cX0_init 28 = .ok (.aload_n 0, 1) := by decide +kernel
theorem dX0_init_29 : decode cX0_init 29 = .ok (.bipush 96, 2) := by decide +kernel
theorem dX0_init_31 : decode cX0_init 31 = .ok (.newarray .int, 2) := by decide +kernel
theorem dX0_init_33 : decode cX0_init 33 = .ok (.putfield 21, 3) := by decide +kernel
theorem dX0_init_36 : decode cX0_init 36 = .ok (.return_, 1) := by decide +kernel
theorem dX0_keep_0 : decode cX0_keep 0 = .ok (.aload_n 0, 1) := by decide +kernel
theorem dX0_keep_1 : decode cX0_keep 1 = .ok (.aload_n 0, 1) := by decide +kernel
theorem dX0_keep_2 : decode cX0_keep 2 = .ok (.getfield 24, 3) := by decide +kernel
theorem dX0_keep_5 : decode cX0_keep 5 = .ok (.iconst 1, 1) := by decide +kernel
theorem dX0_keep_6 : decode cX0_keep 6 = .ok (.iadd, 1) := by decide +kernel
theorem dX0_keep_7 : decode cX0_keep 7 = .ok (.bipush 24, 2) := by decide +kernel
theorem dX0_keep_9 : decode cX0_keep 9 = .ok (.irem, 1) := by decide +kernel
theorem dX0_keep_10 : decode cX0_keep 10 = .ok (.putfield 24, 3) := by decide +kernel
theorem dX0_keep_13 : decode cX0_keep 13 = .ok (.aload_n 0, 1) := by decide +kernel
theorem dX0_keep_14 : decode cX0_keep 14 = .ok (.bipush 24, 2) := by decide +kernel
theorem dX0_keep_16 : decode cX0_keep 16 = .ok (.aload_n 0, 1) := by decide +kernel
theorem dX0_keep_17 : decode cX0_keep 17 = .ok (.getfield 28, 3) := by decide +kernel
theorem dX0_keep_20 : decode cX0_keep 20 = .ok (.iconst 1, 1) := by decide +kernel
theorem dX0_keep_21 : decode cX0_keep 21 = .ok (.iadd, 1) := by decide +kernel
theorem dX0_keep_22 : decode cX0_keep 22 = .ok (.invokestatic 31, 3) := by decide +kernel
theorem dX0_keep_25 : decode cX0_keep 25 = .ok (.putfield 28, 3) := by decide +kernel
theorem dX0_keep_28 : decode cX0_keep 28 = .ok (.aload_n 0, 1) := by decide +kernel
theorem dX0_keep_29 : decode cX0_keep 29 = .ok (.getfield 9, 3) := by decide +kernel
theorem dX0_keep_32 : decode cX0_keep 32 = .ok (.aload_n 0, 1) := by decide +kernel
theorem dX0_keep_33 : decode cX0_keep 33 = .ok (.getfield 24, 3) := by decide +kernel
theorem dX0_keep_36 : decode cX0_keep 36 = .ok (.iload_n 2, 1) := by decide +kernel
theorem dX0_keep_37 : decode cX0_keep 37 = .ok (.iastore, 1) := by decide +kernel
theorem dX0_keep_38 : decode cX0_keep 38 = .ok (.aload_n 0, 1) := by decide +kernel
theorem dX0_keep_39 : decode cX0_keep 39 = .ok (.getfield 13, 3) := by decide +kernel
theorem dX0_keep_42 : decode cX0_keep 42 = .ok (.aload_n 0, 1) := by decide +kernel
theorem dX0_keep_43 : decode cX0_keep 43 = .ok (.getfield 24, 3) := by decide +kernel
theorem dX0_keep_46 : decode cX0_keep 46 = .ok (.aload_n 1, 1) := by decide +kernel
theorem dX0_keep_47 : decode cX0_keep 47 = .ok (.getfield 37, 3) := by decide +kernel
theorem dX0_keep_50 : decode cX0_keep 50 = .ok (.iload_n 2, 1) := by decide +kernel
theorem dX0_keep_51 : decode cX0_keep 51 = .ok (.iaload, 1) := by decide +kernel
theorem dX0_keep_52 : decode cX0_keep 52 = .ok (.iastore, 1) := by decide +kernel
theorem dX0_keep_53 : decode cX0_keep 53 = .ok (.aload_n 0, 1) := by decide +kernel
theorem dX0_keep_54 : decode cX0_keep 54 = .ok (.getfield 16, 3) := by decide +kernel
theorem dX0_keep_57 : decode cX0_keep 57 = .ok (.aload_n 0, 1) := by decide +kernel
theorem dX0_keep_58 : decode cX0_keep 58 = .ok (.getfield 24, 3) := by decide +kernel
theorem dX0_keep_61 : decode cX0_keep 61 = .ok (.aload_n 1, 1) := by decide +kernel
theorem dX0_keep_62 : decode cX0_keep 62 = .ok (.getfield 38, 3) := by decide +kernel
theorem dX0_keep_65 : decode cX0_keep 65 = .ok (.iload_n 2, 1) := by decide +kernel
theorem dX0_keep_66 : decode cX0_keep 66 = .ok (.iaload, 1) := by decide +kernel
theorem dX0_keep_67 : decode cX0_keep 67 = .ok (.iastore, 1) := by decide +kernel
theorem dX0_keep_68 : decode cX0_keep 68 = .ok (.aload_n 1, 1) := by decide +kernel
theorem dX0_keep_69 : decode cX0_keep 69 = .ok (.getfield 39, 3) := by decide +kernel
theorem dX0_keep_72 : decode cX0_keep 72 = .ok (.iconst 0, 1) := by decide +kernel
theorem dX0_keep_73 : decode cX0_keep 73 = .ok (.aload_n 0, 1) := by decide +kernel
theorem dX0_keep_74 : decode cX0_keep 74 = .ok (.getfield 21, 3) := by decide +kernel
theorem dX0_keep_77 : decode cX0_keep 77 = .ok (.aload_n 0, 1) := by decide +kernel
theorem dX0_keep_78 : decode cX0_keep 78 = .ok (.getfield 24, 3) := by decide +kernel
theorem dX0_keep_81 : decode cX0_keep 81 = .ok (.iconst 4, 1) := by decide +kernel
theorem dX0_keep_82 : decode cX0_keep 82 = .ok (.imul, 1) := by decide +kernel
theorem dX0_keep_83 : decode cX0_keep 83 = .ok (.iconst 4, 1) := by decide +kernel
theorem dX0_keep_84 : decode cX0_keep 84 = .ok (.invokestatic 40, 3) := by decide +kernel
theorem dX0_keep_87 : decode cX0_keep 87 = .ok (.return_, 1) := by decide +kernel
theorem dX0_takeBack_0 : decode cX0_takeBack 0 = .ok (.aload_n 0, 1) := by decide +kernel
theorem dX0_takeBack_1 : decode cX0_takeBack 1 = .ok (.getfield 9, 3) := by decide +kernel
theorem dX0_takeBack_4 : decode cX0_takeBack 4 = .ok (.aload_n 0, 1) := by decide +kernel
theorem dX0_takeBack_5 : decode cX0_takeBack 5 = .ok (.getfield 24, 3) := by decide +kernel
theorem dX0_takeBack_8 : decode cX0_takeBack 8 = .ok (.iaload, 1) := by decide +kernel
theorem dX0_takeBack_9 : decode cX0_takeBack 9 = .ok (.istore_n 2, 1) := by decide +kernel
theorem dX0_takeBack_10 : decode cX0_takeBack 10 = .ok (.aload_n 1, 1) := by decide +kernel
theorem dX0_takeBack_11 : decode cX0_takeBack 11 = .ok (.getfield 37, 3) := by decide +kernel
theorem dX0_takeBack_14 : decode cX0_takeBack 14 = .ok (.iload_n 2, 1) := by decide +kernel
theorem dX0_takeBack_15 : decode cX0_takeBack 15 = .ok (.aload_n 0, 1) := by decide +kernel
theorem dX0_takeBack_16 : decode cX0_takeBack 16 = .ok (.getfield 13, 3) := by decide +kernel
theorem dX0_takeBack_19 : decode cX0_takeBack 19 = .ok (.aload_n 0, 1) := by decide +kernel
theorem dX0_takeBack_20 : decode cX0_takeBack 20 = .ok (.getfield 24, 3) := by decide +kernel
theorem dX0_takeBack_23 : decode cX0_takeBack 23 = .ok (.iaload, 1) := by decide +kernel
theorem dX0_takeBack_24 : decode cX0_takeBack 24 = .ok (.iastore, 1) := by decide +kernel
theorem dX0_takeBack_25 : decode cX0_takeBack 25 = .ok (.aload_n 1, 1) := by decide +kernel
theorem dX0_takeBack_26 : decode cX0_takeBack 26 = .ok (.getfield 38, 3) := by decide +kernel
theorem dX0_takeBack_29 : decode cX0_takeBack 29 = .ok (.iload_n 2, 1) := by decide +kernel
theorem dX0_takeBack_30 : decode cX0_takeBack 30 = .ok (.aload_n 0, 1) := by decide +kernel
theorem dX0_takeBack_31 : decode cX0_takeBack 31 = .ok (.getfield 16, 3) := by decide +kernel
theorem dX0_takeBack_34 : decode cX0_takeBack 34 = .ok (.aload_n 0, 1) := by decide +kernel
theorem dX0_takeBack_35 : decode cX0_takeBack 35 = .ok (.getfield 24, 3) := by decide +kernel
theorem dX0_takeBack_38 : decode cX0_takeBack 38 = .ok (.iaload, 1) := by decide +kernel
theorem dX0_takeBack_39 : decode cX0_takeBack 39 = .ok (.iastore, 1) := by decide +kernel
theorem dX0_takeBack_40 : decode cX0_takeBack 40 = .ok (.aload_n 0, 1) := by decide +kernel
theorem dX0_takeBack_41 : decode cX0_takeBack 41 = .ok (.getfield 21, 3) := by decide +kernel
theorem dX0_takeBack_44 : decode cX0_takeBack 44 = .ok (.aload_n 0, 1) := by decide +kernel
theorem dX0_takeBack_45 : decode cX0_takeBack 45 = .ok (.getfield 24, 3) := by decide +kernel
theorem dX0_takeBack_48 : decode cX0_takeBack 48 = .ok (.iconst 4, 1) := by decide +kernel
theorem dX0_takeBack_49 : decode cX0_takeBack 49 = .ok (.imul, 1) := by decide +kernel
theorem dX0_takeBack_50 : decode cX0_takeBack 50 = .ok (.aload_n 1, 1) := by decide +kernel
theorem dX0_takeBack_51 : decode cX0_takeBack 51 = .ok (.getfield 39, 3) := by decide +kernel
theorem dX0_takeBack_54 : decode cX0_takeBack 54 = .ok (.iconst 0, 1) := by decide +kernel
theorem dX0_takeBack_55 : decode cX0_takeBack 55 = .ok (.iconst 4, 1) := by decide +kernel
theorem dX0_takeBack_56 : decode cX0_takeBack 56 = .ok (.invokestatic 40, 3) := by decide +kernel
theorem dX0_takeBack_59 : decode cX0_takeBack 59 = .ok (.aload_n 0, 1) := by decide +kernel
theorem dX0_takeBack_60 : decode cX0_takeBack 60 = .ok (.aload_n 0, 1) := by decide +kernel
theorem dX0_takeBack_61 : decode cX0_takeBack 61 = .ok (.getfield 24, 3) := by decide +kernel
theorem dX0_takeBack_64 : decode cX0_takeBack 64 = .ok (.bipush 24, 2) := by decide +kernel
theorem dX0_takeBack_66 : decode cX0_takeBack 66 = .ok (.iadd, 1) := by decide +kernel
theorem dX0_takeBack_67 : decode cX0_takeBack 67 = .ok (.iconst 1, 1) := by decide +kernel
theorem dX0_takeBack_68 : decode cX0_takeBack 68 = .ok (.isub, 1) := by decide +kernel
theorem dX0_takeBack_69 : decode cX0_takeBack 69 = .ok (.bipush 24, 2) := by decide +kernel
theorem dX0_takeBack_71 : decode cX0_takeBack 71 = .ok (.irem, 1) := by decide +kernel
theorem dX0_takeBack_72 : decode cX0_takeBack 72 = .ok (.putfield 24, 3) := by decide +kernel
theorem dX0_takeBack_75 : decode cX0_takeBack 75 = .ok (.aload_n 0, 1) := by decide +kernel
theorem dX0_takeBack_76 : decode cX0_takeBack 76 = .ok (.dup, 1) := by decide +kernel
theorem dX0_takeBack_77 : decode cX0_takeBack 77 = .ok (.getfield 28, 3) := by decide +kernel
theorem dX0_takeBack_80 : decode cX0_takeBack 80 = .ok (.iconst 1, 1) := by decide +kernel
theorem dX0_takeBack_81 : decode cX0_takeBack 81 = .ok (.isub, 1) := by decide +kernel
theorem dX0_takeBack_82 : decode cX0_takeBack 82 = .ok (.putfield 28, 3) := by decide +kernel
theorem dX0_takeBack_85 : decode cX0_takeBack 85 = .ok (.return_, 1) := by decide +kernel
theorem dX1_init_0 : decode cX1_init 0 = .ok (.aload_n 0, 1) := by decide +kernel
theorem dX1_init_1 : decode cX1_init 1 = .ok (.invokespecial 1, 3) := by decide +kernel
theorem dX1_init_4 : decode cX1_init 4 = .ok (.aload_n 0, 1) := by decide +kernel
theorem dX1_init_5 : decode cX1_init 5 = .ok (.bipush 16, 2) := by decide +kernel
theorem dX1_init_7 : decode cX1_init 7 = .ok (.newarray .int, 2) := by decide +kernel
theorem dX1_init_9 : decode cX1_init 9 = .ok (.putfield 9, 3) := by decide +kernel
theorem dX1_init_12 : decode cX1_init 12 = .ok (.return_, 1) := by decide +kernel
theorem dX1_isOne_0 : decode cX1_isOne 0 = .ok (.iload_n 0, 1) := by decide +kernel
theorem dX1_isOne_1 : decode cX1_isOne 1 = .ok (.istore_n 2, 1) := by decide +kernel
theorem dX1_isOne_2 : decode cX1_isOne 2 = .ok (.iconst 0, 1) := by decide +kernel
theorem dX1_isOne_3 : decode cX1_isOne 3 = .ok (.istore_n 3, 1) := by decide +kernel
theorem dX1_isOne_4 : decode cX1_isOne 4 = .ok (.iload_n 3, 1) := by decide +kernel
theorem dX1_isOne_5 : decode cX1_isOne 5 = .ok (.bipush 6, 2) := by decide +kernel
theorem dX1_isOne_7 : decode cX1_isOne 7 = .ok (.if_icmp .ge 20, 3) := by decide +kernel
theorem dX1_isOne_10 : decode cX1_isOne 10 = .ok (.iload_n 2, 1) := by decide +kernel
theorem dX1_isOne_11 : decode cX1_isOne 11 = .ok (.iload_n 1, 1) := by decide +kernel
theorem dX1_isOne_12 : decode cX1_isOne 12 = .ok (.if_icmp .eq 15, 3) := by decide +kernel
theorem dX1_isOne_15 : decode cX1_isOne 15 = .ok (.getstatic 13, 3) := by decide +kernel
theorem dX1_isOne_18 : decode cX1_isOne 18 = .ok (.iload_n 2, 1) := by decide +kernel
theorem dX1_isOne_19 : decode cX1_isOne 19 = .ok (.iaload, 1) := by decide +kernel
theorem dX1_isOne_20 : decode cX1_isOne 20 = .ok (.istore_n 2, 1) := by decide +kernel
theorem dX1_isOne_21 : decode cX1_isOne 21 = .ok (.iinc 3 1, 3) := by decide +kernel
theorem dX1_isOne_24 : decode cX1_isOne 24 = .ok (.goto (-20), 3) := by decide +kernel
theorem dX1_isOne_27 : decode cX1_isOne 27 = .ok (.iload_n 2, 1) := by decide +kernel
theorem dX1_isOne_28 : decode cX1_isOne 28 = .ok (.iload_n 1, 1) := by decide +kernel
theorem dX1_isOne_29 : decode cX1_isOne 29 = .ok (.if_icmp .ne 7, 3) := by decide +kernel
theorem dX1_isOne_32 : decode cX1_isOne 32 = .ok (.iconst 1, 1) := by decide +kernel
theorem dX1_isOne_33 : decode cX1_isOne 33 = .ok (.goto 4, 3) := by decide +kernel
theorem dX1_isOne_36 : decode cX1_isOne 36 = .ok (.iconst 0, 1) := by decide +kernel
theorem dX1_isOne_37 : decode cX1_isOne 37 = .ok (.ireturn, 1) := by decide +kernel
theorem dX1_answer_0 : decode cX1_answer 0 = .ok (.aload_n 0, 1) := by decide +kernel
theorem dX1_answer_1 : decode cX1_answer 1 = .ok (.iconst 0, 1) := by decide +kernel
theorem dX1_answer_2 : decode cX1_answer 2 = .ok (.putfield 16, 3) := by decide +kernel
theorem dX1_answer_5 : decode cX1_answer 5 = .ok (.aload_n 0, 1) := by decide +kernel
theorem dX1_answer_6 : decode cX1_answer 6 = .ok (.iload_n 2, 1) := by decide +kernel
theorem dX1_answer_7 : decode cX1_answer 7 = .ok (.putfield 20, 3) := by decide +kernel
theorem dX1_answer_10 : decode cX1_answer 10 = .ok (.aload_n 0, 1) := by decide +kernel
theorem dX1_answer_11 : decode cX1_answer 11 = .ok (.aload_n 1, 1) := by decide +kernel
theorem dX1_answer_12 : decode cX1_answer 12 = .ok (.getfield 23, 3) := by decide +kernel
theorem dX1_answer_15 : decode cX1_answer 15 = .ok (.iload_n 2, 1) := by decide +kernel
theorem dX1_answer_16 : decode cX1_answer 16 = .ok (.iaload, 1) := by decide +kernel
theorem dX1_answer_17 : decode cX1_answer 17 = .ok (.putfield 28, 3) := by decide +kernel
theorem dX1_answer_20 : decode cX1_answer 20 = .ok (.aload_n 0, 1) := by decide +kernel
theorem dX1_answer_21 : decode cX1_answer 21 = .ok (.aload_n 1, 1) := by decide +kernel
theorem dX1_answer_22 : decode cX1_answer 22 = .ok (.getfield 31, 3) := by decide +kernel
theorem dX1_answer_25 : decode cX1_answer 25 = .ok (.iload_n 2, 1) := by decide +kernel
theorem dX1_answer_26 : decode cX1_answer 26 = .ok (.iaload, 1) := by decide +kernel
theorem dX1_answer_27 : decode cX1_answer 27 = .ok (.putfield 34, 3) := by decide +kernel
theorem dX1_answer_30 : decode cX1_answer 30 = .ok (.aload_n 0, 1) := by decide +kernel
theorem dX1_answer_31 : decode cX1_answer 31 = .ok (.aload_n 1, 1) := by decide +kernel
theorem dX1_answer_32 : decode cX1_answer 32 = .ok (.iload_n 2, 1) := by decide +kernel
theorem dX1_answer_33 : decode cX1_answer 33 = .ok (.invokevirtual 37, 3) := by decide +kernel
theorem dX1_answer_36 : decode cX1_answer 36 = .ok (.putfield 41, 3) := by decide +kernel
theorem dX1_answer_39 : decode cX1_answer 39 = .ok (.aload_n 0, 1) := by decide +kernel
theorem dX1_answer_40 : decode cX1_answer 40 = .ok (.iload_n 3, 1) := by decide +kernel
theorem dX1_answer_41 : decode cX1_answer 41 = .ok (.ifCond .ne 10, 3) := by decide +kernel
theorem dX1_answer_44 : decode cX1_answer 44 = .ok (.aload_n 0, 1) := by decide +kernel
theorem dX1_answer_45 : decode cX1_answer 45 = .ok (.invokevirtual 44, 3) := by decide +kernel
theorem dX1_answer_48 : decode cX1_answer 48 = .ok (.goto 7, 3) := by decide +kernel
theorem dX1_answer_51 : decode cX1_answer 51 = .ok (.aload_n 0, 1) := by decide +kernel
theorem dX1_answer_52 : decode cX1_answer 52 = .ok (.invokevirtual 48, 3) := by decide +kernel
theorem dX1_answer_55 : decode cX1_answer 55 = .ok (.iconst 0, 1) := by decide +kernel
theorem dX1_answer_56 : decode cX1_answer 56 = .ok (.invokevirtual 51, 3) := by decide +kernel
theorem dX1_answer_59 : decode cX1_answer 59 = .ok (.ireturn, 1) := by decide +kernel
theorem dX1_bodyOf_0 : decode cX1_bodyOf 0 = .ok (.iload_n 0, 1) := by decide +kernel
theorem dX1_bodyOf_1 : decode cX1_bodyOf 1 = .ok (.istore_n 2, 1) := by decide +kernel
theorem dX1_bodyOf_2 : decode cX1_bodyOf 2 = .ok (.iconst 0, 1) := by decide +kernel
theorem dX1_bodyOf_3 : decode cX1_bodyOf 3 = .ok (.istore_n 3, 1) := by decide +kernel
theorem dX1_bodyOf_4 : decode cX1_bodyOf 4 = .ok (.iload_n 3, 1) := by decide +kernel
theorem dX1_bodyOf_5 : decode cX1_bodyOf 5 = .ok (.bipush 6, 2) := by decide +kernel
theorem dX1_bodyOf_7 : decode cX1_bodyOf 7 = .ok (.if_icmp .ge 21, 3) := by decide +kernel
theorem dX1_bodyOf_10 : decode cX1_bodyOf 10 = .ok (.aload_n 1, 1) := by decide +kernel
theorem dX1_bodyOf_11 : decode cX1_bodyOf 11 = .ok (.iload_n 2, 1) := by decide +kernel
theorem dX1_bodyOf_12 : decode cX1_bodyOf 12 = .ok (.iaload, 1) := by decide +kernel
theorem dX1_bodyOf_13 : decode cX1_bodyOf 13 = .ok (.ifCond .ne 15, 3) := by decide +kernel
theorem dX1_bodyOf_16 : decode cX1_bodyOf 16 = .ok (.getstatic 13, 3) := by decide +kernel
theorem dX1_bodyOf_19 : decode cX1_bodyOf 19 = .ok (.iload_n 2, 1) := by decide +kernel
theorem dX1_bodyOf_20 : decode cX1_bodyOf 20 = .ok (.iaload, 1) := by decide +kernel
theorem dX1_bodyOf_21 : decode cX1_bodyOf 21 = .ok (.istore_n 2, 1) := by decide +kernel
theorem dX1_bodyOf_22 : decode cX1_bodyOf 22 = .ok (.iinc 3 1, 3) := by decide +kernel
theorem dX1_bodyOf_25 : decode cX1_bodyOf 25 = .ok (.goto (-21), 3) := by decide +kernel
theorem dX1_bodyOf_28 : decode cX1_bodyOf 28 = .ok (.aload_n 1, 1) := by decide +kernel
theorem dX1_bodyOf_29 : decode cX1_bodyOf 29 = .ok (.iload_n 2, 1) := by decide +kernel
theorem dX1_bodyOf_30 : decode cX1_bodyOf 30 = .ok (.iaload, 1) := by decide +kernel
theorem dX1_bodyOf_31 : decode cX1_bodyOf 31 = .ok (.ireturn, 1) := by decide +kernel
theorem dX1_sizeBody_0 : decode cX1_sizeBody 0 = .ok (.aload_n 0, 1) := by decide +kernel
theorem dX1_sizeBody_1 : decode cX1_sizeBody 1 = .ok (.getfield 28, 3) := by decide +kernel
theorem dX1_sizeBody_4 : decode cX1_sizeBody 4 = .ok (.getstatic 55, 3) := by decide +kernel
theorem dX1_sizeBody_7 : decode cX1_sizeBody 7 = .ok (.invokestatic 58, 3) := by decide +kernel
theorem dX1_sizeBody_10 : decode cX1_sizeBody 10 = .ok (.ireturn, 1) := by decide +kernel
theorem dX1_markBody_0 : decode cX1_markBody 0 = .ok (.aload_n 0, 1) := by decide +kernel
theorem dX1_markBody_1 : decode cX1_markBody 1 = .ok (.getfield 28, 3) := by decide +kernel
theorem dX1_markBody_4 : decode cX1_markBody 4 = .ok (.getstatic 62, 3) := by decide +kernel
theorem dX1_markBody_7 : decode cX1_markBody 7 = .ok (.invokestatic 58, 3) := by decide +kernel
theorem dX1_markBody_10 : decode cX1_markBody 10 = .ok (.ireturn, 1) := by decide +kernel
theorem dX1_begin_0 : decode cX1_begin 0 = .ok (.iload_n 2, 1) := by decide +kernel
theorem dX1_begin_1 : decode cX1_begin 1 = .ok (.bipush 8, 2) := by decide +kernel
theorem dX1_begin_3 : decode cX1_begin 3 = .ok (.if_icmp .le 5, 3) := by decide +kernel
theorem dX1_begin_6 : decode cX1_begin 6 = .ok (.iconst 0, 1) := by decide +kernel
theorem dX1_begin_7 : decode cX1_begin 7 = .ok (.ireturn, 1) := by decide +kernel
theorem dX1_begin_8 : decode cX1_begin 8 = .ok (.aload_n 0, 1) := by decide +kernel
theorem dX1_begin_9 : decode cX1_begin 9 = .ok (.iload_n 1, 1) := by decide +kernel
theorem dX1_begin_10 : decode cX1_begin 10 = .ok (.invokevirtual 65, 3) := by decide +kernel
theorem dX1_begin_13 : decode cX1_begin 13 = .ok (.iload_n 2, 1) := by decide +kernel
theorem dX1_begin_14 : decode cX1_begin 14 = .ok (.iconst 1, 1) := by decide +kernel
theorem dX1_begin_15 : decode cX1_begin 15 = .ok (.iadd, 1) := by decide +kernel
theorem dX1_begin_16 : decode cX1_begin 16 = .ok (.istore_n 3, 1) := by decide +kernel
theorem dX1_begin_17 : decode cX1_begin 17 = .ok (.iload_n 1, 1) := by decide +kernel
theorem dX1_begin_18 : decode cX1_begin 18 = .ok (.tableswitch 185 10 24 #[74, 79, 97, 106, 117, 185, 185, 185, 185, 185, 127, 132, 145, 157, 175], 74) := by decide +kernel
theorem dX1_begin_92 : decode cX1_begin 92 = .ok (.aload_n 0, 1) := by decide +kernel
theorem dX1_begin_93 : decode cX1_begin 93 = .ok (.getfield 34, 3) := by decide +kernel
theorem dX1_begin_96 : decode cX1_begin 96 = .ok (.ireturn, 1) := by decide +kernel
theorem dX1_begin_97 : decode cX1_begin 97 = .ok (.aload_n 0, 1) := by decide +kernel
theorem dX1_begin_98 : decode cX1_begin 98 = .ok (.bipush 10, 2) := by decide +kernel
theorem dX1_begin_100 : decode cX1_begin 100 = .ok (.iload_n 3, 1) := by decide +kernel
theorem dX1_begin_101 : decode cX1_begin 101 = .ok (.invokevirtual 51, 3) := by decide +kernel
theorem dX1_begin_104 : decode cX1_begin 104 = .ok (.aload_n 0, 1) := by decide +kernel
theorem dX1_begin_105 : decode cX1_begin 105 = .ok (.aload_n 0, 1) := by decide +kernel
theorem dX1_begin_106 : decode cX1_begin 106 = .ok (.invokevirtual 48, 3) := by decide +kernel
theorem dX1_begin_109 : decode cX1_begin 109 = .ok (.iload_n 3, 1) := by decide +kernel
theorem dX1_begin_110 : decode cX1_begin 110 = .ok (.invokevirtual 51, 3) := by decide +kernel
theorem dX1_begin_113 : decode cX1_begin 113 = .ok (.iadd, 1) := by decide +kernel
theorem dX1_begin_114 : decode cX1_begin 114 = .ok (.ireturn, 1) := by decide +kernel
theorem dX1_begin_115 : decode cX1_begin 115 = .ok (.aload_n 0, 1) := by decide +kernel
theorem dX1_begin_116 : decode cX1_begin 116 = .ok (.bipush 11, 2) := by decide +kernel
theorem dX1_begin_118 : decode cX1_begin 118 = .ok (.iload_n 3, 1) := by decide +kernel
theorem dX1_begin_119 : decode cX1_begin 119 = .ok (.invokevirtual 51, 3) := by decide +kernel
theorem dX1_begin_122 : decode cX1_begin 122 = .ok (.ineg, 1) := by decide +kernel
theorem dX1_begin_123 : decode cX1_begin 123 = .ok (.ireturn, 1) := by decide +kernel
theorem dX1_begin_124 : decode cX1_begin 124 = .ok (.aload_n 0, 1) := by decide +kernel
theorem dX1_begin_125 : decode cX1_begin 125 = .ok (.bipush 10, 2) := by decide +kernel
theorem dX1_begin_127 : decode cX1_begin 127 = .ok (.iload_n 3, 1) := by decide +kernel
theorem dX1_begin_128 : decode cX1_begin 128 = .ok (.invokevirtual 51, 3) := by decide +kernel
theorem dX1_begin_131 : decode cX1_begin 131 = .ok (.bipush 100, 2) := by decide +kernel
theorem dX1_begin_133 : decode cX1_begin 133 = .ok (.isub, 1) := by decide +kernel
theorem dX1_begin_134 : decode cX1_begin 134 = .ok (.ireturn, 1) := by decide +kernel
theorem dX1_begin_135 : decode cX1_begin 135 = .ok (.iconst 2, 1) := by decide +kernel
theorem dX1_begin_136 : decode cX1_begin 136 = .ok (.aload_n 0, 1) := by decide +kernel
theorem dX1_begin_137 : decode cX1_begin 137 = .ok (.bipush 13, 2) := by decide +kernel
theorem dX1_begin_139 : decode cX1_begin 139 = .ok (.iload_n 3, 1) := by decide +kernel
theorem dX1_begin_140 : decode cX1_begin 140 = .ok (.invokevirtual 51, 3) := by decide +kernel
theorem dX1_begin_143 : decode cX1_begin 143 = .ok (.imul, 1) := by decide +kernel
theorem dX1_begin_144 : decode cX1_begin 144 = .ok (.ireturn, 1) := by decide +kernel
theorem dX1_begin_145 : decode cX1_begin 145 = .ok (.aload_n 0, 1) := by decide +kernel
theorem dX1_begin_146 : decode cX1_begin 146 = .ok (.getfield 20, 3) := by decide +kernel
theorem dX1_begin_149 : decode cX1_begin 149 = .ok (.ireturn, 1) := by decide +kernel
theorem dX1_begin_150 : decode cX1_begin 150 = .ok (.aload_n 0, 1) := by decide +kernel
theorem dX1_begin_151 : decode cX1_begin 151 = .ok (.bipush 20, 2) := by decide +kernel
theorem dX1_begin_153 : decode cX1_begin 153 = .ok (.iload_n 3, 1) := by decide +kernel
theorem dX1_begin_154 : decode cX1_begin 154 = .ok (.invokevirtual 51, 3) := by decide +kernel
theorem dX1_begin_157 : decode cX1_begin 157 = .ok (.aload_n 0, 1) := by decide +kernel
theorem dX1_begin_158 : decode cX1_begin 158 = .ok (.getfield 41, 3) := by decide +kernel
theorem dX1_begin_161 : decode cX1_begin 161 = .ok (.iadd, 1) := by decide +kernel
theorem dX1_begin_162 : decode cX1_begin 162 = .ok (.ireturn, 1) := by decide +kernel
theorem dX1_begin_163 : decode cX1_begin 163 = .ok (.aload_n 0, 1) := by decide +kernel
theorem dX1_begin_164 : decode cX1_begin 164 = .ok (.bipush 21, 2) := by decide +kernel
theorem dX1_begin_166 : decode cX1_begin 166 = .ok (.iload_n 3, 1) := by decide +kernel
theorem dX1_begin_167 : decode cX1_begin 167 = .ok (.invokevirtual 51, 3) := by decide +kernel
theorem dX1_begin_170 : decode cX1_begin 170 = .ok (.sipush 1000, 3) := by decide +kernel
theorem dX1_begin_173 : decode cX1_begin 173 = .ok (.isub, 1) := by decide +kernel
theorem dX1_begin_174 : decode cX1_begin 174 = .ok (.ireturn, 1) := by decide +kernel
theorem dX1_begin_175 : decode cX1_begin 175 = .ok (.aload_n 0, 1) := by decide +kernel
theorem dX1_begin_176 : decode cX1_begin 176 = .ok (.bipush 20, 2) := by decide +kernel
theorem dX1_begin_178 : decode cX1_begin 178 = .ok (.iload_n 3, 1) := by decide +kernel
theorem dX1_begin_179 : decode cX1_begin 179 = .ok (.invokevirtual 51, 3) := by decide +kernel
theorem dX1_begin_182 : decode cX1_begin 182 = .ok (.aload_n 0, 1) := by decide +kernel
theorem dX1_begin_183 : decode cX1_begin 183 = .ok (.aload_n 0, 1) := by decide +kernel
theorem dX1_begin_184 : decode cX1_begin 184 = .ok (.invokevirtual 44, 3) := by decide +kernel
theorem dX1_begin_187 : decode cX1_begin 187 = .ok (.iload_n 3, 1) := by decide +kernel
theorem dX1_begin_188 : decode cX1_begin 188 = .ok (.invokevirtual 51, 3) := by decide +kernel
theorem dX1_begin_191 : decode cX1_begin 191 = .ok (.isub, 1) := by decide +kernel
theorem dX1_begin_192 : decode cX1_begin 192 = .ok (.ireturn, 1) := by decide +kernel
theorem dX1_begin_193 : decode cX1_begin 193 = .ok (.iconst 2, 1) := by decide +kernel
theorem dX1_begin_194 : decode cX1_begin 194 = .ok (.aload_n 0, 1) := by decide +kernel
theorem dX1_begin_195 : decode cX1_begin 195 = .ok (.bipush 21, 2) := by decide +kernel
theorem dX1_begin_197 : decode cX1_begin 197 = .ok (.iload_n 3, 1) := by decide +kernel
theorem dX1_begin_198 : decode cX1_begin 198 = .ok (.invokevirtual 51, 3) := by decide +kernel
theorem dX1_begin_201 : decode cX1_begin 201 = .ok (.imul, 1) := by decide +kernel
theorem dX1_begin_202 : decode cX1_begin 202 = .ok (.ireturn, 1) := by decide +kernel
theorem dX1_begin_203 : decode cX1_begin 203 = .ok (.iconst 0, 1) := by decide +kernel
theorem dX1_begin_204 : decode cX1_begin 204 = .ok (.ireturn, 1) := by decide +kernel
theorem dX1_leave_0 : decode cX1_leave 0 = .ok (.aload_n 0, 1) := by decide +kernel
theorem dX1_leave_1 : decode cX1_leave 1 = .ok (.getfield 16, 3) := by decide +kernel
theorem dX1_leave_4 : decode cX1_leave 4 = .ok (.bipush 16, 2) := by decide +kernel
theorem dX1_leave_6 : decode cX1_leave 6 = .ok (.if_icmp .ge 23, 3) := by decide +kernel
theorem dX1_leave_9 : decode cX1_leave 9 = .ok (.aload_n 0, 1) := by decide +kernel
theorem dX1_leave_10 : decode cX1_leave 10 = .ok (.getfield 9, 3) := by decide +kernel
theorem dX1_leave_13 : decode cX1_leave 13 = .ok (.aload_n 0, 1) := by decide +kernel
theorem dX1_leave_14 : decode cX1_leave 14 = .ok (.getfield 16, 3) := by decide +kernel
theorem dX1_leave_17 : decode cX1_leave 17 = .ok (.iload_n 1, 1) := by decide +kernel
theorem dX1_leave_18 : decode cX1_leave 18 = .ok (.iastore, 1) := by decide +kernel
theorem dX1_leave_19 : decode cX1_leave 19 = .ok (.aload_n 0, 1) := by decide +kernel
theorem dX1_leave_20 : decode cX1_leave 20 = .ok (.dup, 1) := by decide +kernel
theorem dX1_leave_21 : decode cX1_leave 21 = .ok (.getfield 16, 3) := by decide +kernel
theorem dX1_leave_24 : decode cX1_leave 24 = .ok (.iconst 1, 1) := by decide +kernel
theorem dX1_leave_25 : decode cX1_leave 25 = .ok (.iadd, 1) := by decide +kernel
theorem dX1_leave_26 : decode cX1_leave 26 = .ok (.putfield 16, 3) := by decide +kernel
theorem dX1_leave_29 : decode cX1_leave 29 = .ok (.return_, 1) := by decide +kernel
theorem dX2_init_0 : decode cX2_init 0 = .ok (.aload_n 0, 1) := by decide +kernel
theorem dX2_init_1 : decode cX2_init 1 = .ok (.invokespecial 3, 3) := by decide +kernel
theorem dX2_init_4 : decode cX2_init 4 = .ok (.aload_n 0, 1) := by decide +kernel
theorem dX2_init_5 : decode cX2_init 5 = .ok (.iconst 4, 1) := by decide +kernel
theorem dX2_init_6 : decode cX2_init 6 = .ok (.newarray .int, 2) := by decide +kernel
theorem dX2_init_8 : decode cX2_init 8 = .ok (.putfield 11, 3) := by decide +kernel
theorem dX2_init_11 : decode cX2_init 11 = .ok (.aload_n 0, 1) := by decide +kernel
theorem dX2_init_12 : decode cX2_init 12 = .ok (.new 17, 3) := by decide +kernel
theorem dX2_init_15 : decode cX2_init 15 = .ok (.dup, 1) := by decide +kernel
theorem dX2_init_16 : decode cX2_init 16 = .ok (.invokespecial 19, 3) := by decide +kernel
theorem dX2_init_19 : decode cX2_init 19 = .ok (.putfield 20, 3) := by decide +kernel
theorem dX2_init_22 : decode cX2_init 22 = .ok (.aload_n 0, 1) := by decide +kernel
theorem dX2_init_23 : decode cX2_init 23 = .ok (.new 24, 3) := by decide +kernel
theorem dX2_init_26 : decode cX2_init 26 = .ok (.dup, 1) := by decide +kernel
theorem dX2_init_27 : decode cX2_init 27 = .ok (.invokespecial 26, 3) := by decide +kernel
theorem dX2_init_30 : decode cX2_init 30 = .ok (.putfield 27, 3) := by decide +kernel
theorem dX2_init_33 : decode cX2_init 33 = .ok (.return_, 1) := by decide +kernel
theorem dX2_isRest_0 : decode cX2_isRest 0 = .ok (.iconst 0, 1) := by decide +kernel
theorem dX2_isRest_1 : decode cX2_isRest 1 = .ok (.istore 5, 2) := by decide +kernel
theorem dX2_isRest_3 : decode cX2_isRest 3 = .ok (.iload 5, 2) := by decide +kernel
theorem dX2_isRest_5 : decode cX2_isRest 5 = .ok (.aload_n 1, 1) := by decide +kernel
theorem dX2_isRest_6 : decode cX2_isRest 6 = .ok (.getfield 31, 3) := by decide +kernel
theorem dX2_isRest_9 : decode cX2_isRest 9 = .ok (.if_icmp .ge 56, 3) := by decide +kernel
theorem dX2_isRest_12 : decode cX2_isRest 12 = .ok (.aload_n 0, 1) := by decide +kernel
theorem dX2_isRest_13 : decode cX2_isRest 13 = .ok (.getfield 27, 3) := by decide +kernel
theorem dX2_isRest_16 : decode cX2_isRest 16 = .ok (.aload_n 1, 1) := by decide +kernel
theorem dX2_isRest_17 : decode cX2_isRest 17 = .ok (.iload_n 2, 1) := by decide +kernel
theorem dX2_isRest_18 : decode cX2_isRest 18 = .ok (.aload_n 3, 1) := by decide +kernel
theorem dX2_isRest_19 : decode cX2_isRest 19 = .ok (.iload 5, 2) := by decide +kernel
theorem dX2_isRest_21 : decode cX2_isRest 21 = .ok (.iload 4, 2) := by decide +kernel
theorem dX2_isRest_23 : decode cX2_isRest 23 = .ok (.invokevirtual 35, 3) := by decide +kernel
theorem dX2_isRest_26 : decode cX2_isRest 26 = .ok (.aload_n 0, 1) := by decide +kernel
theorem dX2_isRest_27 : decode cX2_isRest 27 = .ok (.getfield 27, 3) := by decide +kernel
theorem dX2_isRest_30 : decode cX2_isRest 30 = .ok (.aload_n 3, 1) := by decide +kernel
theorem dX2_isRest_31 : decode cX2_isRest 31 = .ok (.getfield 39, 3) := by decide +kernel
theorem dX2_isRest_34 : decode cX2_isRest 34 = .ok (.iload 5, 2) := by decide +kernel
theorem dX2_isRest_36 : decode cX2_isRest 36 = .ok (.iaload, 1) := by decide +kernel
theorem dX2_isRest_37 : decode cX2_isRest 37 = .ok (.invokevirtual 42, 3) := by decide +kernel
theorem dX2_isRest_40 : decode cX2_isRest 40 = .ok (.aload_n 0, 1) := by decide +kernel
theorem dX2_isRest_41 : decode cX2_isRest 41 = .ok (.getfield 27, 3) := by decide +kernel
theorem dX2_isRest_44 : decode cX2_isRest 44 = .ok (.aload_n 0, 1) := by decide +kernel
theorem dX2_isRest_45 : decode cX2_isRest 45 = .ok (.getfield 27, 3) := by decide +kernel
theorem dX2_isRest_48 : decode cX2_isRest 48 = .ok (.invokevirtual 46, 3) := by decide +kernel
theorem dX2_isRest_51 : decode cX2_isRest 51 = .ok (.invokevirtual 42, 3) := by decide +kernel
theorem dX2_isRest_54 : decode cX2_isRest 54 = .ok (.if_icmp .ge 5, 3) := by decide +kernel
theorem dX2_isRest_57 : decode cX2_isRest 57 = .ok (.iconst 0, 1) := by decide +kernel
theorem dX2_isRest_58 : decode cX2_isRest 58 = .ok (.ireturn, 1) := by decide +kernel
theorem dX2_isRest_59 : decode cX2_isRest 59 = .ok (.iinc 5 1, 3) := by decide +kernel
theorem dX2_isRest_62 : decode cX2_isRest 62 = .ok (.goto (-59), 3) := by decide +kernel
theorem dX2_isRest_65 : decode cX2_isRest 65 = .ok (.iconst 1, 1) := by decide +kernel
theorem dX2_isRest_66 : decode cX2_isRest 66 = .ok (.ireturn, 1) := by decide +kernel
theorem dX2_seekRests_0 : decode cX2_seekRests 0 = .ok (.aload_n 0, 1) := by decide +kernel
theorem dX2_seekRests_1 : decode cX2_seekRests 1 = .ok (.iconst 0, 1) := by decide +kernel
theorem dX2_seekRests_2 : decode cX2_seekRests 2 = .ok (.putfield 50, 3) := by decide +kernel
theorem dX2_seekRests_5 : decode cX2_seekRests 5 = .ok (.aload_n 0, 1) := by decide +kernel
theorem dX2_seekRests_6 : decode cX2_seekRests 6 = .ok (.getfield 20, 3) := by decide +kernel
theorem dX2_seekRests_9 : decode cX2_seekRests 9 = .ok (.aload_n 1, 1) := by decide +kernel
theorem dX2_seekRests_10 : decode cX2_seekRests 10 = .ok (.getfield 31, 3) := by decide +kernel
theorem dX2_seekRests_13 : decode cX2_seekRests 13 = .ok (.putfield 53, 3) := by decide +kernel
theorem dX2_seekRests_16 : decode cX2_seekRests 16 = .ok (.iconst 1, 1) := by decide +kernel
theorem dX2_seekRests_17 : decode cX2_seekRests 17 = .ok (.istore_n 3, 1) := by decide +kernel
theorem dX2_seekRests_18 : decode cX2_seekRests 18 = .ok (.iconst 0, 1) := by decide +kernel
theorem dX2_seekRests_19 : decode cX2_seekRests 19 = .ok (.istore 4, 2) := by decide +kernel
theorem dX2_seekRests_21 : decode cX2_seekRests 21 = .ok (.iload 4, 2) := by decide +kernel
theorem dX2_seekRests_23 : decode cX2_seekRests 23 = .ok (.aload_n 1, 1) := by decide +kernel
theorem dX2_seekRests_24 : decode cX2_seekRests 24 = .ok (.getfield 31, 3) := by decide +kernel
theorem dX2_seekRests_27 : decode cX2_seekRests 27 = .ok (.if_icmp .ge 25, 3) := by decide +kernel
theorem dX2_seekRests_30 : decode cX2_seekRests 30 = .ok (.aload_n 0, 1) := by decide +kernel
theorem dX2_seekRests_31 : decode cX2_seekRests 31 = .ok (.getfield 20, 3) := by decide +kernel
theorem dX2_seekRests_34 : decode cX2_seekRests 34 = .ok (.getfield 39, 3) := by decide +kernel
theorem dX2_seekRests_37 : decode cX2_seekRests 37 = .ok (.iload 4, 2) := by decide +kernel
theorem dX2_seekRests_39 : decode cX2_seekRests 39 = .ok (.iconst 0, 1) := by decide +kernel
theorem dX2_seekRests_40 : decode cX2_seekRests 40 = .ok (.iastore, 1) := by decide +kernel
theorem dX2_seekRests_41 : decode cX2_seekRests 41 = .ok (.iload_n 3, 1) := by decide +kernel
theorem dX2_seekRests_42 : decode cX2_seekRests 42 = .ok (.bipush 6, 2) := by decide +kernel
theorem dX2_seekRests_44 : decode cX2_seekRests 44 = .ok (.imul, 1) := by decide +kernel
theorem dX2_seekRests_45 : decode cX2_seekRests 45 = .ok (.istore_n 3, 1) := by decide +kernel
theorem dX2_seekRests_46 : decode cX2_seekRests 46 = .ok (.iinc 4 1, 3) := by decide +kernel
theorem dX2_seekRests_49 : decode cX2_seekRests 49 = .ok (.goto (-28), 3) := by decide +kernel
theorem dX2_seekRests_52 : decode cX2_seekRests 52 = .ok (.iconst 0, 1) := by decide +kernel
theorem dX2_seekRests_53 : decode cX2_seekRests 53 = .ok (.istore 4, 2) := by decide +kernel
theorem dX2_seekRests_55 : decode cX2_seekRests 55 = .ok (.iload 4, 2) := by decide +kernel
theorem dX2_seekRests_57 : decode cX2_seekRests 57 = .ok (.iload_n 3, 1) := by decide +kernel
theorem dX2_seekRests_58 : decode cX2_seekRests 58 = .ok (.if_icmp .ge 64, 3) := by decide +kernel
theorem dX2_seekRests_61 : decode cX2_seekRests 61 = .ok (.aload_n 0, 1) := by decide +kernel
theorem dX2_seekRests_62 : decode cX2_seekRests 62 = .ok (.aload_n 1, 1) := by decide +kernel
theorem dX2_seekRests_63 : decode cX2_seekRests 63 = .ok (.iload_n 2, 1) := by decide +kernel
theorem dX2_seekRests_64 : decode cX2_seekRests 64 = .ok (.aload_n 0, 1) := by decide +kernel
theorem dX2_seekRests_65 : decode cX2_seekRests 65 = .ok (.getfield 20, 3) := by decide +kernel
theorem dX2_seekRests_68 : decode cX2_seekRests 68 = .ok (.aload_n 1, 1) := by decide +kernel
theorem dX2_seekRests_69 : decode cX2_seekRests 69 = .ok (.getfield 54, 3) := by decide +kernel
theorem dX2_seekRests_72 : decode cX2_seekRests 72 = .ok (.invokevirtual 57, 3) := by decide +kernel
theorem dX2_seekRests_75 : decode cX2_seekRests 75 = .ok (.ifCond .eq 37, 3) := by decide +kernel
theorem dX2_seekRests_78 : decode cX2_seekRests 78 = .ok (.aload_n 0, 1) := by decide +kernel
theorem dX2_seekRests_79 : decode cX2_seekRests 79 = .ok (.getfield 50, 3) := by decide +kernel
theorem dX2_seekRests_82 : decode cX2_seekRests 82 = .ok (.ifCond .ne 20, 3) := by decide +kernel
theorem dX2_seekRests_85 : decode cX2_seekRests 85 = .ok (.aload_n 0, 1) := by decide +kernel
theorem dX2_seekRests_86 : decode cX2_seekRests 86 = .ok (.getfield 20, 3) := by decide +kernel
theorem dX2_seekRests_89 : decode cX2_seekRests 89 = .ok (.getfield 39, 3) := by decide +kernel
theorem dX2_seekRests_92 : decode cX2_seekRests 92 = .ok (.iconst 0, 1) := by decide +kernel
theorem dX2_seekRests_93 : decode cX2_seekRests 93 = .ok (.aload_n 0, 1) := by decide +kernel
theorem dX2_seekRests_94 : decode cX2_seekRests 94 = .ok (.getfield 11, 3) := by decide +kernel
theorem dX2_seekRests_97 : decode cX2_seekRests 97 = .ok (.iconst 0, 1) := by decide +kernel
theorem dX2_seekRests_98 : decode cX2_seekRests 98 = .ok (.iconst 4, 1) := by decide +kernel
theorem dX2_seekRests_99 : decode cX2_seekRests 99 = .ok (.invokestatic 61, 3) := by decide +kernel
theorem dX2_seekRests_102 : decode cX2_seekRests 102 = .ok (.aload_n 0, 1) := by decide +kernel
theorem dX2_seekRests_103 : decode cX2_seekRests 103 = .ok (.dup, 1) := by decide +kernel
theorem dX2_seekRests_104 : decode cX2_seekRests 104 = .ok (.getfield 50, 3) := by decide +kernel
theorem dX2_seekRests_107 : decode cX2_seekRests 107 = .ok (.iconst 1, 1) := by decide +kernel
theorem dX2_seekRests_108 : decode cX2_seekRests 108 = .ok (.iadd, 1) := by decide +kernel
theorem dX2_seekRests_109 : decode cX2_seekRests 109 = .ok (.putfield 50, 3) := by decide +kernel
theorem dX2_seekRests_112 : decode cX2_seekRests 112 = .ok (.aload_n 0, 1) := by decide +kernel
theorem dX2_seekRests_113 : decode cX2_seekRests 113 = .ok (.invokevirtual 67, 3) := by decide +kernel
theorem dX2_seekRests_116 : decode cX2_seekRests 116 = .ok (.iinc 4 1, 3) := by decide +kernel
theorem dX2_seekRests_119 : decode cX2_seekRests 119 = .ok (.goto (-64), 3) := by decide +kernel
theorem dX2_seekRests_122 : decode cX2_seekRests 122 = .ok (.return_, 1) := by decide +kernel
theorem dX2_advance_0 : decode cX2_advance 0 = .ok (.aload_n 0, 1) := by decide +kernel
theorem dX2_advance_1 : decode cX2_advance 1 = .ok (.getfield 20, 3) := by decide +kernel
theorem dX2_advance_4 : decode cX2_advance 4 = .ok (.getfield 53, 3) := by decide +kernel
theorem dX2_advance_7 : decode cX2_advance 7 = .ok (.iconst 1, 1) := by decide +kernel
theorem dX2_advance_8 : decode cX2_advance 8 = .ok (.isub, 1) := by decide +kernel
theorem dX2_advance_9 : decode cX2_advance 9 = .ok (.istore_n 1, 1) := by decide +kernel
theorem dX2_advance_10 : decode cX2_advance 10 = .ok (.iload_n 1, 1) := by decide +kernel
theorem dX2_advance_11 : decode cX2_advance 11 = .ok (.ifCond .lt 46, 3) := by decide +kernel
theorem dX2_advance_14 : decode cX2_advance 14 = .ok (.aload_n 0, 1) := by decide +kernel
theorem dX2_advance_15 : decode cX2_advance 15 = .ok (.getfield 20, 3) := by decide +kernel
theorem dX2_advance_18 : decode cX2_advance 18 = .ok (.getfield 39, 3) := by decide +kernel
theorem dX2_advance_21 : decode cX2_advance 21 = .ok (.iload_n 1, 1) := by decide +kernel
theorem dX2_advance_22 : decode cX2_advance 22 = .ok (.iaload, 1) := by decide +kernel
theorem dX2_advance_23 : decode cX2_advance 23 = .ok (.iconst 5, 1) := by decide +kernel
theorem dX2_advance_24 : decode cX2_advance 24 = .ok (.if_icmp .ge 17, 3) := by decide +kernel
theorem dX2_advance_27 : decode cX2_advance 27 = .ok (.aload_n 0, 1) := by decide +kernel
theorem dX2_advance_28 : decode cX2_advance 28 = .ok (.getfield 20, 3) := by decide +kernel
theorem dX2_advance_31 : decode cX2_advance 31 = .ok (.getfield 39, 3) := by decide +kernel
theorem dX2_advance_34 : decode cX2_advance 34 = .ok (.iload_n 1, 1) := by decide +kernel
theorem dX2_advance_35 : decode cX2_advance 35 = .ok (.dup2, 1) := by decide +kernel
theorem dX2_advance_36 : decode cX2_advance 36 = .ok (.iaload, 1) := by decide +kernel
theorem dX2_advance_37 : decode cX2_advance 37 = .ok (.iconst 1, 1) := by decide +kernel
theorem dX2_advance_38 : decode cX2_advance 38 = .ok (.iadd, 1) := by decide +kernel
theorem dX2_advance_39 : decode cX2_advance 39 = .ok (.iastore, 1) := by decide +kernel
theorem dX2_advance_40 : decode cX2_advance 40 = .ok (.return_, 1) := by decide +kernel
theorem dX2_advance_41 : decode cX2_advance 41 = .ok (.aload_n 0, 1) := by decide +kernel
theorem dX2_advance_42 : decode cX2_advance 42 = .ok (.getfield 20, 3) := by decide +kernel
theorem dX2_advance_45 : decode cX2_advance 45 = .ok (.getfield 39, 3) := by decide +kernel
theorem dX2_advance_48 : decode cX2_advance 48 = .ok (.iload_n 1, 1) := by decide +kernel
theorem dX2_advance_49 : decode cX2_advance 49 = .ok (.iconst 0, 1) := by decide +kernel
theorem dX2_advance_50 : decode cX2_advance 50 = .ok (.iastore, 1) := by decide +kernel
theorem dX2_advance_51 : decode cX2_advance 51 = .ok (.iinc 1 (-1), 3) := by decide +kernel
theorem dX2_advance_54 : decode cX2_advance 54 = .ok (.goto (-44), 3) := by decide +kernel
theorem dX2_advance_57 : decode cX2_advance 57 = .ok (.return_, 1) := by decide +kernel
theorem dX2_takeTurns_0 : decode cX2_takeTurns 0 = .ok (.iconst 1, 1) := by decide +kernel
theorem dX2_takeTurns_1 : decode cX2_takeTurns 1 = .ok (.istore 4, 2) := by decide +kernel
theorem dX2_takeTurns_3 : decode cX2_takeTurns 3 = .ok (.iload 4, 2) := by decide +kernel
theorem dX2_takeTurns_5 : decode cX2_takeTurns 5 = .ok (.bipush 20, 2) := by decide +kernel
theorem dX2_takeTurns_7 : decode cX2_takeTurns 7 = .ok (.if_icmp .gt 96, 3) := by decide +kernel
theorem dX2_takeTurns_10 : decode cX2_takeTurns 10 = .ok (.iconst 0, 1) := by decide +kernel
theorem dX2_takeTurns_11 : decode cX2_takeTurns 11 = .ok (.istore 5, 2) := by decide +kernel
theorem dX2_takeTurns_13 : decode cX2_takeTurns 13 = .ok (.iconst 0, 1) := by decide +kernel
theorem dX2_takeTurns_14 : decode cX2_takeTurns 14 = .ok (.istore 6, 2) := by decide +kernel
theorem dX2_takeTurns_16 : decode cX2_takeTurns 16 = .ok (.iload 6, 2) := by decide +kernel
theorem dX2_takeTurns_18 : decode cX2_takeTurns 18 = .ok (.aload_n 1, 1) := by decide +kernel
theorem dX2_takeTurns_19 : decode cX2_takeTurns 19 = .ok (.getfield 31, 3) := by decide +kernel
theorem dX2_takeTurns_22 : decode cX2_takeTurns 22 = .ok (.if_icmp .ge 67, 3) := by decide +kernel
theorem dX2_takeTurns_25 : decode cX2_takeTurns 25 = .ok (.aload_n 0, 1) := by decide +kernel
theorem dX2_takeTurns_26 : decode cX2_takeTurns 26 = .ok (.getfield 27, 3) := by decide +kernel
theorem dX2_takeTurns_29 : decode cX2_takeTurns 29 = .ok (.aload_n 1, 1) := by decide +kernel
theorem dX2_takeTurns_30 : decode cX2_takeTurns 30 = .ok (.iload_n 2, 1) := by decide +kernel
theorem dX2_takeTurns_31 : decode cX2_takeTurns 31 = .ok (.aload_n 3, 1) := by decide +kernel
theorem dX2_takeTurns_32 : decode cX2_takeTurns 32 = .ok (.iload 6, 2) := by decide +kernel
theorem dX2_takeTurns_34 : decode cX2_takeTurns 34 = .ok (.aload_n 1, 1) := by decide +kernel
theorem dX2_takeTurns_35 : decode cX2_takeTurns 35 = .ok (.getfield 54, 3) := by decide +kernel
theorem dX2_takeTurns_38 : decode cX2_takeTurns 38 = .ok (.invokevirtual 35, 3) := by decide +kernel
theorem dX2_takeTurns_41 : decode cX2_takeTurns 41 = .ok (.aload_n 0, 1) := by decide +kernel
theorem dX2_takeTurns_42 : decode cX2_takeTurns 42 = .ok (.getfield 27, 3) := by decide +kernel
theorem dX2_takeTurns_45 : decode cX2_takeTurns 45 = .ok (.invokevirtual 46, 3) := by decide +kernel
theorem dX2_takeTurns_48 : decode cX2_takeTurns 48 = .ok (.istore 7, 2) := by decide +kernel
theorem dX2_takeTurns_50 : decode cX2_takeTurns 50 = .ok (.iload 5, 2) := by decide +kernel
theorem dX2_takeTurns_52 : decode cX2_takeTurns 52 = .ok (.ifCond .ne 15, 3) := by decide +kernel
theorem dX2_takeTurns_55 : decode cX2_takeTurns 55 = .ok (.iload 7, 2) := by decide +kernel
theorem dX2_takeTurns_57 : decode cX2_takeTurns 57 = .ok (.aload_n 3, 1) := by decide +kernel
theorem dX2_takeTurns_58 : decode cX2_takeTurns 58 = .ok (.getfield 39, 3) := by decide +kernel
theorem dX2_takeTurns_61 : decode cX2_takeTurns 61 = .ok (.iload 6, 2) := by decide +kernel
theorem dX2_takeTurns_63 : decode cX2_takeTurns 63 = .ok (.iaload, 1) := by decide +kernel
theorem dX2_takeTurns_64 : decode cX2_takeTurns 64 = .ok (.if_icmp .eq 7, 3) := by decide +kernel
theorem dX2_takeTurns_67 : decode cX2_takeTurns 67 = .ok (.iconst 1, 1) := by decide +kernel
theorem dX2_takeTurns_68 : decode cX2_takeTurns 68 = .ok (.goto 4, 3) := by decide +kernel
theorem dX2_takeTurns_71 : decode cX2_takeTurns 71 = .ok (.iconst 0, 1) := by decide +kernel
theorem dX2_takeTurns_72 : decode cX2_takeTurns 72 = .ok (.istore 5, 2) := by decide +kernel
theorem dX2_takeTurns_74 : decode cX2_takeTurns 74 = .ok (.aload_n 3, 1) := by decide +kernel
theorem dX2_takeTurns_75 : decode cX2_takeTurns 75 = .ok (.getfield 39, 3) := by decide +kernel
theorem dX2_takeTurns_78 : decode cX2_takeTurns 78 = .ok (.iload 6, 2) := by decide +kernel
theorem dX2_takeTurns_80 : decode cX2_takeTurns 80 = .ok (.iload 7, 2) := by decide +kernel
theorem dX2_takeTurns_82 : decode cX2_takeTurns 82 = .ok (.iastore, 1) := by decide +kernel
theorem dX2_takeTurns_83 : decode cX2_takeTurns 83 = .ok (.iinc 6 1, 3) := by decide +kernel
theorem dX2_takeTurns_86 : decode cX2_takeTurns 86 = .ok (.goto (-70), 3) := by decide +kernel
theorem dX2_takeTurns_89 : decode cX2_takeTurns 89 = .ok (.iload 5, 2) := by decide +kernel
theorem dX2_takeTurns_91 : decode cX2_takeTurns 91 = .ok (.ifCond .ne 6, 3) := by decide +kernel
theorem dX2_takeTurns_94 : decode cX2_takeTurns 94 = .ok (.iload 4, 2) := by decide +kernel
theorem dX2_takeTurns_96 : decode cX2_takeTurns 96 = .ok (.ireturn, 1) := by decide +kernel
theorem dX2_takeTurns_97 : decode cX2_takeTurns 97 = .ok (.iinc 4 1, 3) := by decide +kernel
theorem dX2_takeTurns_100 : decode cX2_takeTurns 100 = .ok (.goto (-97), 3) := by decide +kernel
theorem dX2_takeTurns_103 : decode cX2_takeTurns 103 = .ok (.ldc 70, 2) := by decide +kernel
theorem dX2_takeTurns_105 : decode cX2_takeTurns 105 = .ok (.ireturn, 1) := by decide +kernel
theorem dX3_init_0 : decode cX3_init 0 = .ok (.aload_n 0, 1) := by decide +kernel
theorem dX3_init_1 : decode cX3_init 1 = .ok (.invokespecial 1, 3) := by decide +kernel
theorem dX3_init_4 : decode cX3_init 4 = .ok (.return_, 1) := by decide +kernel
theorem dX3_look_0 : decode cX3_look 0 = .ok (.aload_n 0, 1) := by decide +kernel
theorem dX3_look_1 : decode cX3_look 1 = .ok (.aload_n 3, 1) := by decide +kernel
theorem dX3_look_2 : decode cX3_look 2 = .ok (.iload 4, 2) := by decide +kernel
theorem dX3_look_4 : decode cX3_look 4 = .ok (.invokevirtual 7, 3) := by decide +kernel
theorem dX3_look_7 : decode cX3_look 7 = .ok (.putfield 13, 3) := by decide +kernel
theorem dX3_look_10 : decode cX3_look 10 = .ok (.aload_n 0, 1) := by decide +kernel
theorem dX3_look_11 : decode cX3_look 11 = .ok (.iconst 1, 1) := by decide +kernel
theorem dX3_look_12 : decode cX3_look 12 = .ok (.aload_n 3, 1) := by decide +kernel
theorem dX3_look_13 : decode cX3_look 13 = .ok (.aload_n 0, 1) := by decide +kernel
theorem dX3_look_14 : decode cX3_look 14 = .ok (.getfield 13, 3) := by decide +kernel
theorem dX3_look_17 : decode cX3_look 17 = .ok (.iload 4, 2) := by decide +kernel
theorem dX3_look_19 : decode cX3_look 19 = .ok (.invokevirtual 18, 3) := by decide +kernel
theorem dX3_look_22 : decode cX3_look 22 = .ok (.iadd, 1) := by decide +kernel
theorem dX3_look_23 : decode cX3_look 23 = .ok (.putfield 22, 3) := by decide +kernel
theorem dX3_look_26 : decode cX3_look 26 = .ok (.aload_n 1, 1) := by decide +kernel
theorem dX3_look_27 : decode cX3_look 27 = .ok (.iload_n 2, 1) := by decide +kernel
theorem dX3_look_28 : decode cX3_look 28 = .ok (.iload 4, 2) := by decide +kernel
theorem dX3_look_30 : decode cX3_look 30 = .ok (.invokevirtual 25, 3) := by decide +kernel
theorem dX3_look_33 : decode cX3_look 33 = .ok (.aload_n 1, 1) := by decide +kernel
theorem dX3_look_34 : decode cX3_look 34 = .ok (.iload 5, 2) := by decide +kernel
theorem dX3_look_36 : decode cX3_look 36 = .ok (.aload_n 3, 1) := by decide +kernel
theorem dX3_look_37 : decode cX3_look 37 = .ok (.iload 4, 2) := by decide +kernel
theorem dX3_look_39 : decode cX3_look 39 = .ok (.invokevirtual 30, 3) := by decide +kernel
theorem dX3_look_42 : decode cX3_look 42 = .ok (.invokevirtual 33, 3) := by decide +kernel
theorem dX3_look_45 : decode cX3_look 45 = .ok (.iadd, 1) := by decide +kernel
theorem dX3_look_46 : decode cX3_look 46 = .ok (.istore 6, 2) := by decide +kernel
theorem dX3_look_48 : decode cX3_look 48 = .ok (.aload_n 1, 1) := by decide +kernel
theorem dX3_look_49 : decode cX3_look 49 = .ok (.iload 5, 2) := by decide +kernel
theorem dX3_look_51 : decode cX3_look 51 = .ok (.invokevirtual 36, 3) := by decide +kernel
theorem dX3_look_54 : decode cX3_look 54 = .ok (.istore 7, 2) := by decide +kernel
theorem dX3_look_56 : decode cX3_look 56 = .ok (.aload_n 0, 1) := by decide +kernel
theorem dX3_look_57 : decode cX3_look 57 = .ok (.iload 6, 2) := by decide +kernel
theorem dX3_look_59 : decode cX3_look 59 = .ok (.aload_n 0, 1) := by decide +kernel
theorem dX3_look_60 : decode cX3_look 60 = .ok (.getfield 22, 3) := by decide +kernel
theorem dX3_look_63 : decode cX3_look 63 = .ok (.imul, 1) := by decide +kernel
theorem dX3_look_64 : decode cX3_look 64 = .ok (.putfield 39, 3) := by decide +kernel
theorem dX3_look_67 : decode cX3_look 67 = .ok (.aload_n 0, 1) := by decide +kernel
theorem dX3_look_68 : decode cX3_look 68 = .ok (.iload 6, 2) := by decide +kernel
theorem dX3_look_70 : decode cX3_look 70 = .ok (.iload 7, 2) := by decide +kernel
theorem dX3_look_72 : decode cX3_look 72 = .ok (.aload_n 0, 1) := by decide +kernel
theorem dX3_look_73 : decode cX3_look 73 = .ok (.getfield 22, 3) := by decide +kernel
theorem dX3_look_76 : decode cX3_look 76 = .ok (.iconst 1, 1) := by decide +kernel
theorem dX3_look_77 : decode cX3_look 77 = .ok (.isub, 1) := by decide +kernel
theorem dX3_look_78 : decode cX3_look 78 = .ok (.imul, 1) := by decide +kernel
theorem dX3_look_79 : decode cX3_look 79 = .ok (.iadd, 1) := by decide +kernel
theorem dX3_look_80 : decode cX3_look 80 = .ok (.putfield 42, 3) := by decide +kernel
theorem dX3_look_83 : decode cX3_look 83 = .ok (.aload_n 0, 1) := by decide +kernel
theorem dX3_look_84 : decode cX3_look 84 = .ok (.iload 7, 2) := by decide +kernel
theorem dX3_look_86 : decode cX3_look 86 = .ok (.aload_n 0, 1) := by decide +kernel
theorem dX3_look_87 : decode cX3_look 87 = .ok (.getfield 22, 3) := by decide +kernel
theorem dX3_look_90 : decode cX3_look 90 = .ok (.imul, 1) := by decide +kernel
theorem dX3_look_91 : decode cX3_look 91 = .ok (.putfield 45, 3) := by decide +kernel
theorem dX3_look_94 : decode cX3_look 94 = .ok (.return_, 1) := by decide +kernel
theorem dX3_gainBy_0 : decode cX3_gainBy 0 = .ok (.iload_n 1, 1) := by decide +kernel
theorem dX3_gainBy_1 : decode cX3_gainBy 1 = .ok (.aload_n 0, 1) := by decide +kernel
theorem dX3_gainBy_2 : decode cX3_gainBy 2 = .ok (.getfield 13, 3) := by decide +kernel
theorem dX3_gainBy_5 : decode cX3_gainBy 5 = .ok (.if_icmp .ge 8, 3) := by decide +kernel
theorem dX3_gainBy_8 : decode cX3_gainBy 8 = .ok (.aload_n 0, 1) := by decide +kernel
theorem dX3_gainBy_9 : decode cX3_gainBy 9 = .ok (.getfield 39, 3) := by decide +kernel
theorem dX3_gainBy_12 : decode cX3_gainBy 12 = .ok (.ireturn, 1) := by decide +kernel
theorem dX3_gainBy_13 : decode cX3_gainBy 13 = .ok (.iload_n 1, 1) := by decide +kernel
theorem dX3_gainBy_14 : decode cX3_gainBy 14 = .ok (.aload_n 0, 1) := by decide +kernel
theorem dX3_gainBy_15 : decode cX3_gainBy 15 = .ok (.getfield 13, 3) := by decide +kernel
theorem dX3_gainBy_18 : decode cX3_gainBy 18 = .ok (.if_icmp .le 10, 3) := by decide +kernel
theorem dX3_gainBy_21 : decode cX3_gainBy 21 = .ok (.aload_n 0, 1) := by decide +kernel
theorem dX3_gainBy_22 : decode cX3_gainBy 22 = .ok (.getfield 45, 3) := by decide +kernel
theorem dX3_gainBy_25 : decode cX3_gainBy 25 = .ok (.goto 7, 3) := by decide +kernel
theorem dX3_gainBy_28 : decode cX3_gainBy 28 = .ok (.aload_n 0, 1) := by decide +kernel
theorem dX3_gainBy_29 : decode cX3_gainBy 29 = .ok (.getfield 42, 3) := by decide +kernel
theorem dX3_gainBy_32 : decode cX3_gainBy 32 = .ok (.ireturn, 1) := by decide +kernel
theorem dX3_bestSaying_0 : decode cX3_bestSaying 0 = .ok (.iconst 0, 1) := by decide +kernel
theorem dX3_bestSaying_1 : decode cX3_bestSaying 1 = .ok (.istore_n 1, 1) := by decide +kernel
theorem dX3_bestSaying_2 : decode cX3_bestSaying 2 = .ok (.iconst 1, 1) := by decide +kernel
theorem dX3_bestSaying_3 : decode cX3_bestSaying 3 = .ok (.istore_n 2, 1) := by decide +kernel
theorem dX3_bestSaying_4 : decode cX3_bestSaying 4 = .ok (.iload_n 2, 1) := by decide +kernel
theorem dX3_bestSaying_5 : decode cX3_bestSaying 5 = .ok (.iconst 5, 1) := by decide +kernel
theorem dX3_bestSaying_6 : decode cX3_bestSaying 6 = .ok (.if_icmp .gt 24, 3) := by decide +kernel
theorem dX3_bestSaying_9 : decode cX3_bestSaying 9 = .ok (.aload_n 0, 1) := by decide +kernel
theorem dX3_bestSaying_10 : decode cX3_bestSaying 10 = .ok (.iload_n 2, 1) := by decide +kernel
theorem dX3_bestSaying_11 : decode cX3_bestSaying 11 = .ok (.invokevirtual 48, 3) := by decide +kernel
theorem dX3_bestSaying_14 : decode cX3_bestSaying 14 = .ok (.aload_n 0, 1) := by decide +kernel
theorem dX3_bestSaying_15 : decode cX3_bestSaying 15 = .ok (.iload_n 1, 1) := by decide +kernel
theorem dX3_bestSaying_16 : decode cX3_bestSaying 16 = .ok (.invokevirtual 48, 3) := by decide +kernel
theorem dX3_bestSaying_19 : decode cX3_bestSaying 19 = .ok (.if_icmp .le 5, 3) := by decide +kernel
theorem dX3_bestSaying_22 : decode cX3_bestSaying 22 = .ok (.iload_n 2, 1) := by decide +kernel
theorem dX3_bestSaying_23 : decode cX3_bestSaying 23 = .ok (.istore_n 1, 1) := by decide +kernel
theorem dX3_bestSaying_24 : decode cX3_bestSaying 24 = .ok (.iinc 2 1, 3) := by decide +kernel
theorem dX3_bestSaying_27 : decode cX3_bestSaying 27 = .ok (.goto (-23), 3) := by decide +kernel
theorem dX3_bestSaying_30 : decode cX3_bestSaying 30 = .ok (.iload_n 1, 1) := by decide +kernel
theorem dX3_bestSaying_31 : decode cX3_bestSaying 31 = .ok (.ireturn, 1) := by decide +kernel
theorem dX4_init_0 : decode cX4_init 0 = .ok (.aload_n 0, 1) := by decide +kernel
theorem dX4_init_1 : decode cX4_init 1 = .ok (.invokespecial 3, 3) := by decide +kernel
theorem dX4_init_4 : decode cX4_init 4 = .ok (.aload_n 0, 1) := by decide +kernel
theorem dX4_init_5 : decode cX4_init 5 = .ok (.sipush 400, 3) := by decide +kernel
theorem dX4_init_8 : decode cX4_init 8 = .ok (.newarray .int, 2) := by decide +kernel
theorem dX4_init_10 : decode cX4_init 10 = .ok (.putfield 11, 3) := by decide +kernel
theorem dX4_init_13 : decode cX4_init 13 = .ok (.return_, 1) := by decide +kernel
theorem dX4_hasRoom_0 : decode cX4_hasRoom 0 = .ok (.aload_n 0, 1) := by decide +kernel
theorem dX4_hasRoom_1 : decode cX4_hasRoom 1 = .ok (.getfield 15, 3) := by decide +kernel
theorem dX4_hasRoom_4 : decode cX4_hasRoom 4 = .ok (.iload_n 1, 1) := by decide +kernel
theorem dX4_hasRoom_5 : decode cX4_hasRoom 5 = .ok (.iadd, 1) := by decide +kernel
theorem dX4_hasRoom_6 : decode cX4_hasRoom 6 = .ok (.sipush 400, 3) := by decide +kernel
theorem dX4_hasRoom_9 : decode cX4_hasRoom 9 = .ok (.if_icmp .gt 7, 3) := by decide +kernel
theorem dX4_hasRoom_12 : decode cX4_hasRoom 12 = .ok (.iconst 1, 1) := by decide +kernel
theorem dX4_hasRoom_13 : decode cX4_hasRoom 13 = .ok (.goto 4, 3) := by decide +kernel
theorem dX4_hasRoom_16 : decode cX4_hasRoom 16 = .ok (.iconst 0, 1) := by decide +kernel
theorem dX4_hasRoom_17 : decode cX4_hasRoom 17 = .ok (.ireturn, 1) := by decide +kernel
theorem dX4_append_0 : decode cX4_append 0 = .ok (.iload_n 3, 1) := by decide +kernel
theorem dX4_append_1 : decode cX4_append 1 = .ok (.iconst 1, 1) := by decide +kernel
theorem dX4_append_2 : decode cX4_append 2 = .ok (.isub, 1) := by decide +kernel
theorem dX4_append_3 : decode cX4_append 3 = .ok (.istore 4, 2) := by decide +kernel
theorem dX4_append_5 : decode cX4_append 5 = .ok (.iload 4, 2) := by decide +kernel
theorem dX4_append_7 : decode cX4_append 7 = .ok (.ifCond .lt 40, 3) := by decide +kernel
theorem dX4_append_10 : decode cX4_append 10 = .ok (.aload_n 0, 1) := by decide +kernel
theorem dX4_append_11 : decode cX4_append 11 = .ok (.getfield 11, 3) := by decide +kernel
theorem dX4_append_14 : decode cX4_append 14 = .ok (.aload_n 0, 1) := by decide +kernel
theorem dX4_append_15 : decode cX4_append 15 = .ok (.getfield 15, 3) := by decide +kernel
theorem dX4_append_18 : decode cX4_append 18 = .ok (.lload_n 1, 1) := by decide +kernel
theorem dX4_append_19 : decode cX4_append 19 = .ok (.bipush 8, 2) := by decide +kernel
theorem dX4_append_21 : decode cX4_append 21 = .ok (.iload 4, 2) := by decide +kernel
theorem dX4_append_23 : decode cX4_append 23 = .ok (.imul, 1) := by decide +kernel
theorem dX4_append_24 : decode cX4_append 24 = .ok (.lshr, 1) := by decide +kernel
theorem dX4_append_25 : decode cX4_append 25 = .ok (.l2i, 1) := by decide +kernel
theorem dX4_append_26 : decode cX4_append 26 = .ok (.sipush 255, 3) := by decide +kernel
theorem dX4_append_29 : decode cX4_append 29 = .ok (.iand, 1) := by decide +kernel
theorem dX4_append_30 : decode cX4_append 30 = .ok (.iastore, 1) := by decide +kernel
theorem dX4_append_31 : decode cX4_append 31 = .ok (.aload_n 0, 1) := by decide +kernel
theorem dX4_append_32 : decode cX4_append 32 = .ok (.dup, 1) := by decide +kernel
theorem dX4_append_33 : decode cX4_append 33 = .ok (.getfield 15, 3) := by decide +kernel
theorem dX4_append_36 : decode cX4_append 36 = .ok (.iconst 1, 1) := by decide +kernel
theorem dX4_append_37 : decode cX4_append 37 = .ok (.iadd, 1) := by decide +kernel
theorem dX4_append_38 : decode cX4_append 38 = .ok (.putfield 15, 3) := by decide +kernel
theorem dX4_append_41 : decode cX4_append 41 = .ok (.iinc 4 (-1), 3) := by decide +kernel
theorem dX4_append_44 : decode cX4_append 44 = .ok (.goto (-39), 3) := by decide +kernel
theorem dX4_append_47 : decode cX4_append 47 = .ok (.return_, 1) := by decide +kernel
theorem dX4_readsInto_0 : decode cX4_readsInto 0 = .ok (.aload_n 1, 1) := by decide +kernel
theorem dX4_readsInto_1 : decode cX4_readsInto 1 = .ok (.invokevirtual 19, 3) := by decide +kernel
theorem dX4_readsInto_4 : decode cX4_readsInto 4 = .ok (.aload_n 0, 1) := by decide +kernel
theorem dX4_readsInto_5 : decode cX4_readsInto 5 = .ok (.iconst 0, 1) := by decide +kernel
theorem dX4_readsInto_6 : decode cX4_readsInto 6 = .ok (.putfield 24, 3) := by decide +kernel
theorem dX4_readsInto_9 : decode cX4_readsInto 9 = .ok (.aload_n 0, 1) := by decide +kernel
theorem dX4_readsInto_10 : decode cX4_readsInto 10 = .ok (.iconst 0, 1) := by decide +kernel
theorem dX4_readsInto_11 : decode cX4_readsInto 11 = .ok (.putfield 27, 3) := by decide +kernel
theorem dX4_readsInto_14 : decode cX4_readsInto 14 = .ok (.aload_n 0, 1) := by decide +kernel
theorem dX4_readsInto_15 : decode cX4_readsInto 15 = .ok (.invokevirtual 30, 3) := by decide +kernel
theorem dX4_readsInto_18 : decode cX4_readsInto 18 = .ok (.aload_n 0, 1) := by decide +kernel
theorem dX4_readsInto_19 : decode cX4_readsInto 19 = .ok (.aload_n 1, 1) := by decide +kernel
theorem dX4_readsInto_20 : decode cX4_readsInto 20 = .ok (.invokevirtual 33, 3) := by decide +kernel
theorem dX4_readsInto_23 : decode cX4_readsInto 23 = .ok (.ifCond .eq 38, 3) := by decide +kernel
theorem dX4_readsInto_26 : decode cX4_readsInto 26 = .ok (.aload_n 0, 1) := by decide +kernel
theorem dX4_readsInto_27 : decode cX4_readsInto 27 = .ok (.aload_n 1, 1) := by decide +kernel
theorem dX4_readsInto_28 : decode cX4_readsInto 28 = .ok (.invokevirtual 37, 3) := by decide +kernel
theorem dX4_readsInto_31 : decode cX4_readsInto 31 = .ok (.ifCond .eq 30, 3) := by decide +kernel
theorem dX4_readsInto_34 : decode cX4_readsInto 34 = .ok (.aload_n 0, 1) := by decide +kernel
theorem dX4_readsInto_35 : decode cX4_readsInto 35 = .ok (.aload_n 1, 1) := by decide +kernel
theorem dX4_readsInto_36 : decode cX4_readsInto 36 = .ok (.invokevirtual 40, 3) := by decide +kernel
theorem dX4_readsInto_39 : decode cX4_readsInto 39 = .ok (.ifCond .eq 22, 3) := by decide +kernel
theorem dX4_readsInto_42 : decode cX4_readsInto 42 = .ok (.aload_n 0, 1) := by decide +kernel
theorem dX4_readsInto_43 : decode cX4_readsInto 43 = .ok (.getfield 43, 3) := by decide +kernel
theorem dX4_readsInto_46 : decode cX4_readsInto 46 = .ok (.ifCond .eq 11, 3) := by decide +kernel
theorem dX4_readsInto_49 : decode cX4_readsInto 49 = .ok (.aload_n 0, 1) := by decide +kernel
theorem dX4_readsInto_50 : decode cX4_readsInto 50 = .ok (.iconst 1, 1) := by decide +kernel
theorem dX4_readsInto_51 : decode cX4_readsInto 51 = .ok (.invokevirtual 46, 3) := by decide +kernel
theorem dX4_readsInto_54 : decode cX4_readsInto 54 = .ok (.ifCond .eq 7, 3) := by decide +kernel
theorem dX4_readsInto_57 : decode cX4_readsInto 57 = .ok (.iconst 1, 1) := by decide +kernel
theorem dX4_readsInto_58 : decode cX4_readsInto 58 = .ok (.goto 4, 3) := by decide +kernel
theorem dX4_readsInto_61 : decode cX4_readsInto 61 = .ok (.iconst 0, 1) := by decide +kernel
theorem dX4_readsInto_62 : decode cX4_readsInto 62 = .ok (.ireturn, 1) := by decide +kernel
theorem dX4_readsLaw_0 : decode cX4_readsLaw 0 = .ok (.aload_n 0, 1) := by decide +kernel
theorem dX4_readsLaw_1 : decode cX4_readsLaw 1 = .ok (.ldc 50, 2) := by decide +kernel
theorem dX4_readsLaw_3 : decode cX4_readsLaw 3 = .ok (.invokevirtual 52, 3) := by decide +kernel
theorem dX4_readsLaw_6 : decode cX4_readsLaw 6 = .ok (.ifCond .eq 11, 3) := by decide +kernel
theorem dX4_readsLaw_9 : decode cX4_readsLaw 9 = .ok (.aload_n 0, 1) := by decide +kernel
theorem dX4_readsLaw_10 : decode cX4_readsLaw 10 = .ok (.iconst 3, 1) := by decide +kernel
theorem dX4_readsLaw_11 : decode cX4_readsLaw 11 = .ok (.invokevirtual 56, 3) := by decide +kernel
theorem dX4_readsLaw_14 : decode cX4_readsLaw 14 = .ok (.ifCond .ne 5, 3) := by decide +kernel
theorem dX4_readsLaw_17 : decode cX4_readsLaw 17 = .ok (.iconst 0, 1) := by decide +kernel
theorem dX4_readsLaw_18 : decode cX4_readsLaw 18 = .ok (.ireturn, 1) := by decide +kernel
theorem dX4_readsLaw_19 : decode cX4_readsLaw 19 = .ok (.aload_n 1, 1) := by decide +kernel
theorem dX4_readsLaw_20 : decode cX4_readsLaw 20 = .ok (.aload_n 0, 1) := by decide +kernel
theorem dX4_readsLaw_21 : decode cX4_readsLaw 21 = .ok (.getfield 59, 3) := by decide +kernel
theorem dX4_readsLaw_24 : decode cX4_readsLaw 24 = .ok (.putfield 62, 3) := by decide +kernel
theorem dX4_readsLaw_27 : decode cX4_readsLaw 27 = .ok (.aload_n 0, 1) := by decide +kernel
theorem dX4_readsLaw_28 : decode cX4_readsLaw 28 = .ok (.bipush 20, 2) := by decide +kernel
theorem dX4_readsLaw_30 : decode cX4_readsLaw 30 = .ok (.invokevirtual 56, 3) := by decide +kernel
theorem dX4_readsLaw_33 : decode cX4_readsLaw 33 = .ok (.ifCond .ne 5, 3) := by decide +kernel
theorem dX4_readsLaw_36 : decode cX4_readsLaw 36 = .ok (.iconst 0, 1) := by decide +kernel
theorem dX4_readsLaw_37 : decode cX4_readsLaw 37 = .ok (.ireturn, 1) := by decide +kernel
theorem dX4_readsLaw_38 : decode cX4_readsLaw 38 = .ok (.aload_n 1, 1) := by decide +kernel
theorem dX4_readsLaw_39 : decode cX4_readsLaw 39 = .ok (.aload_n 0, 1) := by decide +kernel
theorem dX4_readsLaw_40 : decode cX4_readsLaw 40 = .ok (.getfield 59, 3) := by decide +kernel
theorem dX4_readsLaw_43 : decode cX4_readsLaw 43 = .ok (.putfield 65, 3) := by decide +kernel
theorem dX4_readsLaw_46 : decode cX4_readsLaw 46 = .ok (.aload_n 0, 1) := by decide +kernel
theorem dX4_readsLaw_47 : decode cX4_readsLaw 47 = .ok (.invokevirtual 68, 3) := by decide +kernel
theorem dX4_readsLaw_50 : decode cX4_readsLaw 50 = .ok (.ireturn, 1) := by decide +kernel
theorem dX4_readsPeople_0 : decode cX4_readsPeople 0 = .ok (.iconst 0, 1) := by decide +kernel
theorem dX4_readsPeople_1 : decode cX4_readsPeople 1 = .ok (.istore_n 2, 1) := by decide +kernel
theorem dX4_readsPeople_2 : decode cX4_readsPeople 2 = .ok (.iload_n 2, 1) := by decide +kernel
theorem dX4_readsPeople_3 : decode cX4_readsPeople 3 = .ok (.iconst 4, 1) := by decide +kernel
theorem dX4_readsPeople_4 : decode cX4_readsPeople 4 = .ok (.if_icmp .gt 67, 3) := by decide +kernel
theorem dX4_readsPeople_7 : decode cX4_readsPeople 7 = .ok (.iload_n 2, 1) := by decide +kernel
theorem dX4_readsPeople_8 : decode cX4_readsPeople 8 = .ok (.ifCond .eq 12, 3) := by decide +kernel
theorem dX4_readsPeople_11 : decode cX4_readsPeople 11 = .ok (.aload_n 0, 1) := by decide +kernel
theorem dX4_readsPeople_12 : decode cX4_readsPeople 12 = .ok (.ldc 72, 2) := by decide +kernel
theorem dX4_readsPeople_14 : decode cX4_readsPeople 14 = .ok (.invokevirtual 74, 3) := by decide +kernel
theorem dX4_readsPeople_17 : decode cX4_readsPeople 17 = .ok (.ifCond .eq 54, 3) := by decide +kernel
theorem dX4_readsPeople_20 : decode cX4_readsPeople 20 = .ok (.iload_n 2, 1) := by decide +kernel
theorem dX4_readsPeople_21 : decode cX4_readsPeople 21 = .ok (.iconst 4, 1) := by decide +kernel
theorem dX4_readsPeople_22 : decode cX4_readsPeople 22 = .ok (.if_icmp .ne 9, 3) := by decide +kernel
theorem dX4_readsPeople_25 : decode cX4_readsPeople 25 = .ok (.aload_n 0, 1) := by decide +kernel
theorem dX4_readsPeople_26 : decode cX4_readsPeople 26 = .ok (.iconst 3, 1) := by decide +kernel
theorem dX4_readsPeople_27 : decode cX4_readsPeople 27 = .ok (.invokevirtual 46, 3) := by decide +kernel
theorem dX4_readsPeople_30 : decode cX4_readsPeople 30 = .ok (.ireturn, 1) := by decide +kernel
theorem dX4_readsPeople_31 : decode cX4_readsPeople 31 = .ok (.aload_n 0, 1) := by decide +kernel
theorem dX4_readsPeople_32 : decode cX4_readsPeople 32 = .ok (.ldc 72, 2) := by decide +kernel
theorem dX4_readsPeople_34 : decode cX4_readsPeople 34 = .ok (.invokevirtual 52, 3) := by decide +kernel
theorem dX4_readsPeople_37 : decode cX4_readsPeople 37 = .ok (.ifCond .eq 19, 3) := by decide +kernel
theorem dX4_readsPeople_40 : decode cX4_readsPeople 40 = .ok (.aload_n 0, 1) := by decide +kernel
theorem dX4_readsPeople_41 : decode cX4_readsPeople 41 = .ok (.aload_n 1, 1) := by decide +kernel
theorem dX4_readsPeople_42 : decode cX4_readsPeople 42 = .ok (.iload_n 2, 1) := by decide +kernel
theorem dX4_readsPeople_43 : decode cX4_readsPeople 43 = .ok (.invokevirtual 77, 3) := by decide +kernel
theorem dX4_readsPeople_46 : decode cX4_readsPeople 46 = .ok (.ifCond .eq 10, 3) := by decide +kernel
theorem dX4_readsPeople_49 : decode cX4_readsPeople 49 = .ok (.aload_n 0, 1) := by decide +kernel
theorem dX4_readsPeople_50 : decode cX4_readsPeople 50 = .ok (.invokevirtual 68, 3) := by decide +kernel
theorem dX4_readsPeople_53 : decode cX4_readsPeople 53 = .ok (.ifCond .ne 5, 3) := by decide +kernel
theorem dX4_readsPeople_56 : decode cX4_readsPeople 56 = .ok (.iconst 0, 1) := by decide +kernel
theorem dX4_readsPeople_57 : decode cX4_readsPeople 57 = .ok (.ireturn, 1) := by decide +kernel
theorem dX4_readsPeople_58 : decode cX4_readsPeople 58 = .ok (.aload_n 1, 1) := by decide +kernel
theorem dX4_readsPeople_59 : decode cX4_readsPeople 59 = .ok (.iload_n 2, 1) := by decide +kernel
theorem dX4_readsPeople_60 : decode cX4_readsPeople 60 = .ok (.iconst 1, 1) := by decide +kernel
theorem dX4_readsPeople_61 : decode cX4_readsPeople 61 = .ok (.iadd, 1) := by decide +kernel
theorem dX4_readsPeople_62 : decode cX4_readsPeople 62 = .ok (.putfield 81, 3) := by decide +kernel
theorem dX4_readsPeople_65 : decode cX4_readsPeople 65 = .ok (.iinc 2 1, 3) := by decide +kernel
theorem dX4_readsPeople_68 : decode cX4_readsPeople 68 = .ok (.goto (-66), 3) := by decide +kernel
theorem dX4_readsPeople_71 : decode cX4_readsPeople 71 = .ok (.iconst 1, 1) := by decide +kernel
theorem dX4_readsPeople_72 : decode cX4_readsPeople 72 = .ok (.ireturn, 1) := by decide +kernel
theorem dX4_readsSort_0 : decode cX4_readsSort 0 = .ok (.aload_n 0, 1) := by decide +kernel
theorem dX4_readsSort_1 : decode cX4_readsSort 1 = .ok (.invokevirtual 84, 3) := by decide +kernel
theorem dX4_readsSort_4 : decode cX4_readsSort 4 = .ok (.istore_n 3, 1) := by decide +kernel
theorem dX4_readsSort_5 : decode cX4_readsSort 5 = .ok (.iload_n 3, 1) := by decide +kernel
theorem dX4_readsSort_6 : decode cX4_readsSort 6 = .ok (.ifCond .ne 9, 3) := by decide +kernel
theorem dX4_readsSort_9 : decode cX4_readsSort 9 = .ok (.aload_n 0, 1) := by decide +kernel
theorem dX4_readsSort_10 : decode cX4_readsSort 10 = .ok (.iconst 1, 1) := by decide +kernel
theorem dX4_readsSort_11 : decode cX4_readsSort 11 = .ok (.invokevirtual 46, 3) := by decide +kernel
theorem dX4_readsSort_14 : decode cX4_readsSort 14 = .ok (.ireturn, 1) := by decide +kernel
theorem dX4_readsSort_15 : decode cX4_readsSort 15 = .ok (.aload_n 1, 1) := by decide +kernel
theorem dX4_readsSort_16 : decode cX4_readsSort 16 = .ok (.getfield 88, 3) := by decide +kernel
theorem dX4_readsSort_19 : decode cX4_readsSort 19 = .ok (.iload_n 2, 1) := by decide +kernel
theorem dX4_readsSort_20 : decode cX4_readsSort 20 = .ok (.iload_n 3, 1) := by decide +kernel
theorem dX4_readsSort_21 : decode cX4_readsSort 21 = .ok (.iastore, 1) := by decide +kernel
theorem dX4_readsSort_22 : decode cX4_readsSort 22 = .ok (.aload_n 0, 1) := by decide +kernel
theorem dX4_readsSort_23 : decode cX4_readsSort 23 = .ok (.invokevirtual 30, 3) := by decide +kernel
theorem dX4_readsSort_26 : decode cX4_readsSort 26 = .ok (.iconst 1, 1) := by decide +kernel
theorem dX4_readsSort_27 : decode cX4_readsSort 27 = .ok (.ireturn, 1) := by decide +kernel
theorem dX4_readsThings_0 : decode cX4_readsThings 0 = .ok (.iconst 0, 1) := by decide +kernel
theorem dX4_readsThings_1 : decode cX4_readsThings 1 = .ok (.istore_n 2, 1) := by decide +kernel
theorem dX4_readsThings_2 : decode cX4_readsThings 2 = .ok (.iload_n 2, 1) := by decide +kernel
theorem dX4_readsThings_3 : decode cX4_readsThings 3 = .ok (.iconst 5, 1) := by decide +kernel
theorem dX4_readsThings_4 : decode cX4_readsThings 4 = .ok (.if_icmp .gt 93, 3) := by decide +kernel
theorem dX4_readsThings_7 : decode cX4_readsThings 7 = .ok (.aload_n 0, 1) := by decide +kernel
theorem dX4_readsThings_8 : decode cX4_readsThings 8 = .ok (.ldc 91, 2) := by decide +kernel
theorem dX4_readsThings_10 : decode cX4_readsThings 10 = .ok (.invokevirtual 74, 3) := by decide +kernel
theorem dX4_readsThings_13 : decode cX4_readsThings 13 = .ok (.ifCond .eq 84, 3) := by decide +kernel
theorem dX4_readsThings_16 : decode cX4_readsThings 16 = .ok (.iload_n 2, 1) := by decide +kernel
theorem dX4_readsThings_17 : decode cX4_readsThings 17 = .ok (.iconst 5, 1) := by decide +kernel
theorem dX4_readsThings_18 : decode cX4_readsThings 18 = .ok (.if_icmp .ne 9, 3) := by decide +kernel
theorem dX4_readsThings_21 : decode cX4_readsThings 21 = .ok (.aload_n 0, 1) := by decide +kernel
theorem dX4_readsThings_22 : decode cX4_readsThings 22 = .ok (.iconst 3, 1) := by decide +kernel
theorem dX4_readsThings_23 : decode cX4_readsThings 23 = .ok (.invokevirtual 46, 3) := by decide +kernel
theorem dX4_readsThings_26 : decode cX4_readsThings 26 = .ok (.ireturn, 1) := by decide +kernel
theorem dX4_readsThings_27 : decode cX4_readsThings 27 = .ok (.aload_n 0, 1) := by decide +kernel
theorem dX4_readsThings_28 : decode cX4_readsThings 28 = .ok (.invokevirtual 30, 3) := by decide +kernel
theorem dX4_readsThings_31 : decode cX4_readsThings 31 = .ok (.iconst 0, 1) := by decide +kernel
theorem dX4_readsThings_32 : decode cX4_readsThings 32 = .ok (.istore_n 3, 1) := by decide +kernel
theorem dX4_readsThings_33 : decode cX4_readsThings 33 = .ok (.iload_n 3, 1) := by decide +kernel
theorem dX4_readsThings_34 : decode cX4_readsThings 34 = .ok (.aload_n 1, 1) := by decide +kernel
theorem dX4_readsThings_35 : decode cX4_readsThings 35 = .ok (.getfield 81, 3) := by decide +kernel
theorem dX4_readsThings_38 : decode cX4_readsThings 38 = .ok (.if_icmp .ge 37, 3) := by decide +kernel
theorem dX4_readsThings_41 : decode cX4_readsThings 41 = .ok (.aload_n 0, 1) := by decide +kernel
theorem dX4_readsThings_42 : decode cX4_readsThings 42 = .ok (.bipush 60, 2) := by decide +kernel
theorem dX4_readsThings_44 : decode cX4_readsThings 44 = .ok (.invokevirtual 56, 3) := by decide +kernel
theorem dX4_readsThings_47 : decode cX4_readsThings 47 = .ok (.ifCond .ne 5, 3) := by decide +kernel
theorem dX4_readsThings_50 : decode cX4_readsThings 50 = .ok (.iconst 0, 1) := by decide +kernel
theorem dX4_readsThings_51 : decode cX4_readsThings 51 = .ok (.ireturn, 1) := by decide +kernel
theorem dX4_readsThings_52 : decode cX4_readsThings 52 = .ok (.aload_n 1, 1) := by decide +kernel
theorem dX4_readsThings_53 : decode cX4_readsThings 53 = .ok (.getfield 93, 3) := by decide +kernel
theorem dX4_readsThings_56 : decode cX4_readsThings 56 = .ok (.iload_n 2, 1) := by decide +kernel
theorem dX4_readsThings_57 : decode cX4_readsThings 57 = .ok (.iconst 4, 1) := by decide +kernel
theorem dX4_readsThings_58 : decode cX4_readsThings 58 = .ok (.imul, 1) := by decide +kernel
theorem dX4_readsThings_59 : decode cX4_readsThings 59 = .ok (.iload_n 3, 1) := by decide +kernel
theorem dX4_readsThings_60 : decode cX4_readsThings 60 = .ok (.iadd, 1) := by decide +kernel
theorem dX4_readsThings_61 : decode cX4_readsThings 61 = .ok (.aload_n 0, 1) := by decide +kernel
theorem dX4_readsThings_62 : decode cX4_readsThings 62 = .ok (.getfield 59, 3) := by decide +kernel
theorem dX4_readsThings_65 : decode cX4_readsThings 65 = .ok (.bipush 30, 2) := by decide +kernel
theorem dX4_readsThings_67 : decode cX4_readsThings 67 = .ok (.isub, 1) := by decide +kernel
theorem dX4_readsThings_68 : decode cX4_readsThings 68 = .ok (.iastore, 1) := by decide +kernel
theorem dX4_readsThings_69 : decode cX4_readsThings 69 = .ok (.iinc 3 1, 3) := by decide +kernel
theorem dX4_readsThings_72 : decode cX4_readsThings 72 = .ok (.goto (-39), 3) := by decide +kernel
theorem dX4_readsThings_75 : decode cX4_readsThings 75 = .ok (.aload_n 0, 1) := by decide +kernel
theorem dX4_readsThings_76 : decode cX4_readsThings 76 = .ok (.invokevirtual 68, 3) := by decide +kernel
theorem dX4_readsThings_79 : decode cX4_readsThings 79 = .ok (.ifCond .ne 5, 3) := by decide +kernel
theorem dX4_readsThings_82 : decode cX4_readsThings 82 = .ok (.iconst 0, 1) := by decide +kernel
theorem dX4_readsThings_83 : decode cX4_readsThings 83 = .ok (.ireturn, 1) := by decide +kernel
theorem dX4_readsThings_84 : decode cX4_readsThings 84 = .ok (.aload_n 1, 1) := by decide +kernel
theorem dX4_readsThings_85 : decode cX4_readsThings 85 = .ok (.iload_n 2, 1) := by decide +kernel
theorem dX4_readsThings_86 : decode cX4_readsThings 86 = .ok (.iconst 1, 1) := by decide +kernel
theorem dX4_readsThings_87 : decode cX4_readsThings 87 = .ok (.iadd, 1) := by decide +kernel
theorem dX4_readsThings_88 : decode cX4_readsThings 88 = .ok (.putfield 96, 3) := by decide +kernel
theorem dX4_readsThings_91 : decode cX4_readsThings 91 = .ok (.iinc 2 1, 3) := by decide +kernel
theorem dX4_readsThings_94 : decode cX4_readsThings 94 = .ok (.goto (-92), 3) := by decide +kernel
theorem dX4_readsThings_97 : decode cX4_readsThings 97 = .ok (.iconst 1, 1) := by decide +kernel
theorem dX4_readsThings_98 : decode cX4_readsThings 98 = .ok (.ireturn, 1) := by decide +kernel
theorem dX4_sortTold_0 : decode cX4_sortTold 0 = .ok (.aload_n 0, 1) := by decide +kernel
theorem dX4_sortTold_1 : decode cX4_sortTold 1 = .ok (.ldc 99, 2) := by decide +kernel
theorem dX4_sortTold_3 : decode cX4_sortTold 3 = .ok (.invokevirtual 74, 3) := by decide +kernel
theorem dX4_sortTold_6 : decode cX4_sortTold 6 = .ok (.ifCond .eq 5, 3) := by decide +kernel
theorem dX4_sortTold_9 : decode cX4_sortTold 9 = .ok (.iconst 1, 1) := by decide +kernel
theorem dX4_sortTold_10 : decode cX4_sortTold 10 = .ok (.ireturn, 1) := by decide +kernel
theorem dX4_sortTold_11 : decode cX4_sortTold 11 = .ok (.aload_n 0, 1) := by decide +kernel
theorem dX4_sortTold_12 : decode cX4_sortTold 12 = .ok (.ldc 101, 2) := by decide +kernel
theorem dX4_sortTold_14 : decode cX4_sortTold 14 = .ok (.invokevirtual 74, 3) := by decide +kernel
theorem dX4_sortTold_17 : decode cX4_sortTold 17 = .ok (.ifCond .eq 5, 3) := by decide +kernel
theorem dX4_sortTold_20 : decode cX4_sortTold 20 = .ok (.iconst 2, 1) := by decide +kernel
theorem dX4_sortTold_21 : decode cX4_sortTold 21 = .ok (.ireturn, 1) := by decide +kernel
theorem dX4_sortTold_22 : decode cX4_sortTold 22 = .ok (.aload_n 0, 1) := by decide +kernel
theorem dX4_sortTold_23 : decode cX4_sortTold 23 = .ok (.ldc 103, 2) := by decide +kernel
theorem dX4_sortTold_25 : decode cX4_sortTold 25 = .ok (.invokevirtual 74, 3) := by decide +kernel
theorem dX4_sortTold_28 : decode cX4_sortTold 28 = .ok (.ifCond .eq 5, 3) := by decide +kernel
theorem dX4_sortTold_31 : decode cX4_sortTold 31 = .ok (.iconst 3, 1) := by decide +kernel
theorem dX4_sortTold_32 : decode cX4_sortTold 32 = .ok (.ireturn, 1) := by decide +kernel
theorem dX4_sortTold_33 : decode cX4_sortTold 33 = .ok (.aload_n 0, 1) := by decide +kernel
theorem dX4_sortTold_34 : decode cX4_sortTold 34 = .ok (.ldc 105, 2) := by decide +kernel
theorem dX4_sortTold_36 : decode cX4_sortTold 36 = .ok (.invokevirtual 74, 3) := by decide +kernel
theorem dX4_sortTold_39 : decode cX4_sortTold 39 = .ok (.ifCond .eq 5, 3) := by decide +kernel
theorem dX4_sortTold_42 : decode cX4_sortTold 42 = .ok (.iconst 4, 1) := by decide +kernel
theorem dX4_sortTold_43 : decode cX4_sortTold 43 = .ok (.ireturn, 1) := by decide +kernel
theorem dX4_sortTold_44 : decode cX4_sortTold 44 = .ok (.aload_n 0, 1) := by decide +kernel
theorem dX4_sortTold_45 : decode cX4_sortTold 45 = .ok (.ldc 107, 2) := by decide +kernel
theorem dX4_sortTold_47 : decode cX4_sortTold 47 = .ok (.invokevirtual 74, 3) := by decide +kernel
theorem dX4_sortTold_50 : decode cX4_sortTold 50 = .ok (.ifCond .eq 7, 3) := by decide +kernel
theorem dX4_sortTold_53 : decode cX4_sortTold 53 = .ok (.iconst 5, 1) := by decide +kernel
theorem dX4_sortTold_54 : decode cX4_sortTold 54 = .ok (.goto 4, 3) := by decide +kernel
theorem dX4_sortTold_57 : decode cX4_sortTold 57 = .ok (.iconst 0, 1) := by decide +kernel
theorem dX4_sortTold_58 : decode cX4_sortTold 58 = .ok (.ireturn, 1) := by decide +kernel
theorem dX4_passesWord_0 : decode cX4_passesWord 0 = .ok (.aload_n 0, 1) := by decide +kernel
theorem dX4_passesWord_1 : decode cX4_passesWord 1 = .ok (.aload_n 1, 1) := by decide +kernel
theorem dX4_passesWord_2 : decode cX4_passesWord 2 = .ok (.invokevirtual 74, 3) := by decide +kernel
theorem dX4_passesWord_5 : decode cX4_passesWord 5 = .ok (.ifCond .ne 9, 3) := by decide +kernel
theorem dX4_passesWord_8 : decode cX4_passesWord 8 = .ok (.aload_n 0, 1) := by decide +kernel
theorem dX4_passesWord_9 : decode cX4_passesWord 9 = .ok (.iconst 1, 1) := by decide +kernel
theorem dX4_passesWord_10 : decode cX4_passesWord 10 = .ok (.invokevirtual 46, 3) := by decide +kernel
theorem dX4_passesWord_13 : decode cX4_passesWord 13 = .ok (.ireturn, 1) := by decide +kernel
theorem dX4_passesWord_14 : decode cX4_passesWord 14 = .ok (.aload_n 0, 1) := by decide +kernel
theorem dX4_passesWord_15 : decode cX4_passesWord 15 = .ok (.invokevirtual 30, 3) := by decide +kernel
theorem dX4_passesWord_18 : decode cX4_passesWord 18 = .ok (.iconst 1, 1) := by decide +kernel
theorem dX4_passesWord_19 : decode cX4_passesWord 19 = .ok (.ireturn, 1) := by decide +kernel
theorem dX4_passesSign_0 : decode cX4_passesSign 0 = .ok (.aload_n 0, 1) := by decide +kernel
theorem dX4_passesSign_1 : decode cX4_passesSign 1 = .ok (.getfield 43, 3) := by decide +kernel
theorem dX4_passesSign_4 : decode cX4_passesSign 4 = .ok (.iconst 3, 1) := by decide +kernel
theorem dX4_passesSign_5 : decode cX4_passesSign 5 = .ok (.if_icmp .eq 9, 3) := by decide +kernel
theorem dX4_passesSign_8 : decode cX4_passesSign 8 = .ok (.aload_n 0, 1) := by decide +kernel
theorem dX4_passesSign_9 : decode cX4_passesSign 9 = .ok (.iconst 1, 1) := by decide +kernel
theorem dX4_passesSign_10 : decode cX4_passesSign 10 = .ok (.invokevirtual 46, 3) := by decide +kernel
theorem dX4_passesSign_13 : decode cX4_passesSign 13 = .ok (.ireturn, 1) := by decide +kernel
theorem dX4_passesSign_14 : decode cX4_passesSign 14 = .ok (.aload_n 0, 1) := by decide +kernel
theorem dX4_passesSign_15 : decode cX4_passesSign 15 = .ok (.invokevirtual 30, 3) := by decide +kernel
theorem dX4_passesSign_18 : decode cX4_passesSign 18 = .ok (.iconst 1, 1) := by decide +kernel
theorem dX4_passesSign_19 : decode cX4_passesSign 19 = .ok (.ireturn, 1) := by decide +kernel
theorem dX4_passesNumber_0 : decode cX4_passesNumber 0 = .ok (.aload_n 0, 1) := by decide +kernel
theorem dX4_passesNumber_1 : decode cX4_passesNumber 1 = .ok (.getfield 43, 3) := by decide +kernel
theorem dX4_passesNumber_4 : decode cX4_passesNumber 4 = .ok (.iconst 2, 1) := by decide +kernel
theorem dX4_passesNumber_5 : decode cX4_passesNumber 5 = .ok (.if_icmp .eq 9, 3) := by decide +kernel
theorem dX4_passesNumber_8 : decode cX4_passesNumber 8 = .ok (.aload_n 0, 1) := by decide +kernel
theorem dX4_passesNumber_9 : decode cX4_passesNumber 9 = .ok (.iconst 1, 1) := by decide +kernel
theorem dX4_passesNumber_10 : decode cX4_passesNumber 10 = .ok (.invokevirtual 46, 3) := by decide +kernel
theorem dX4_passesNumber_13 : decode cX4_passesNumber 13 = .ok (.ireturn, 1) := by decide +kernel
theorem dX4_passesNumber_14 : decode cX4_passesNumber 14 = .ok (.aload_n 0, 1) := by decide +kernel
theorem dX4_passesNumber_15 : decode cX4_passesNumber 15 = .ok (.aload_n 0, 1) := by decide +kernel
theorem dX4_passesNumber_16 : decode cX4_passesNumber 16 = .ok (.invokevirtual 109, 3) := by decide +kernel
theorem dX4_passesNumber_19 : decode cX4_passesNumber 19 = .ok (.putfield 59, 3) := by decide +kernel
theorem dX4_passesNumber_22 : decode cX4_passesNumber 22 = .ok (.aload_n 0, 1) := by decide +kernel
theorem dX4_passesNumber_23 : decode cX4_passesNumber 23 = .ok (.getfield 59, 3) := by decide +kernel
theorem dX4_passesNumber_26 : decode cX4_passesNumber 26 = .ok (.iload_n 1, 1) := by decide +kernel
theorem dX4_passesNumber_27 : decode cX4_passesNumber 27 = .ok (.if_icmp .le 9, 3) := by decide +kernel
theorem dX4_passesNumber_30 : decode cX4_passesNumber 30 = .ok (.aload_n 0, 1) := by decide +kernel
theorem dX4_passesNumber_31 : decode cX4_passesNumber 31 = .ok (.iconst 2, 1) := by decide +kernel
theorem dX4_passesNumber_32 : decode cX4_passesNumber 32 = .ok (.invokevirtual 46, 3) := by decide +kernel
theorem dX4_passesNumber_35 : decode cX4_passesNumber 35 = .ok (.ireturn, 1) := by decide +kernel
theorem dX4_passesNumber_36 : decode cX4_passesNumber 36 = .ok (.aload_n 0, 1) := by decide +kernel
theorem dX4_passesNumber_37 : decode cX4_passesNumber 37 = .ok (.invokevirtual 30, 3) := by decide +kernel
theorem dX4_passesNumber_40 : decode cX4_passesNumber 40 = .ok (.iconst 1, 1) := by decide +kernel
theorem dX4_passesNumber_41 : decode cX4_passesNumber 41 = .ok (.ireturn, 1) := by decide +kernel
theorem dX4_isWrong_0 : decode cX4_isWrong 0 = .ok (.aload_n 0, 1) := by decide +kernel
theorem dX4_isWrong_1 : decode cX4_isWrong 1 = .ok (.iload_n 1, 1) := by decide +kernel
theorem dX4_isWrong_2 : decode cX4_isWrong 2 = .ok (.putfield 24, 3) := by decide +kernel
theorem dX4_isWrong_5 : decode cX4_isWrong 5 = .ok (.iconst 0, 1) := by decide +kernel
theorem dX4_isWrong_6 : decode cX4_isWrong 6 = .ok (.ireturn, 1) := by decide +kernel
theorem dX4_isWord_0 : decode cX4_isWord 0 = .ok (.aload_n 0, 1) := by decide +kernel
theorem dX4_isWord_1 : decode cX4_isWord 1 = .ok (.getfield 43, 3) := by decide +kernel
theorem dX4_isWord_4 : decode cX4_isWord 4 = .ok (.iconst 1, 1) := by decide +kernel
theorem dX4_isWord_5 : decode cX4_isWord 5 = .ok (.if_icmp .ne 19, 3) := by decide +kernel
theorem dX4_isWord_8 : decode cX4_isWord 8 = .ok (.aload_n 0, 1) := by decide +kernel
theorem dX4_isWord_9 : decode cX4_isWord 9 = .ok (.getfield 27, 3) := by decide +kernel
theorem dX4_isWord_12 : decode cX4_isWord 12 = .ok (.aload_n 0, 1) := by decide +kernel
theorem dX4_isWord_13 : decode cX4_isWord 13 = .ok (.getfield 112, 3) := by decide +kernel
theorem dX4_isWord_16 : decode cX4_isWord 16 = .ok (.isub, 1) := by decide +kernel
theorem dX4_isWord_17 : decode cX4_isWord 17 = .ok (.aload_n 1, 1) := by decide +kernel
theorem dX4_isWord_18 : decode cX4_isWord 18 = .ok (.invokevirtual 115, 3) := by decide +kernel
theorem dX4_isWord_21 : decode cX4_isWord 21 = .ok (.if_icmp .eq 5, 3) := by decide +kernel
theorem dX4_isWord_24 : decode cX4_isWord 24 = .ok (.iconst 0, 1) := by decide +kernel
theorem dX4_isWord_25 : decode cX4_isWord 25 = .ok (.ireturn, 1) := by decide +kernel
theorem dX4_isWord_26 : decode cX4_isWord 26 = .ok (.iconst 0, 1) := by decide +kernel
theorem dX4_isWord_27 : decode cX4_isWord 27 = .ok (.istore_n 2, 1) := by decide +kernel
theorem dX4_isWord_28 : decode cX4_isWord 28 = .ok (.iload_n 2, 1) := by decide +kernel
theorem dX4_isWord_29 : decode cX4_isWord 29 = .ok (.aload_n 1, 1) := by decide +kernel
theorem dX4_isWord_30 : decode cX4_isWord 30 = .ok (.invokevirtual 115, 3) := by decide +kernel
theorem dX4_isWord_33 : decode cX4_isWord 33 = .ok (.if_icmp .ge 30, 3) := by decide +kernel
theorem dX4_isWord_36 : decode cX4_isWord 36 = .ok (.aload_n 0, 1) := by decide +kernel
theorem dX4_isWord_37 : decode cX4_isWord 37 = .ok (.getfield 11, 3) := by decide +kernel
theorem dX4_isWord_40 : decode cX4_isWord 40 = .ok (.aload_n 0, 1) := by decide +kernel
theorem dX4_isWord_41 : decode cX4_isWord 41 = .ok (.getfield 112, 3) := by decide +kernel
theorem dX4_isWord_44 : decode cX4_isWord 44 = .ok (.iload_n 2, 1) := by decide +kernel
theorem dX4_isWord_45 : decode cX4_isWord 45 = .ok (.iadd, 1) := by decide +kernel
theorem dX4_isWord_46 : decode cX4_isWord 46 = .ok (.iaload, 1) := by decide +kernel
theorem dX4_isWord_47 : decode cX4_isWord 47 = .ok (.aload_n 1, 1) := by decide +kernel
theorem dX4_isWord_48 : decode cX4_isWord 48 = .ok (.iload_n 2, 1) := by decide +kernel
theorem dX4_isWord_49 : decode cX4_isWord 49 = .ok (.invokevirtual 120, 3) := by decide +kernel
theorem dX4_isWord_52 : decode cX4_isWord 52 = .ok (.if_icmp .eq 5, 3) := by decide +kernel
theorem dX4_isWord_55 : decode cX4_isWord 55 = .ok (.iconst 0, 1) := by decide +kernel
theorem dX4_isWord_56 : decode cX4_isWord 56 = .ok (.ireturn, 1) := by decide +kernel
theorem dX4_isWord_57 : decode cX4_isWord 57 = .ok (.iinc 2 1, 3) := by decide +kernel
theorem dX4_isWord_60 : decode cX4_isWord 60 = .ok (.goto (-32), 3) := by decide +kernel
theorem dX4_isWord_63 : decode cX4_isWord 63 = .ok (.iconst 1, 1) := by decide +kernel
theorem dX4_isWord_64 : decode cX4_isWord 64 = .ok (.ireturn, 1) := by decide +kernel
theorem dX4_numberTold_0 : decode cX4_numberTold 0 = .ok (.iconst 0, 1) := by decide +kernel
theorem dX4_numberTold_1 : decode cX4_numberTold 1 = .ok (.istore_n 1, 1) := by decide +kernel
theorem dX4_numberTold_2 : decode cX4_numberTold 2 = .ok (.aload_n 0, 1) := by decide +kernel
theorem dX4_numberTold_3 : decode cX4_numberTold 3 = .ok (.getfield 112, 3) := by decide +kernel
theorem dX4_numberTold_6 : decode cX4_numberTold 6 = .ok (.istore_n 2, 1) := by decide +kernel
theorem dX4_numberTold_7 : decode cX4_numberTold 7 = .ok (.iload_n 2, 1) := by decide +kernel
theorem dX4_numberTold_8 : decode cX4_numberTold 8 = .ok (.aload_n 0, 1) := by decide +kernel
theorem dX4_numberTold_9 : decode cX4_numberTold 9 = .ok (.getfield 27, 3) := by decide +kernel
theorem dX4_numberTold_12 : decode cX4_numberTold 12 = .ok (.if_icmp .ge 24, 3) := by decide +kernel
theorem dX4_numberTold_15 : decode cX4_numberTold 15 = .ok (.iload_n 1, 1) := by decide +kernel
theorem dX4_numberTold_16 : decode cX4_numberTold 16 = .ok (.bipush 10, 2) := by decide +kernel
theorem dX4_numberTold_18 : decode cX4_numberTold 18 = .ok (.imul, 1) := by decide +kernel
theorem dX4_numberTold_19 : decode cX4_numberTold 19 = .ok (.aload_n 0, 1) := by decide +kernel
theorem dX4_numberTold_20 : decode cX4_numberTold 20 = .ok (.getfield 11, 3) := by decide +kernel
theorem dX4_numberTold_23 : decode cX4_numberTold 23 = .ok (.iload_n 2, 1) := by decide +kernel
theorem dX4_numberTold_24 : decode cX4_numberTold 24 = .ok (.iaload, 1) := by decide +kernel
theorem dX4_numberTold_25 : decode cX4_numberTold 25 = .ok (.iadd, 1) := by decide +kernel
theorem dX4_numberTold_26 : decode cX4_numberTold 26 = .ok (.bipush 48, 2) := by decide +kernel
theorem dX4_numberTold_28 : decode cX4_numberTold 28 = .ok (.isub, 1) := by decide +kernel
theorem dX4_numberTold_29 : decode cX4_numberTold 29 = .ok (.istore_n 1, 1) := by decide +kernel
theorem dX4_numberTold_30 : decode cX4_numberTold 30 = .ok (.iinc 2 1, 3) := by decide +kernel
theorem dX4_numberTold_33 : decode cX4_numberTold 33 = .ok (.goto (-26), 3) := by decide +kernel
theorem dX4_numberTold_36 : decode cX4_numberTold 36 = .ok (.iload_n 1, 1) := by decide +kernel
theorem dX4_numberTold_37 : decode cX4_numberTold 37 = .ok (.ireturn, 1) := by decide +kernel
theorem dX4_step_0 : decode cX4_step 0 = .ok (.aload_n 0, 1) := by decide +kernel
theorem dX4_step_1 : decode cX4_step 1 = .ok (.aload_n 0, 1) := by decide +kernel
theorem dX4_step_2 : decode cX4_step 2 = .ok (.getfield 27, 3) := by decide +kernel
theorem dX4_step_5 : decode cX4_step 5 = .ok (.putfield 112, 3) := by decide +kernel
theorem dX4_step_8 : decode cX4_step 8 = .ok (.aload_n 0, 1) := by decide +kernel
theorem dX4_step_9 : decode cX4_step 9 = .ok (.getfield 112, 3) := by decide +kernel
theorem dX4_step_12 : decode cX4_step 12 = .ok (.aload_n 0, 1) := by decide +kernel
theorem dX4_step_13 : decode cX4_step 13 = .ok (.getfield 15, 3) := by decide +kernel
theorem dX4_step_16 : decode cX4_step 16 = .ok (.if_icmp .ge 44, 3) := by decide +kernel
theorem dX4_step_19 : decode cX4_step 19 = .ok (.aload_n 0, 1) := by decide +kernel
theorem dX4_step_20 : decode cX4_step 20 = .ok (.getfield 11, 3) := by decide +kernel
theorem dX4_step_23 : decode cX4_step 23 = .ok (.aload_n 0, 1) := by decide +kernel
theorem dX4_step_24 : decode cX4_step 24 = .ok (.getfield 112, 3) := by decide +kernel
theorem dX4_step_27 : decode cX4_step 27 = .ok (.iaload, 1) := by decide +kernel
theorem dX4_step_28 : decode cX4_step 28 = .ok (.bipush 32, 2) := by decide +kernel
theorem dX4_step_30 : decode cX4_step 30 = .ok (.if_icmp .eq 17, 3) := by decide +kernel
theorem dX4_step_33 : decode cX4_step 33 = .ok (.aload_n 0, 1) := by decide +kernel
theorem dX4_step_34 : decode cX4_step 34 = .ok (.getfield 11, 3) := by decide +kernel
theorem dX4_step_37 : decode cX4_step 37 = .ok (.aload_n 0, 1) := by decide +kernel
theorem dX4_step_38 : decode cX4_step 38 = .ok (.getfield 112, 3) := by decide +kernel
theorem dX4_step_41 : decode cX4_step 41 = .ok (.iaload, 1) := by decide +kernel
theorem dX4_step_42 : decode cX4_step 42 = .ok (.bipush 10, 2) := by decide +kernel
theorem dX4_step_44 : decode cX4_step 44 = .ok (.if_icmp .ne 16, 3) := by decide +kernel
theorem dX4_step_47 : decode cX4_step 47 = .ok (.aload_n 0, 1) := by decide +kernel
theorem dX4_step_48 : decode cX4_step 48 = .ok (.dup, 1) := by decide +kernel
theorem dX4_step_49 : decode cX4_step 49 = .ok (.getfield 112, 3) := by decide +kernel
theorem dX4_step_52 : decode cX4_step 52 = .ok (.iconst 1, 1) := by decide +kernel
theorem dX4_step_53 : decode cX4_step 53 = .ok (.iadd, 1) := by decide +kernel
theorem dX4_step_54 : decode cX4_step 54 = .ok (.putfield 112, 3) := by decide +kernel
theorem dX4_step_57 : decode cX4_step 57 = .ok (.goto (-49), 3) := by decide +kernel
theorem dX4_step_60 : decode cX4_step 60 = .ok (.aload_n 0, 1) := by decide +kernel
theorem dX4_step_61 : decode cX4_step 61 = .ok (.aload_n 0, 1) := by decide +kernel
theorem dX4_step_62 : decode cX4_step 62 = .ok (.getfield 112, 3) := by decide +kernel
theorem dX4_step_65 : decode cX4_step 65 = .ok (.putfield 27, 3) := by decide +kernel
theorem dX4_step_68 : decode cX4_step 68 = .ok (.aload_n 0, 1) := by decide +kernel
theorem dX4_step_69 : decode cX4_step 69 = .ok (.getfield 112, 3) := by decide +kernel
theorem dX4_step_72 : decode cX4_step 72 = .ok (.aload_n 0, 1) := by decide +kernel
theorem dX4_step_73 : decode cX4_step 73 = .ok (.getfield 15, 3) := by decide +kernel
theorem dX4_step_76 : decode cX4_step 76 = .ok (.if_icmp .lt 11, 3) := by decide +kernel
theorem dX4_step_79 : decode cX4_step 79 = .ok (.aload_n 0, 1) := by decide +kernel
theorem dX4_step_80 : decode cX4_step 80 = .ok (.iconst 0, 1) := by decide +kernel
theorem dX4_step_81 : decode cX4_step 81 = .ok (.putfield 43, 3) := by decide +kernel
theorem dX4_step_84 : decode cX4_step 84 = .ok (.goto 177, 3) := by decide +kernel
theorem dX4_step_87 : decode cX4_step 87 = .ok (.aload_n 0, 1) := by decide +kernel
theorem dX4_step_88 : decode cX4_step 88 = .ok (.getfield 11, 3) := by decide +kernel
theorem dX4_step_91 : decode cX4_step 91 = .ok (.aload_n 0, 1) := by decide +kernel
theorem dX4_step_92 : decode cX4_step 92 = .ok (.getfield 112, 3) := by decide +kernel
theorem dX4_step_95 : decode cX4_step 95 = .ok (.iaload, 1) := by decide +kernel
theorem dX4_step_96 : decode cX4_step 96 = .ok (.invokestatic 124, 3) := by decide +kernel
theorem dX4_step_99 : decode cX4_step 99 = .ok (.ifCond .eq 50, 3) := by decide +kernel
theorem dX4_step_102 : decode cX4_step 102 = .ok (.aload_n 0, 1) := by decide +kernel
theorem dX4_step_103 : decode cX4_step 103 = .ok (.getfield 27, 3) := by decide +kernel
theorem dX4_step_106 : decode cX4_step 106 = .ok (.aload_n 0, 1) := by decide +kernel
theorem dX4_step_107 : decode cX4_step 107 = .ok (.getfield 15, 3) := by decide +kernel
theorem dX4_step_110 : decode cX4_step 110 = .ok (.if_icmp .ge 31, 3) := by decide +kernel
theorem dX4_step_113 : decode cX4_step 113 = .ok (.aload_n 0, 1) := by decide +kernel
theorem dX4_step_114 : decode cX4_step 114 = .ok (.getfield 11, 3) := by decide +kernel
theorem dX4_step_117 : decode cX4_step 117 = .ok (.aload_n 0, 1) := by decide +kernel
theorem dX4_step_118 : decode cX4_step 118 = .ok (.getfield 27, 3) := by decide +kernel
theorem dX4_step_121 : decode cX4_step 121 = .ok (.iaload, 1) := by decide +kernel
theorem dX4_step_122 : decode cX4_step 122 = .ok (.invokestatic 124, 3) := by decide +kernel
theorem dX4_step_125 : decode cX4_step 125 = .ok (.ifCond .eq 16, 3) := by decide +kernel
theorem dX4_step_128 : decode cX4_step 128 = .ok (.aload_n 0, 1) := by decide +kernel
theorem dX4_step_129 : decode cX4_step 129 = .ok (.dup, 1) := by decide +kernel
theorem dX4_step_130 : decode cX4_step 130 = .ok (.getfield 27, 3) := by decide +kernel
theorem dX4_step_133 : decode cX4_step 133 = .ok (.iconst 1, 1) := by decide +kernel
theorem dX4_step_134 : decode cX4_step 134 = .ok (.iadd, 1) := by decide +kernel
theorem dX4_step_135 : decode cX4_step 135 = .ok (.putfield 27, 3) := by decide +kernel
theorem dX4_step_138 : decode cX4_step 138 = .ok (.goto (-36), 3) := by decide +kernel
theorem dX4_step_141 : decode cX4_step 141 = .ok (.aload_n 0, 1) := by decide +kernel
theorem dX4_step_142 : decode cX4_step 142 = .ok (.iconst 1, 1) := by decide +kernel
theorem dX4_step_143 : decode cX4_step 143 = .ok (.putfield 43, 3) := by decide +kernel
theorem dX4_step_146 : decode cX4_step 146 = .ok (.goto 115, 3) := by decide +kernel
theorem dX4_step_149 : decode cX4_step 149 = .ok (.aload_n 0, 1) := by decide +kernel
theorem dX4_step_150 : decode cX4_step 150 = .ok (.getfield 11, 3) := by decide +kernel
theorem dX4_step_153 : decode cX4_step 153 = .ok (.aload_n 0, 1) := by decide +kernel
theorem dX4_step_154 : decode cX4_step 154 = .ok (.getfield 112, 3) := by decide +kernel
theorem dX4_step_157 : decode cX4_step 157 = .ok (.iaload, 1) := by decide +kernel
theorem dX4_step_158 : decode cX4_step 158 = .ok (.invokestatic 127, 3) := by decide +kernel
theorem dX4_step_161 : decode cX4_step 161 = .ok (.ifCond .eq 67, 3) := by decide +kernel
theorem dX4_step_164 : decode cX4_step 164 = .ok (.aload_n 0, 1) := by decide +kernel
theorem dX4_step_165 : decode cX4_step 165 = .ok (.getfield 27, 3) := by decide +kernel
theorem dX4_step_168 : decode cX4_step 168 = .ok (.aload_n 0, 1) := by decide +kernel
theorem dX4_step_169 : decode cX4_step 169 = .ok (.getfield 15, 3) := by decide +kernel
theorem dX4_step_172 : decode cX4_step 172 = .ok (.if_icmp .ge 31, 3) := by decide +kernel
theorem dX4_step_175 : decode cX4_step 175 = .ok (.aload_n 0, 1) := by decide +kernel
theorem dX4_step_176 : decode cX4_step 176 = .ok (.getfield 11, 3) := by decide +kernel
theorem dX4_step_179 : decode cX4_step 179 = .ok (.aload_n 0, 1) := by decide +kernel
theorem dX4_step_180 : decode cX4_step 180 = .ok (.getfield 27, 3) := by decide +kernel
theorem dX4_step_183 : decode cX4_step 183 = .ok (.iaload, 1) := by decide +kernel
theorem dX4_step_184 : decode cX4_step 184 = .ok (.invokestatic 127, 3) := by decide +kernel
theorem dX4_step_187 : decode cX4_step 187 = .ok (.ifCond .eq 16, 3) := by decide +kernel
theorem dX4_step_190 : decode cX4_step 190 = .ok (.aload_n 0, 1) := by decide +kernel
theorem dX4_step_191 : decode cX4_step 191 = .ok (.dup, 1) := by decide +kernel
theorem dX4_step_192 : decode cX4_step 192 = .ok (.getfield 27, 3) := by decide +kernel
theorem dX4_step_195 : decode cX4_step 195 = .ok (.iconst 1, 1) := by decide +kernel
theorem dX4_step_196 : decode cX4_step 196 = .ok (.iadd, 1) := by decide +kernel
theorem dX4_step_197 : decode cX4_step 197 = .ok (.putfield 27, 3) := by decide +kernel
theorem dX4_step_200 : decode cX4_step 200 = .ok (.goto (-36), 3) := by decide +kernel
theorem dX4_step_203 : decode cX4_step 203 = .ok (.aload_n 0, 1) := by decide +kernel
theorem dX4_step_204 : decode cX4_step 204 = .ok (.aload_n 0, 1) := by decide +kernel
theorem dX4_step_205 : decode cX4_step 205 = .ok (.getfield 27, 3) := by decide +kernel
theorem dX4_step_208 : decode cX4_step 208 = .ok (.aload_n 0, 1) := by decide +kernel
theorem dX4_step_209 : decode cX4_step 209 = .ok (.getfield 112, 3) := by decide +kernel
theorem dX4_step_212 : decode cX4_step 212 = .ok (.isub, 1) := by decide +kernel
theorem dX4_step_213 : decode cX4_step 213 = .ok (.iconst 3, 1) := by decide +kernel
theorem dX4_step_214 : decode cX4_step 214 = .ok (.if_icmp .le 7, 3) := by decide +kernel
theorem dX4_step_217 : decode cX4_step 217 = .ok (.iconst 4, 1) := by decide +kernel
theorem dX4_step_218 : decode cX4_step 218 = .ok (.goto 4, 3) := by decide +kernel
theorem dX4_step_221 : decode cX4_step 221 = .ok (.iconst 2, 1) := by decide +kernel
theorem dX4_step_222 : decode cX4_step 222 = .ok (.putfield 43, 3) := by decide +kernel
theorem dX4_step_225 : decode cX4_step 225 = .ok (.goto 36, 3) := by decide +kernel
theorem dX4_step_228 : decode cX4_step 228 = .ok (.aload_n 0, 1) := by decide +kernel
theorem dX4_step_229 : decode cX4_step 229 = .ok (.dup, 1) := by decide +kernel
theorem dX4_step_230 : decode cX4_step 230 = .ok (.getfield 27, 3) := by decide +kernel
theorem dX4_step_233 : decode cX4_step 233 = .ok (.iconst 1, 1) := by decide +kernel
theorem dX4_step_234 : decode cX4_step 234 = .ok (.iadd, 1) := by decide +kernel
theorem dX4_step_235 : decode cX4_step 235 = .ok (.putfield 27, 3) := by decide +kernel
theorem dX4_step_238 : decode cX4_step 238 = .ok (.aload_n 0, 1) := by decide +kernel
theorem dX4_step_239 : decode cX4_step 239 = .ok (.aload_n 0, 1) := by decide +kernel
theorem dX4_step_240 : decode cX4_step 240 = .ok (.getfield 11, 3) := by decide +kernel
theorem dX4_step_243 : decode cX4_step 243 = .ok (.aload_n 0, 1) := by decide +kernel
theorem dX4_step_244 : decode cX4_step 244 = .ok (.getfield 112, 3) := by decide +kernel
theorem dX4_step_247 : decode cX4_step 247 = .ok (.iaload, 1) := by decide +kernel
theorem dX4_step_248 : decode cX4_step 248 = .ok (.bipush 59, 2) := by decide +kernel
theorem dX4_step_250 : decode cX4_step 250 = .ok (.if_icmp .ne 7, 3) := by decide +kernel
theorem dX4_step_253 : decode cX4_step 253 = .ok (.iconst 3, 1) := by decide +kernel
theorem dX4_step_254 : decode cX4_step 254 = .ok (.goto 4, 3) := by decide +kernel
theorem dX4_step_257 : decode cX4_step 257 = .ok (.iconst 4, 1) := by decide +kernel
theorem dX4_step_258 : decode cX4_step 258 = .ok (.putfield 43, 3) := by decide +kernel
theorem dX4_step_261 : decode cX4_step 261 = .ok (.return_, 1) := by decide +kernel
theorem dX4_isLetter_0 : decode cX4_isLetter 0 = .ok (.iload_n 0, 1) := by decide +kernel
theorem dX4_isLetter_1 : decode cX4_isLetter 1 = .ok (.bipush 97, 2) := by decide +kernel
theorem dX4_isLetter_3 : decode cX4_isLetter 3 = .ok (.if_icmp .lt 13, 3) := by decide +kernel
theorem dX4_isLetter_6 : decode cX4_isLetter 6 = .ok (.iload_n 0, 1) := by decide +kernel
theorem dX4_isLetter_7 : decode cX4_isLetter 7 = .ok (.bipush 122, 2) := by decide +kernel
theorem dX4_isLetter_9 : decode cX4_isLetter 9 = .ok (.if_icmp .gt 7, 3) := by decide +kernel
theorem dX4_isLetter_12 : decode cX4_isLetter 12 = .ok (.iconst 1, 1) := by decide +kernel
theorem dX4_isLetter_13 : decode cX4_isLetter 13 = .ok (.goto 4, 3) := by decide +kernel
theorem dX4_isLetter_16 : decode cX4_isLetter 16 = .ok (.iconst 0, 1) := by decide +kernel
theorem dX4_isLetter_17 : decode cX4_isLetter 17 = .ok (.ireturn, 1) := by decide +kernel
theorem dX4_isFigure_0 : decode cX4_isFigure 0 = .ok (.iload_n 0, 1) := by decide +kernel
theorem dX4_isFigure_1 : decode cX4_isFigure 1 = .ok (.bipush 48, 2) := by decide +kernel
theorem dX4_isFigure_3 : decode cX4_isFigure 3 = .ok (.if_icmp .lt 13, 3) := by decide +kernel
theorem dX4_isFigure_6 : decode cX4_isFigure 6 = .ok (.iload_n 0, 1) := by decide +kernel
theorem dX4_isFigure_7 : decode cX4_isFigure 7 = .ok (.bipush 57, 2) := by decide +kernel
theorem dX4_isFigure_9 : decode cX4_isFigure 9 = .ok (.if_icmp .gt 7, 3) := by decide +kernel
theorem dX4_isFigure_12 : decode cX4_isFigure 12 = .ok (.iconst 1, 1) := by decide +kernel
theorem dX4_isFigure_13 : decode cX4_isFigure 13 = .ok (.goto 4, 3) := by decide +kernel
theorem dX4_isFigure_16 : decode cX4_isFigure 16 = .ok (.iconst 0, 1) := by decide +kernel
theorem dX4_isFigure_17 : decode cX4_isFigure 17 = .ok (.ireturn, 1) := by decide +kernel
theorem dX5_init_0 : decode cX5_init 0 = .ok (.aload_n 0, 1) := by decide +kernel
theorem dX5_init_1 : decode cX5_init 1 = .ok (.invokespecial 1, 3) := by decide +kernel
theorem dX5_init_4 : decode cX5_init 4 = .ok (.aload_n 0, 1) := by decide +kernel
theorem dX5_init_5 : decode cX5_init 5 = .ok (.bipush 40, 2) := by decide +kernel
theorem dX5_init_7 : decode cX5_init 7 = .ok (.newarray .int, 2) := by decide +kernel
theorem dX5_init_9 : decode cX5_init 9 = .ok (.putfield 9, 3) := by decide +kernel
theorem dX5_init_12 : decode cX5_init 12 = .ok (.aload_n 0, 1) := by decide +kernel
theorem dX5_init_13 : decode cX5_init 13 = .ok (.iconst 1, 1) := by decide +kernel
theorem dX5_init_14 : decode cX5_init 14 = .ok (.putfield 13, 3) := by decide +kernel
theorem dX5_init_17 : decode cX5_init 17 = .ok (.return_, 1) := by decide +kernel
theorem dX5_lay_0 : decode cX5_lay 0 = .ok (.aload_n 0, 1) := by decide +kernel
theorem dX5_lay_1 : decode cX5_lay 1 = .ok (.iconst 0, 1) := by decide +kernel
theorem dX5_lay_2 : decode cX5_lay 2 = .ok (.putfield 13, 3) := by decide +kernel
theorem dX5_lay_5 : decode cX5_lay 5 = .ok (.aload_n 0, 1) := by decide +kernel
theorem dX5_lay_6 : decode cX5_lay 6 = .ok (.iload_n 1, 1) := by decide +kernel
theorem dX5_lay_7 : decode cX5_lay 7 = .ok (.putfield 17, 3) := by decide +kernel
theorem dX5_lay_10 : decode cX5_lay 10 = .ok (.aload_n 0, 1) := by decide +kernel
theorem dX5_lay_11 : decode cX5_lay 11 = .ok (.iload_n 2, 1) := by decide +kernel
theorem dX5_lay_12 : decode cX5_lay 12 = .ok (.putfield 21, 3) := by decide +kernel
theorem dX5_lay_15 : decode cX5_lay 15 = .ok (.iconst 0, 1) := by decide +kernel
theorem dX5_lay_16 : decode cX5_lay 16 = .ok (.istore_n 3, 1) := by decide +kernel
theorem dX5_lay_17 : decode cX5_lay 17 = .ok (.iload_n 3, 1) := by decide +kernel
theorem dX5_lay_18 : decode cX5_lay 18 = .ok (.bipush 40, 2) := by decide +kernel
theorem dX5_lay_20 : decode cX5_lay 20 = .ok (.if_icmp .ge 16, 3) := by decide +kernel
theorem dX5_lay_23 : decode cX5_lay 23 = .ok (.aload_n 0, 1) := by decide +kernel
theorem dX5_lay_24 : decode cX5_lay 24 = .ok (.getfield 9, 3) := by decide +kernel
theorem dX5_lay_27 : decode cX5_lay 27 = .ok (.iload_n 3, 1) := by decide +kernel
theorem dX5_lay_28 : decode cX5_lay 28 = .ok (.iconst 0, 1) := by decide +kernel
theorem dX5_lay_29 : decode cX5_lay 29 = .ok (.iastore, 1) := by decide +kernel
theorem dX5_lay_30 : decode cX5_lay 30 = .ok (.iinc 3 1, 3) := by decide +kernel
theorem dX5_lay_33 : decode cX5_lay 33 = .ok (.goto (-16), 3) := by decide +kernel
theorem dX5_lay_36 : decode cX5_lay 36 = .ok (.return_, 1) := by decide +kernel
theorem dX5_put_0 : decode cX5_put 0 = .ok (.iload_n 2, 1) := by decide +kernel
theorem dX5_put_1 : decode cX5_put 1 = .ok (.istore_n 3, 1) := by decide +kernel
theorem dX5_put_2 : decode cX5_put 2 = .ok (.aload_n 0, 1) := by decide +kernel
theorem dX5_put_3 : decode cX5_put 3 = .ok (.getfield 17, 3) := by decide +kernel
theorem dX5_put_6 : decode cX5_put 6 = .ok (.ifCond .ne 9, 3) := by decide +kernel
theorem dX5_put_9 : decode cX5_put 9 = .ok (.iload_n 2, 1) := by decide +kernel
theorem dX5_put_10 : decode cX5_put 10 = .ok (.i2b, 1) := by decide +kernel
theorem dX5_put_11 : decode cX5_put 11 = .ok (.istore_n 3, 1) := by decide +kernel
theorem dX5_put_12 : decode cX5_put 12 = .ok (.goto 14, 3) := by decide +kernel
theorem dX5_put_15 : decode cX5_put 15 = .ok (.aload_n 0, 1) := by decide +kernel
theorem dX5_put_16 : decode cX5_put 16 = .ok (.getfield 17, 3) := by decide +kernel
theorem dX5_put_19 : decode cX5_put 19 = .ok (.iconst 1, 1) := by decide +kernel
theorem dX5_put_20 : decode cX5_put 20 = .ok (.if_icmp .ne 6, 3) := by decide +kernel
theorem dX5_put_23 : decode cX5_put 23 = .ok (.iload_n 2, 1) := by decide +kernel
theorem dX5_put_24 : decode cX5_put 24 = .ok (.i2s, 1) := by decide +kernel
theorem dX5_put_25 : decode cX5_put 25 = .ok (.istore_n 3, 1) := by decide +kernel
theorem dX5_put_26 : decode cX5_put 26 = .ok (.aload_n 0, 1) := by decide +kernel
theorem dX5_put_27 : decode cX5_put 27 = .ok (.getfield 9, 3) := by decide +kernel
theorem dX5_put_30 : decode cX5_put 30 = .ok (.iload_n 1, 1) := by decide +kernel
theorem dX5_put_31 : decode cX5_put 31 = .ok (.iload_n 3, 1) := by decide +kernel
theorem dX5_put_32 : decode cX5_put 32 = .ok (.iastore, 1) := by decide +kernel
theorem dX5_put_33 : decode cX5_put 33 = .ok (.iload_n 3, 1) := by decide +kernel
theorem dX5_put_34 : decode cX5_put 34 = .ok (.ireturn, 1) := by decide +kernel
theorem dX5_has_0 : decode cX5_has 0 = .ok (.iload_n 1, 1) := by decide +kernel
theorem dX5_has_1 : decode cX5_has 1 = .ok (.ifCond .lt 21, 3) := by decide +kernel
theorem dX5_has_4 : decode cX5_has 4 = .ok (.iload_n 2, 1) := by decide +kernel
theorem dX5_has_5 : decode cX5_has 5 = .ok (.ifCond .lt 17, 3) := by decide +kernel
theorem dX5_has_8 : decode cX5_has 8 = .ok (.iload_n 1, 1) := by decide +kernel
theorem dX5_has_9 : decode cX5_has 9 = .ok (.aload_n 0, 1) := by decide +kernel
theorem dX5_has_10 : decode cX5_has 10 = .ok (.getfield 21, 3) := by decide +kernel
theorem dX5_has_13 : decode cX5_has 13 = .ok (.iload_n 2, 1) := by decide +kernel
theorem dX5_has_14 : decode cX5_has 14 = .ok (.isub, 1) := by decide +kernel
theorem dX5_has_15 : decode cX5_has 15 = .ok (.if_icmp .gt 7, 3) := by decide +kernel
theorem dX5_has_18 : decode cX5_has 18 = .ok (.iconst 1, 1) := by decide +kernel
theorem dX5_has_19 : decode cX5_has 19 = .ok (.goto 4, 3) := by decide +kernel
theorem dX5_has_22 : decode cX5_has 22 = .ok (.iconst 0, 1) := by decide +kernel
theorem dX5_has_23 : decode cX5_has 23 = .ok (.ireturn, 1) := by decide +kernel
theorem dX6_init_0 : decode cX6_init 0 = .ok (.aload_n 0, 1) := by decide +kernel
theorem dX6_init_1 : decode cX6_init 1 = .ok (.invokespecial 1, 3) := by decide +kernel
theorem dX6_init_4 : decode cX6_init 4 = .ok (.aload_n 0, 1) := by decide +kernel
theorem dX6_init_5 : decode cX6_init 5 = .ok (.iconst 4, 1) := by decide +kernel
theorem dX6_init_6 : decode cX6_init 6 = .ok (.newarray .int, 2) := by decide +kernel
theorem dX6_init_8 : decode cX6_init 8 = .ok (.putfield 9, 3) := by decide +kernel
theorem dX6_init_11 : decode cX6_init 11 = .ok (.return_, 1) := by decide +kernel
theorem dX6_sayTold_0 : decode cX6_sayTold 0 = .ok (.aload_n 0, 1) := by decide +kernel
theorem dX6_sayTold_1 : decode cX6_sayTold 1 = .ok (.iload_n 2, 1) := by decide +kernel
theorem dX6_sayTold_2 : decode cX6_sayTold 2 = .ok (.putfield 15, 3) := by decide +kernel
theorem dX6_sayTold_5 : decode cX6_sayTold 5 = .ok (.aload_n 1, 1) := by decide +kernel
theorem dX6_sayTold_6 : decode cX6_sayTold 6 = .ok (.iconst 0, 1) := by decide +kernel
theorem dX6_sayTold_7 : decode cX6_sayTold 7 = .ok (.aload_n 0, 1) := by decide +kernel
theorem dX6_sayTold_8 : decode cX6_sayTold 8 = .ok (.getfield 9, 3) := by decide +kernel
theorem dX6_sayTold_11 : decode cX6_sayTold 11 = .ok (.iconst 0, 1) := by decide +kernel
theorem dX6_sayTold_12 : decode cX6_sayTold 12 = .ok (.iload_n 2, 1) := by decide +kernel
theorem dX6_sayTold_13 : decode cX6_sayTold 13 = .ok (.invokestatic 19, 3) := by decide +kernel
theorem dX6_sayTold_16 : decode cX6_sayTold 16 = .ok (.return_, 1) := by decide +kernel
theorem dX6_sayOwn_0 : decode cX6_sayOwn 0 = .ok (.aload_n 0, 1) := by decide +kernel
theorem dX6_sayOwn_1 : decode cX6_sayOwn 1 = .ok (.aload_n 1, 1) := by decide +kernel
theorem dX6_sayOwn_2 : decode cX6_sayOwn 2 = .ok (.getfield 25, 3) := by decide +kernel
theorem dX6_sayOwn_5 : decode cX6_sayOwn 5 = .ok (.putfield 15, 3) := by decide +kernel
theorem dX6_sayOwn_8 : decode cX6_sayOwn 8 = .ok (.iconst 0, 1) := by decide +kernel
theorem dX6_sayOwn_9 : decode cX6_sayOwn 9 = .ok (.istore_n 3, 1) := by decide +kernel
theorem dX6_sayOwn_10 : decode cX6_sayOwn 10 = .ok (.iload_n 3, 1) := by decide +kernel
theorem dX6_sayOwn_11 : decode cX6_sayOwn 11 = .ok (.aload_n 0, 1) := by decide +kernel
theorem dX6_sayOwn_12 : decode cX6_sayOwn 12 = .ok (.getfield 15, 3) := by decide +kernel
theorem dX6_sayOwn_15 : decode cX6_sayOwn 15 = .ok (.if_icmp .ge 21, 3) := by decide +kernel
theorem dX6_sayOwn_18 : decode cX6_sayOwn 18 = .ok (.aload_n 0, 1) := by decide +kernel
theorem dX6_sayOwn_19 : decode cX6_sayOwn 19 = .ok (.getfield 9, 3) := by decide +kernel
theorem dX6_sayOwn_22 : decode cX6_sayOwn 22 = .ok (.iload_n 3, 1) := by decide +kernel
theorem dX6_sayOwn_23 : decode cX6_sayOwn 23 = .ok (.aload_n 1, 1) := by decide +kernel
theorem dX6_sayOwn_24 : decode cX6_sayOwn 24 = .ok (.iload_n 2, 1) := by decide +kernel
theorem dX6_sayOwn_25 : decode cX6_sayOwn 25 = .ok (.iload_n 3, 1) := by decide +kernel
theorem dX6_sayOwn_26 : decode cX6_sayOwn 26 = .ok (.invokevirtual 26, 3) := by decide +kernel
theorem dX6_sayOwn_29 : decode cX6_sayOwn 29 = .ok (.iastore, 1) := by decide +kernel
theorem dX6_sayOwn_30 : decode cX6_sayOwn 30 = .ok (.iinc 3 1, 3) := by decide +kernel
theorem dX6_sayOwn_33 : decode cX6_sayOwn 33 = .ok (.goto (-23), 3) := by decide +kernel
theorem dX6_sayOwn_36 : decode cX6_sayOwn 36 = .ok (.return_, 1) := by decide +kernel
theorem dX6_lowest_0 : decode cX6_lowest 0 = .ok (.bipush 6, 2) := by decide +kernel
theorem dX6_lowest_2 : decode cX6_lowest 2 = .ok (.istore_n 2, 1) := by decide +kernel
theorem dX6_lowest_3 : decode cX6_lowest 3 = .ok (.iconst 0, 1) := by decide +kernel
theorem dX6_lowest_4 : decode cX6_lowest 4 = .ok (.istore_n 3, 1) := by decide +kernel
theorem dX6_lowest_5 : decode cX6_lowest 5 = .ok (.iload_n 3, 1) := by decide +kernel
theorem dX6_lowest_6 : decode cX6_lowest 6 = .ok (.aload_n 0, 1) := by decide +kernel
theorem dX6_lowest_7 : decode cX6_lowest 7 = .ok (.getfield 15, 3) := by decide +kernel
theorem dX6_lowest_10 : decode cX6_lowest 10 = .ok (.if_icmp .ge 31, 3) := by decide +kernel
theorem dX6_lowest_13 : decode cX6_lowest 13 = .ok (.iload_n 3, 1) := by decide +kernel
theorem dX6_lowest_14 : decode cX6_lowest 14 = .ok (.iload_n 1, 1) := by decide +kernel
theorem dX6_lowest_15 : decode cX6_lowest 15 = .ok (.if_icmp .eq 20, 3) := by decide +kernel
theorem dX6_lowest_18 : decode cX6_lowest 18 = .ok (.aload_n 0, 1) := by decide +kernel
theorem dX6_lowest_19 : decode cX6_lowest 19 = .ok (.getfield 9, 3) := by decide +kernel
theorem dX6_lowest_22 : decode cX6_lowest 22 = .ok (.iload_n 3, 1) := by decide +kernel
theorem dX6_lowest_23 : decode cX6_lowest 23 = .ok (.iaload, 1) := by decide +kernel
theorem dX6_lowest_24 : decode cX6_lowest 24 = .ok (.iload_n 2, 1) := by decide +kernel
theorem dX6_lowest_25 : decode cX6_lowest 25 = .ok (.if_icmp .ge 10, 3) := by decide +kernel
theorem dX6_lowest_28 : decode cX6_lowest 28 = .ok (.aload_n 0, 1) := by decide +kernel
theorem dX6_lowest_29 : decode cX6_lowest 29 = .ok (.getfield 9, 3) := by decide +kernel
theorem dX6_lowest_32 : decode cX6_lowest 32 = .ok (.iload_n 3, 1) := by decide +kernel
theorem dX6_lowest_33 : decode cX6_lowest 33 = .ok (.iaload, 1) := by decide +kernel
theorem dX6_lowest_34 : decode cX6_lowest 34 = .ok (.istore_n 2, 1) := by decide +kernel
theorem dX6_lowest_35 : decode cX6_lowest 35 = .ok (.iinc 3 1, 3) := by decide +kernel
theorem dX6_lowest_38 : decode cX6_lowest 38 = .ok (.goto (-33), 3) := by decide +kernel
theorem dX6_lowest_41 : decode cX6_lowest 41 = .ok (.iload_n 2, 1) := by decide +kernel
theorem dX6_lowest_42 : decode cX6_lowest 42 = .ok (.ireturn, 1) := by decide +kernel
theorem dX6_manyAt_0 : decode cX6_manyAt 0 = .ok (.iconst 0, 1) := by decide +kernel
theorem dX6_manyAt_1 : decode cX6_manyAt 1 = .ok (.istore_n 3, 1) := by decide +kernel
theorem dX6_manyAt_2 : decode cX6_manyAt 2 = .ok (.iconst 0, 1) := by decide +kernel
theorem dX6_manyAt_3 : decode cX6_manyAt 3 = .ok (.istore 4, 2) := by decide +kernel
theorem dX6_manyAt_5 : decode cX6_manyAt 5 = .ok (.iload 4, 2) := by decide +kernel
theorem dX6_manyAt_7 : decode cX6_manyAt 7 = .ok (.aload_n 0, 1) := by decide +kernel
theorem dX6_manyAt_8 : decode cX6_manyAt 8 = .ok (.getfield 15, 3) := by decide +kernel
theorem dX6_manyAt_11 : decode cX6_manyAt 11 = .ok (.if_icmp .ge 29, 3) := by decide +kernel
theorem dX6_manyAt_14 : decode cX6_manyAt 14 = .ok (.iload 4, 2) := by decide +kernel
theorem dX6_manyAt_16 : decode cX6_manyAt 16 = .ok (.iload_n 2, 1) := by decide +kernel
theorem dX6_manyAt_17 : decode cX6_manyAt 17 = .ok (.if_icmp .eq 17, 3) := by decide +kernel
theorem dX6_manyAt_20 : decode cX6_manyAt 20 = .ok (.aload_n 0, 1) := by decide +kernel
theorem dX6_manyAt_21 : decode cX6_manyAt 21 = .ok (.getfield 9, 3) := by decide +kernel
theorem dX6_manyAt_24 : decode cX6_manyAt 24 = .ok (.iload 4, 2) := by decide +kernel
theorem dX6_manyAt_26 : decode cX6_manyAt 26 = .ok (.iaload, 1) := by decide +kernel
theorem dX6_manyAt_27 : decode cX6_manyAt 27 = .ok (.iload_n 1, 1) := by decide +kernel
theorem dX6_manyAt_28 : decode cX6_manyAt 28 = .ok (.if_icmp .ne 6, 3) := by decide +kernel
theorem dX6_manyAt_31 : decode cX6_manyAt 31 = .ok (.iinc 3 1, 3) := by decide +kernel
theorem dX6_manyAt_34 : decode cX6_manyAt 34 = .ok (.iinc 4 1, 3) := by decide +kernel
theorem dX6_manyAt_37 : decode cX6_manyAt 37 = .ok (.goto (-32), 3) := by decide +kernel
theorem dX6_manyAt_40 : decode cX6_manyAt 40 = .ok (.iload_n 3, 1) := by decide +kernel
theorem dX6_manyAt_41 : decode cX6_manyAt 41 = .ok (.ireturn, 1) := by decide +kernel
theorem dX6_sayer_0 : decode cX6_sayer 0 = .ok (.iconst 0, 1) := by decide +kernel
theorem dX6_sayer_1 : decode cX6_sayer 1 = .ok (.istore_n 3, 1) := by decide +kernel
theorem dX6_sayer_2 : decode cX6_sayer 2 = .ok (.iconst 0, 1) := by decide +kernel
theorem dX6_sayer_3 : decode cX6_sayer 3 = .ok (.istore 4, 2) := by decide +kernel
theorem dX6_sayer_5 : decode cX6_sayer 5 = .ok (.iload 4, 2) := by decide +kernel
theorem dX6_sayer_7 : decode cX6_sayer 7 = .ok (.aload_n 0, 1) := by decide +kernel
theorem dX6_sayer_8 : decode cX6_sayer 8 = .ok (.getfield 15, 3) := by decide +kernel
theorem dX6_sayer_11 : decode cX6_sayer 11 = .ok (.if_icmp .ge 31, 3) := by decide +kernel
theorem dX6_sayer_14 : decode cX6_sayer 14 = .ok (.aload_n 0, 1) := by decide +kernel
theorem dX6_sayer_15 : decode cX6_sayer 15 = .ok (.getfield 9, 3) := by decide +kernel
theorem dX6_sayer_18 : decode cX6_sayer 18 = .ok (.iload 4, 2) := by decide +kernel
theorem dX6_sayer_20 : decode cX6_sayer 20 = .ok (.iaload, 1) := by decide +kernel
theorem dX6_sayer_21 : decode cX6_sayer 21 = .ok (.iload_n 1, 1) := by decide +kernel
theorem dX6_sayer_22 : decode cX6_sayer 22 = .ok (.if_icmp .ne 14, 3) := by decide +kernel
theorem dX6_sayer_25 : decode cX6_sayer 25 = .ok (.iload_n 3, 1) := by decide +kernel
theorem dX6_sayer_26 : decode cX6_sayer 26 = .ok (.iload_n 2, 1) := by decide +kernel
theorem dX6_sayer_27 : decode cX6_sayer 27 = .ok (.if_icmp .ne 6, 3) := by decide +kernel
theorem dX6_sayer_30 : decode cX6_sayer 30 = .ok (.iload 4, 2) := by decide +kernel
theorem dX6_sayer_32 : decode cX6_sayer 32 = .ok (.ireturn, 1) := by decide +kernel
theorem dX6_sayer_33 : decode cX6_sayer 33 = .ok (.iinc 3 1, 3) := by decide +kernel
theorem dX6_sayer_36 : decode cX6_sayer 36 = .ok (.iinc 4 1, 3) := by decide +kernel
theorem dX6_sayer_39 : decode cX6_sayer 39 = .ok (.goto (-34), 3) := by decide +kernel
theorem dX6_sayer_42 : decode cX6_sayer 42 = .ok (.iconst 0, 1) := by decide +kernel
theorem dX6_sayer_43 : decode cX6_sayer 43 = .ok (.ireturn, 1) := by decide +kernel
theorem dX6_next_0 : decode cX6_next 0 = .ok (.aload_n 0, 1) := by decide +kernel
theorem dX6_next_1 : decode cX6_next 1 = .ok (.getfield 15, 3) := by decide +kernel
theorem dX6_next_4 : decode cX6_next 4 = .ok (.iconst 1, 1) := by decide +kernel
theorem dX6_next_5 : decode cX6_next 5 = .ok (.if_icmp .le 11, 3) := by decide +kernel
theorem dX6_next_8 : decode cX6_next 8 = .ok (.aload_n 0, 1) := by decide +kernel
theorem dX6_next_9 : decode cX6_next 9 = .ok (.iload_n 1, 1) := by decide +kernel
theorem dX6_next_10 : decode cX6_next 10 = .ok (.invokevirtual 30, 3) := by decide +kernel
theorem dX6_next_13 : decode cX6_next 13 = .ok (.goto 4, 3) := by decide +kernel
theorem dX6_next_16 : decode cX6_next 16 = .ok (.iconst 0, 1) := by decide +kernel
theorem dX6_next_17 : decode cX6_next 17 = .ok (.ireturn, 1) := by decide +kernel
theorem dX7_init_0 : decode cX7_init 0 = .ok (.aload_n 0, 1) := by decide +kernel
theorem dX7_init_1 : decode cX7_init 1 = .ok (.invokespecial 3, 3) := by decide +kernel
theorem dX7_init_4 : decode cX7_init 4 = .ok (.aload_n 0, 1) := by decide +kernel
theorem dX7_init_5 : decode cX7_init 5 = .ok (.iconst 4, 1) := by decide +kernel
theorem dX7_init_6 : decode cX7_init 6 = .ok (.newarray .int, 2) := by decide +kernel
theorem dX7_init_8 : decode cX7_init 8 = .ok (.putfield 11, 3) := by decide +kernel
theorem dX7_init_11 : decode cX7_init 11 = .ok (.aload_n 0, 1) := by decide +kernel
theorem dX7_init_12 : decode cX7_init 12 = .ok (.iconst 4, 1) := by decide +kernel
theorem dX7_init_13 : decode cX7_init 13 = .ok (.newarray .int, 2) := by decide +kernel
theorem dX7_init_15 : decode cX7_init 15 = .ok (.putfield 15, 3) := by decide +kernel
theorem dX7_init_18 : decode cX7_init 18 = .ok (.aload_n 0, 1) := by decide +kernel
theorem dX7_init_19 : decode cX7_init 19 = .ok (.bipush 20, 2) := by decide +kernel
theorem dX7_init_21 : decode cX7_init 21 = .ok (.newarray .int, 2) := by decide +kernel
theorem dX7_init_23 : decode cX7_init 23 = .ok (.putfield 18, 3) := by decide +kernel
theorem dX7_init_26 : decode cX7_init 26 = .ok (.aload_n 0, 1) := by decide +kernel
theorem dX7_init_27 : decode cX7_init 27 = .ok (.iconst 5, 1) := by decide +kernel
theorem dX7_init_28 : decode cX7_init 28 = .ok (.newarray .int, 2) := by decide +kernel
theorem dX7_init_30 : decode cX7_init 30 = .ok (.putfield 21, 3) := by decide +kernel
theorem dX7_init_33 : decode cX7_init 33 = .ok (.aload_n 0, 1) := by decide +kernel
theorem dX7_init_34 : decode cX7_init 34 = .ok (.iconst 5, 1) := by decide +kernel
theorem dX7_init_35 : decode cX7_init 35 = .ok (.newarray .int, 2) := by decide +kernel
theorem dX7_init_37 : decode cX7_init 37 = .ok (.putfield 24, 3) := by decide +kernel
theorem dX7_init_40 : decode cX7_init 40 = .ok (.return_, 1) := by decide +kernel
theorem dX7_becomeEmpty_0 : decode cX7_becomeEmpty 0 = .ok (.aload_n 0, 1) := by decide +kernel
theorem dX7_becomeEmpty_1 : decode cX7_becomeEmpty 1 = .ok (.iconst 0, 1) := by decide +kernel
theorem dX7_becomeEmpty_2 : decode cX7_becomeEmpty 2 = .ok (.putfield 27, 3) := by decide +kernel
theorem dX7_becomeEmpty_5 : decode cX7_becomeEmpty 5 = .ok (.aload_n 0, 1) := by decide +kernel
theorem dX7_becomeEmpty_6 : decode cX7_becomeEmpty 6 = .ok (.iconst 0, 1) := by decide +kernel
theorem dX7_becomeEmpty_7 : decode cX7_becomeEmpty 7 = .ok (.putfield 31, 3) := by decide +kernel
theorem dX7_becomeEmpty_10 : decode cX7_becomeEmpty 10 = .ok (.aload_n 0, 1) := by decide +kernel
theorem dX7_becomeEmpty_11 : decode cX7_becomeEmpty 11 = .ok (.iconst 0, 1) := by decide +kernel
theorem dX7_becomeEmpty_12 : decode cX7_becomeEmpty 12 = .ok (.putfield 34, 3) := by decide +kernel
theorem dX7_becomeEmpty_15 : decode cX7_becomeEmpty 15 = .ok (.aload_n 0, 1) := by decide +kernel
theorem dX7_becomeEmpty_16 : decode cX7_becomeEmpty 16 = .ok (.iconst 0, 1) := by decide +kernel
theorem dX7_becomeEmpty_17 : decode cX7_becomeEmpty 17 = .ok (.putfield 37, 3) := by decide +kernel
theorem dX7_becomeEmpty_20 : decode cX7_becomeEmpty 20 = .ok (.iconst 0, 1) := by decide +kernel
theorem dX7_becomeEmpty_21 : decode cX7_becomeEmpty 21 = .ok (.istore_n 1, 1) := by decide +kernel
theorem dX7_becomeEmpty_22 : decode cX7_becomeEmpty 22 = .ok (.iload_n 1, 1) := by decide +kernel
theorem dX7_becomeEmpty_23 : decode cX7_becomeEmpty 23 = .ok (.iconst 4, 1) := by decide +kernel
theorem dX7_becomeEmpty_24 : decode cX7_becomeEmpty 24 = .ok (.if_icmp .ge 16, 3) := by decide +kernel
theorem dX7_becomeEmpty_27 : decode cX7_becomeEmpty 27 = .ok (.aload_n 0, 1) := by decide +kernel
theorem dX7_becomeEmpty_28 : decode cX7_becomeEmpty 28 = .ok (.getfield 15, 3) := by decide +kernel
theorem dX7_becomeEmpty_31 : decode cX7_becomeEmpty 31 = .ok (.iload_n 1, 1) := by decide +kernel
theorem dX7_becomeEmpty_32 : decode cX7_becomeEmpty 32 = .ok (.iconst 0, 1) := by decide +kernel
theorem dX7_becomeEmpty_33 : decode cX7_becomeEmpty 33 = .ok (.iastore, 1) := by decide +kernel
theorem dX7_becomeEmpty_34 : decode cX7_becomeEmpty 34 = .ok (.iinc 1 1, 3) := by decide +kernel
theorem dX7_becomeEmpty_37 : decode cX7_becomeEmpty 37 = .ok (.goto (-15), 3) := by decide +kernel
theorem dX7_becomeEmpty_40 : decode cX7_becomeEmpty 40 = .ok (.iconst 0, 1) := by decide +kernel
theorem dX7_becomeEmpty_41 : decode cX7_becomeEmpty 41 = .ok (.istore_n 1, 1) := by decide +kernel
theorem dX7_becomeEmpty_42 : decode cX7_becomeEmpty 42 = .ok (.iload_n 1, 1) := by decide +kernel
theorem dX7_becomeEmpty_43 : decode cX7_becomeEmpty 43 = .ok (.iconst 5, 1) := by decide +kernel
theorem dX7_becomeEmpty_44 : decode cX7_becomeEmpty 44 = .ok (.if_icmp .ge 24, 3) := by decide +kernel
theorem dX7_becomeEmpty_47 : decode cX7_becomeEmpty 47 = .ok (.aload_n 0, 1) := by decide +kernel
theorem dX7_becomeEmpty_48 : decode cX7_becomeEmpty 48 = .ok (.getfield 21, 3) := by decide +kernel
theorem dX7_becomeEmpty_51 : decode cX7_becomeEmpty 51 = .ok (.iload_n 1, 1) := by decide +kernel
theorem dX7_becomeEmpty_52 : decode cX7_becomeEmpty 52 = .ok (.ldc 40, 2) := by decide +kernel
theorem dX7_becomeEmpty_54 : decode cX7_becomeEmpty 54 = .ok (.iastore, 1) := by decide +kernel
theorem dX7_becomeEmpty_55 : decode cX7_becomeEmpty 55 = .ok (.aload_n 0, 1) := by decide +kernel
theorem dX7_becomeEmpty_56 : decode cX7_becomeEmpty 56 = .ok (.getfield 24, 3) := by decide +kernel
theorem dX7_becomeEmpty_59 : decode cX7_becomeEmpty 59 = .ok (.iload_n 1, 1) := by decide +kernel
theorem dX7_becomeEmpty_60 : decode cX7_becomeEmpty 60 = .ok (.iconst 0, 1) := by decide +kernel
theorem dX7_becomeEmpty_61 : decode cX7_becomeEmpty 61 = .ok (.iastore, 1) := by decide +kernel
theorem dX7_becomeEmpty_62 : decode cX7_becomeEmpty 62 = .ok (.iinc 1 1, 3) := by decide +kernel
theorem dX7_becomeEmpty_65 : decode cX7_becomeEmpty 65 = .ok (.goto (-23), 3) := by decide +kernel
theorem dX7_becomeEmpty_68 : decode cX7_becomeEmpty 68 = .ok (.return_, 1) := by decide +kernel
theorem dX7_becomeLike_0 : decode cX7_becomeLike 0 = .ok (.aload_n 0, 1) := by decide +kernel
theorem dX7_becomeLike_1 : decode cX7_becomeLike 1 = .ok (.aload_n 1, 1) := by decide +kernel
theorem dX7_becomeLike_2 : decode cX7_becomeLike 2 = .ok (.getfield 27, 3) := by decide +kernel
theorem dX7_becomeLike_5 : decode cX7_becomeLike 5 = .ok (.putfield 27, 3) := by decide +kernel
theorem dX7_becomeLike_8 : decode cX7_becomeLike 8 = .ok (.aload_n 0, 1) := by decide +kernel
theorem dX7_becomeLike_9 : decode cX7_becomeLike 9 = .ok (.aload_n 1, 1) := by decide +kernel
theorem dX7_becomeLike_10 : decode cX7_becomeLike 10 = .ok (.getfield 31, 3) := by decide +kernel
theorem dX7_becomeLike_13 : decode cX7_becomeLike 13 = .ok (.putfield 31, 3) := by decide +kernel
theorem dX7_becomeLike_16 : decode cX7_becomeLike 16 = .ok (.aload_n 0, 1) := by decide +kernel
theorem dX7_becomeLike_17 : decode cX7_becomeLike 17 = .ok (.aload_n 1, 1) := by decide +kernel
theorem dX7_becomeLike_18 : decode cX7_becomeLike 18 = .ok (.getfield 34, 3) := by decide +kernel
theorem dX7_becomeLike_21 : decode cX7_becomeLike 21 = .ok (.putfield 34, 3) := by decide +kernel
theorem dX7_becomeLike_24 : decode cX7_becomeLike 24 = .ok (.aload_n 0, 1) := by decide +kernel
theorem dX7_becomeLike_25 : decode cX7_becomeLike 25 = .ok (.aload_n 1, 1) := by decide +kernel
theorem dX7_becomeLike_26 : decode cX7_becomeLike 26 = .ok (.getfield 37, 3) := by decide +kernel
theorem dX7_becomeLike_29 : decode cX7_becomeLike 29 = .ok (.putfield 37, 3) := by decide +kernel
theorem dX7_becomeLike_32 : decode cX7_becomeLike 32 = .ok (.aload_n 1, 1) := by decide +kernel
theorem dX7_becomeLike_33 : decode cX7_becomeLike 33 = .ok (.getfield 11, 3) := by decide +kernel
theorem dX7_becomeLike_36 : decode cX7_becomeLike 36 = .ok (.iconst 0, 1) := by decide +kernel
theorem dX7_becomeLike_37 : decode cX7_becomeLike 37 = .ok (.aload_n 0, 1) := by decide +kernel
theorem dX7_becomeLike_38 : decode cX7_becomeLike 38 = .ok (.getfield 11, 3) := by decide +kernel
theorem dX7_becomeLike_41 : decode cX7_becomeLike 41 = .ok (.iconst 0, 1) := by decide +kernel
theorem dX7_becomeLike_42 : decode cX7_becomeLike 42 = .ok (.iconst 4, 1) := by decide +kernel
theorem dX7_becomeLike_43 : decode cX7_becomeLike 43 = .ok (.invokestatic 41, 3) := by decide +kernel
theorem dX7_becomeLike_46 : decode cX7_becomeLike 46 = .ok (.aload_n 1, 1) := by decide +kernel
theorem dX7_becomeLike_47 : decode cX7_becomeLike 47 = .ok (.getfield 15, 3) := by decide +kernel
theorem dX7_becomeLike_50 : decode cX7_becomeLike 50 = .ok (.iconst 0, 1) := by decide +kernel
theorem dX7_becomeLike_51 : decode cX7_becomeLike 51 = .ok (.aload_n 0, 1) := by decide +kernel
theorem dX7_becomeLike_52 : decode cX7_becomeLike 52 = .ok (.getfield 15, 3) := by decide +kernel
theorem dX7_becomeLike_55 : decode cX7_becomeLike 55 = .ok (.iconst 0, 1) := by decide +kernel
theorem dX7_becomeLike_56 : decode cX7_becomeLike 56 = .ok (.iconst 4, 1) := by decide +kernel
theorem dX7_becomeLike_57 : decode cX7_becomeLike 57 = .ok (.invokestatic 41, 3) := by decide +kernel
theorem dX7_becomeLike_60 : decode cX7_becomeLike 60 = .ok (.aload_n 1, 1) := by decide +kernel
theorem dX7_becomeLike_61 : decode cX7_becomeLike 61 = .ok (.getfield 18, 3) := by decide +kernel
theorem dX7_becomeLike_64 : decode cX7_becomeLike 64 = .ok (.iconst 0, 1) := by decide +kernel
theorem dX7_becomeLike_65 : decode cX7_becomeLike 65 = .ok (.aload_n 0, 1) := by decide +kernel
theorem dX7_becomeLike_66 : decode cX7_becomeLike 66 = .ok (.getfield 18, 3) := by decide +kernel
theorem dX7_becomeLike_69 : decode cX7_becomeLike 69 = .ok (.iconst 0, 1) := by decide +kernel
theorem dX7_becomeLike_70 : decode cX7_becomeLike 70 = .ok (.bipush 20, 2) := by decide +kernel
theorem dX7_becomeLike_72 : decode cX7_becomeLike 72 = .ok (.invokestatic 41, 3) := by decide +kernel
theorem dX7_becomeLike_75 : decode cX7_becomeLike 75 = .ok (.aload_n 1, 1) := by decide +kernel
theorem dX7_becomeLike_76 : decode cX7_becomeLike 76 = .ok (.getfield 21, 3) := by decide +kernel
theorem dX7_becomeLike_79 : decode cX7_becomeLike 79 = .ok (.iconst 0, 1) := by decide +kernel
theorem dX7_becomeLike_80 : decode cX7_becomeLike 80 = .ok (.aload_n 0, 1) := by decide +kernel
theorem dX7_becomeLike_81 : decode cX7_becomeLike 81 = .ok (.getfield 21, 3) := by decide +kernel
theorem dX7_becomeLike_84 : decode cX7_becomeLike 84 = .ok (.iconst 0, 1) := by decide +kernel
theorem dX7_becomeLike_85 : decode cX7_becomeLike 85 = .ok (.iconst 5, 1) := by decide +kernel
theorem dX7_becomeLike_86 : decode cX7_becomeLike 86 = .ok (.invokestatic 41, 3) := by decide +kernel
theorem dX7_becomeLike_89 : decode cX7_becomeLike 89 = .ok (.aload_n 1, 1) := by decide +kernel
theorem dX7_becomeLike_90 : decode cX7_becomeLike 90 = .ok (.getfield 24, 3) := by decide +kernel
theorem dX7_becomeLike_93 : decode cX7_becomeLike 93 = .ok (.iconst 0, 1) := by decide +kernel
theorem dX7_becomeLike_94 : decode cX7_becomeLike 94 = .ok (.aload_n 0, 1) := by decide +kernel
theorem dX7_becomeLike_95 : decode cX7_becomeLike 95 = .ok (.getfield 24, 3) := by decide +kernel
theorem dX7_becomeLike_98 : decode cX7_becomeLike 98 = .ok (.iconst 0, 1) := by decide +kernel
theorem dX7_becomeLike_99 : decode cX7_becomeLike 99 = .ok (.iconst 5, 1) := by decide +kernel
theorem dX7_becomeLike_100 : decode cX7_becomeLike 100 = .ok (.invokestatic 41, 3) := by decide +kernel
theorem dX7_becomeLike_103 : decode cX7_becomeLike 103 = .ok (.return_, 1) := by decide +kernel
theorem dX7_worthOf_0 : decode cX7_worthOf 0 = .ok (.aload_n 0, 1) := by decide +kernel
theorem dX7_worthOf_1 : decode cX7_worthOf 1 = .ok (.getfield 18, 3) := by decide +kernel
theorem dX7_worthOf_4 : decode cX7_worthOf 4 = .ok (.iload_n 1, 1) := by decide +kernel
theorem dX7_worthOf_5 : decode cX7_worthOf 5 = .ok (.iconst 4, 1) := by decide +kernel
theorem dX7_worthOf_6 : decode cX7_worthOf 6 = .ok (.imul, 1) := by decide +kernel
theorem dX7_worthOf_7 : decode cX7_worthOf 7 = .ok (.iload_n 2, 1) := by decide +kernel
theorem dX7_worthOf_8 : decode cX7_worthOf 8 = .ok (.iadd, 1) := by decide +kernel
theorem dX7_worthOf_9 : decode cX7_worthOf 9 = .ok (.iaload, 1) := by decide +kernel
theorem dX7_worthOf_10 : decode cX7_worthOf 10 = .ok (.iconst 2, 1) := by decide +kernel
theorem dX7_worthOf_11 : decode cX7_worthOf 11 = .ok (.aload_n 0, 1) := by decide +kernel
theorem dX7_worthOf_12 : decode cX7_worthOf 12 = .ok (.getfield 24, 3) := by decide +kernel
theorem dX7_worthOf_15 : decode cX7_worthOf 15 = .ok (.iload_n 1, 1) := by decide +kernel
theorem dX7_worthOf_16 : decode cX7_worthOf 16 = .ok (.iaload, 1) := by decide +kernel
theorem dX7_worthOf_17 : decode cX7_worthOf 17 = .ok (.imul, 1) := by decide +kernel
theorem dX7_worthOf_18 : decode cX7_worthOf 18 = .ok (.isub, 1) := by decide +kernel
theorem dX7_worthOf_19 : decode cX7_worthOf 19 = .ok (.ireturn, 1) := by decide +kernel
theorem dX7_ownSaying_0 : decode cX7_ownSaying 0 = .ok (.iconst 0, 1) := by decide +kernel
theorem dX7_ownSaying_1 : decode cX7_ownSaying 1 = .ok (.iconst 5, 1) := by decide +kernel
theorem dX7_ownSaying_2 : decode cX7_ownSaying 2 = .ok (.bipush 30, 2) := by decide +kernel
theorem dX7_ownSaying_4 : decode cX7_ownSaying 4 = .ok (.aload_n 0, 1) := by decide +kernel
theorem dX7_ownSaying_5 : decode cX7_ownSaying 5 = .ok (.iload_n 1, 1) := by decide +kernel
theorem dX7_ownSaying_6 : decode cX7_ownSaying 6 = .ok (.iload_n 2, 1) := by decide +kernel
theorem dX7_ownSaying_7 : decode cX7_ownSaying 7 = .ok (.invokevirtual 49, 3) := by decide +kernel
theorem dX7_ownSaying_10 : decode cX7_ownSaying 10 = .ok (.iadd, 1) := by decide +kernel
theorem dX7_ownSaying_11 : decode cX7_ownSaying 11 = .ok (.bipush 10, 2) := by decide +kernel
theorem dX7_ownSaying_13 : decode cX7_ownSaying 13 = .ok (.idiv, 1) := by decide +kernel
theorem dX7_ownSaying_14 : decode cX7_ownSaying 14 = .ok (.invokestatic 53, 3) := by decide +kernel
theorem dX7_ownSaying_17 : decode cX7_ownSaying 17 = .ok (.invokestatic 58, 3) := by decide +kernel
theorem dX7_ownSaying_20 : decode cX7_ownSaying 20 = .ok (.istore_n 3, 1) := by decide +kernel
theorem dX7_ownSaying_21 : decode cX7_ownSaying 21 = .ok (.aload_n 0, 1) := by decide +kernel
theorem dX7_ownSaying_22 : decode cX7_ownSaying 22 = .ok (.getfield 11, 3) := by decide +kernel
theorem dX7_ownSaying_25 : decode cX7_ownSaying 25 = .ok (.iload_n 2, 1) := by decide +kernel
theorem dX7_ownSaying_26 : decode cX7_ownSaying 26 = .ok (.iaload, 1) := by decide +kernel
theorem dX7_ownSaying_27 : decode cX7_ownSaying 27 = .ok (.tableswitch 49 2 5 #[29, 33, 41, 47], 29) := by decide +kernel
theorem dX7_ownSaying_56 : decode cX7_ownSaying 56 = .ok (.iconst 5, 1) := by decide +kernel
theorem dX7_ownSaying_57 : decode cX7_ownSaying 57 = .ok (.iload_n 3, 1) := by decide +kernel
theorem dX7_ownSaying_58 : decode cX7_ownSaying 58 = .ok (.isub, 1) := by decide +kernel
theorem dX7_ownSaying_59 : decode cX7_ownSaying 59 = .ok (.ireturn, 1) := by decide +kernel
theorem dX7_ownSaying_60 : decode cX7_ownSaying 60 = .ok (.iconst 0, 1) := by decide +kernel
theorem dX7_ownSaying_61 : decode cX7_ownSaying 61 = .ok (.iload_n 3, 1) := by decide +kernel
theorem dX7_ownSaying_62 : decode cX7_ownSaying 62 = .ok (.iconst 1, 1) := by decide +kernel
theorem dX7_ownSaying_63 : decode cX7_ownSaying 63 = .ok (.isub, 1) := by decide +kernel
theorem dX7_ownSaying_64 : decode cX7_ownSaying 64 = .ok (.invokestatic 58, 3) := by decide +kernel
theorem dX7_ownSaying_67 : decode cX7_ownSaying 67 = .ok (.ireturn, 1) := by decide +kernel
theorem dX7_ownSaying_68 : decode cX7_ownSaying 68 = .ok (.iconst 3, 1) := by decide +kernel
theorem dX7_ownSaying_69 : decode cX7_ownSaying 69 = .ok (.iload_n 3, 1) := by decide +kernel
theorem dX7_ownSaying_70 : decode cX7_ownSaying 70 = .ok (.invokestatic 58, 3) := by decide +kernel
theorem dX7_ownSaying_73 : decode cX7_ownSaying 73 = .ok (.ireturn, 1) := by decide +kernel
theorem dX7_ownSaying_74 : decode cX7_ownSaying 74 = .ok (.iconst 0, 1) := by decide +kernel
theorem dX7_ownSaying_75 : decode cX7_ownSaying 75 = .ok (.ireturn, 1) := by decide +kernel
theorem dX7_ownSaying_76 : decode cX7_ownSaying 76 = .ok (.iload_n 3, 1) := by decide +kernel
theorem dX7_ownSaying_77 : decode cX7_ownSaying 77 = .ok (.ireturn, 1) := by decide +kernel
theorem dX7_winnerGets_0 : decode cX7_winnerGets 0 = .ok (.iload_n 1, 1) := by decide +kernel
theorem dX7_winnerGets_1 : decode cX7_winnerGets 1 = .ok (.tableswitch 54 1 3 #[27, 35, 42], 27) := by decide +kernel
theorem dX7_winnerGets_28 : decode cX7_winnerGets 28 = .ok (.aload_n 0, 1) := by decide +kernel
theorem dX7_winnerGets_29 : decode cX7_winnerGets 29 = .ok (.getfield 31, 3) := by decide +kernel
theorem dX7_winnerGets_32 : decode cX7_winnerGets 32 = .ok (.ineg, 1) := by decide +kernel
theorem dX7_winnerGets_33 : decode cX7_winnerGets 33 = .ok (.iload_n 2, 1) := by decide +kernel
theorem dX7_winnerGets_34 : decode cX7_winnerGets 34 = .ok (.imul, 1) := by decide +kernel
theorem dX7_winnerGets_35 : decode cX7_winnerGets 35 = .ok (.ireturn, 1) := by decide +kernel
theorem dX7_winnerGets_36 : decode cX7_winnerGets 36 = .ok (.aload_n 0, 1) := by decide +kernel
theorem dX7_winnerGets_37 : decode cX7_winnerGets 37 = .ok (.getfield 31, 3) := by decide +kernel
theorem dX7_winnerGets_40 : decode cX7_winnerGets 40 = .ok (.iload_n 2, 1) := by decide +kernel
theorem dX7_winnerGets_41 : decode cX7_winnerGets 41 = .ok (.imul, 1) := by decide +kernel
theorem dX7_winnerGets_42 : decode cX7_winnerGets 42 = .ok (.ireturn, 1) := by decide +kernel
theorem dX7_winnerGets_43 : decode cX7_winnerGets 43 = .ok (.aload_n 0, 1) := by decide +kernel
theorem dX7_winnerGets_44 : decode cX7_winnerGets 44 = .ok (.getfield 31, 3) := by decide +kernel
theorem dX7_winnerGets_47 : decode cX7_winnerGets 47 = .ok (.aload_n 0, 1) := by decide +kernel
theorem dX7_winnerGets_48 : decode cX7_winnerGets 48 = .ok (.getfield 34, 3) := by decide +kernel
theorem dX7_winnerGets_51 : decode cX7_winnerGets 51 = .ok (.iconst 1, 1) := by decide +kernel
theorem dX7_winnerGets_52 : decode cX7_winnerGets 52 = .ok (.isub, 1) := by decide +kernel
theorem dX7_winnerGets_53 : decode cX7_winnerGets 53 = .ok (.imul, 1) := by decide +kernel
theorem dX7_winnerGets_54 : decode cX7_winnerGets 54 = .ok (.ireturn, 1) := by decide +kernel
theorem dX7_winnerGets_55 : decode cX7_winnerGets 55 = .ok (.iconst 0, 1) := by decide +kernel
theorem dX7_winnerGets_56 : decode cX7_winnerGets 56 = .ok (.ireturn, 1) := by decide +kernel
theorem dX7_othersGet_0 : decode cX7_othersGet 0 = .ok (.iload_n 1, 1) := by decide +kernel
theorem dX7_othersGet_1 : decode cX7_othersGet 1 = .ok (.iconst 3, 1) := by decide +kernel
theorem dX7_othersGet_2 : decode cX7_othersGet 2 = .ok (.if_icmp .ne 11, 3) := by decide +kernel
theorem dX7_othersGet_5 : decode cX7_othersGet 5 = .ok (.aload_n 0, 1) := by decide +kernel
theorem dX7_othersGet_6 : decode cX7_othersGet 6 = .ok (.getfield 31, 3) := by decide +kernel
theorem dX7_othersGet_9 : decode cX7_othersGet 9 = .ok (.ineg, 1) := by decide +kernel
theorem dX7_othersGet_10 : decode cX7_othersGet 10 = .ok (.goto 4, 3) := by decide +kernel
theorem dX7_othersGet_13 : decode cX7_othersGet 13 = .ok (.iconst 0, 1) := by decide +kernel
theorem dX7_othersGet_14 : decode cX7_othersGet 14 = .ok (.ireturn, 1) := by decide +kernel
theorem dX7_pass_0 : decode cX7_pass 0 = .ok (.aload_n 0, 1) := by decide +kernel
theorem dX7_pass_1 : decode cX7_pass 1 = .ok (.getfield 21, 3) := by decide +kernel
theorem dX7_pass_4 : decode cX7_pass 4 = .ok (.iload_n 1, 1) := by decide +kernel
theorem dX7_pass_5 : decode cX7_pass 5 = .ok (.iload_n 2, 1) := by decide +kernel
theorem dX7_pass_6 : decode cX7_pass 6 = .ok (.iastore, 1) := by decide +kernel
theorem dX7_pass_7 : decode cX7_pass 7 = .ok (.iconst 0, 1) := by decide +kernel
theorem dX7_pass_8 : decode cX7_pass 8 = .ok (.istore 4, 2) := by decide +kernel
theorem dX7_pass_10 : decode cX7_pass 10 = .ok (.iload 4, 2) := by decide +kernel
theorem dX7_pass_12 : decode cX7_pass 12 = .ok (.aload_n 0, 1) := by decide +kernel
theorem dX7_pass_13 : decode cX7_pass 13 = .ok (.getfield 34, 3) := by decide +kernel
theorem dX7_pass_16 : decode cX7_pass 16 = .ok (.if_icmp .ge 45, 3) := by decide +kernel
theorem dX7_pass_19 : decode cX7_pass 19 = .ok (.aload_n 0, 1) := by decide +kernel
theorem dX7_pass_20 : decode cX7_pass 20 = .ok (.getfield 15, 3) := by decide +kernel
theorem dX7_pass_23 : decode cX7_pass 23 = .ok (.iload 4, 2) := by decide +kernel
theorem dX7_pass_25 : decode cX7_pass 25 = .ok (.dup2, 1) := by decide +kernel
theorem dX7_pass_26 : decode cX7_pass 26 = .ok (.iaload, 1) := by decide +kernel
theorem dX7_pass_27 : decode cX7_pass 27 = .ok (.iload 4, 2) := by decide +kernel
theorem dX7_pass_29 : decode cX7_pass 29 = .ok (.iload_n 2, 1) := by decide +kernel
theorem dX7_pass_30 : decode cX7_pass 30 = .ok (.if_icmp .ne 15, 3) := by decide +kernel
theorem dX7_pass_33 : decode cX7_pass 33 = .ok (.aload_n 0, 1) := by decide +kernel
theorem dX7_pass_34 : decode cX7_pass 34 = .ok (.aload_n 0, 1) := by decide +kernel
theorem dX7_pass_35 : decode cX7_pass 35 = .ok (.getfield 27, 3) := by decide +kernel
theorem dX7_pass_38 : decode cX7_pass 38 = .ok (.iload_n 3, 1) := by decide +kernel
theorem dX7_pass_39 : decode cX7_pass 39 = .ok (.invokevirtual 61, 3) := by decide +kernel
theorem dX7_pass_42 : decode cX7_pass 42 = .ok (.goto 11, 3) := by decide +kernel
theorem dX7_pass_45 : decode cX7_pass 45 = .ok (.aload_n 0, 1) := by decide +kernel
theorem dX7_pass_46 : decode cX7_pass 46 = .ok (.aload_n 0, 1) := by decide +kernel
theorem dX7_pass_47 : decode cX7_pass 47 = .ok (.getfield 27, 3) := by decide +kernel
theorem dX7_pass_50 : decode cX7_pass 50 = .ok (.invokevirtual 64, 3) := by decide +kernel
theorem dX7_pass_53 : decode cX7_pass 53 = .ok (.iadd, 1) := by decide +kernel
theorem dX7_pass_54 : decode cX7_pass 54 = .ok (.iastore, 1) := by decide +kernel
theorem dX7_pass_55 : decode cX7_pass 55 = .ok (.iinc 4 1, 3) := by decide +kernel
theorem dX7_pass_58 : decode cX7_pass 58 = .ok (.goto (-48), 3) := by decide +kernel
theorem dX7_pass_61 : decode cX7_pass 61 = .ok (.return_, 1) := by decide +kernel
theorem dX7_wantsLeast_0 : decode cX7_wantsLeast 0 = .ok (.iconst 0, 1) := by decide +kernel
theorem dX7_wantsLeast_1 : decode cX7_wantsLeast 1 = .ok (.istore_n 2, 1) := by decide +kernel
theorem dX7_wantsLeast_2 : decode cX7_wantsLeast 2 = .ok (.iconst 1, 1) := by decide +kernel
theorem dX7_wantsLeast_3 : decode cX7_wantsLeast 3 = .ok (.istore_n 3, 1) := by decide +kernel
theorem dX7_wantsLeast_4 : decode cX7_wantsLeast 4 = .ok (.iload_n 3, 1) := by decide +kernel
theorem dX7_wantsLeast_5 : decode cX7_wantsLeast 5 = .ok (.aload_n 0, 1) := by decide +kernel
theorem dX7_wantsLeast_6 : decode cX7_wantsLeast 6 = .ok (.getfield 34, 3) := by decide +kernel
theorem dX7_wantsLeast_9 : decode cX7_wantsLeast 9 = .ok (.if_icmp .ge 26, 3) := by decide +kernel
theorem dX7_wantsLeast_12 : decode cX7_wantsLeast 12 = .ok (.aload_n 0, 1) := by decide +kernel
theorem dX7_wantsLeast_13 : decode cX7_wantsLeast 13 = .ok (.iload_n 1, 1) := by decide +kernel
theorem dX7_wantsLeast_14 : decode cX7_wantsLeast 14 = .ok (.iload_n 3, 1) := by decide +kernel
theorem dX7_wantsLeast_15 : decode cX7_wantsLeast 15 = .ok (.invokevirtual 49, 3) := by decide +kernel
theorem dX7_wantsLeast_18 : decode cX7_wantsLeast 18 = .ok (.aload_n 0, 1) := by decide +kernel
theorem dX7_wantsLeast_19 : decode cX7_wantsLeast 19 = .ok (.iload_n 1, 1) := by decide +kernel
theorem dX7_wantsLeast_20 : decode cX7_wantsLeast 20 = .ok (.iload_n 2, 1) := by decide +kernel
theorem dX7_wantsLeast_21 : decode cX7_wantsLeast 21 = .ok (.invokevirtual 49, 3) := by decide +kernel
theorem dX7_wantsLeast_24 : decode cX7_wantsLeast 24 = .ok (.if_icmp .ge 5, 3) := by decide +kernel
theorem dX7_wantsLeast_27 : decode cX7_wantsLeast 27 = .ok (.iload_n 3, 1) := by decide +kernel
theorem dX7_wantsLeast_28 : decode cX7_wantsLeast 28 = .ok (.istore_n 2, 1) := by decide +kernel
theorem dX7_wantsLeast_29 : decode cX7_wantsLeast 29 = .ok (.iinc 3 1, 3) := by decide +kernel
theorem dX7_wantsLeast_32 : decode cX7_wantsLeast 32 = .ok (.goto (-28), 3) := by decide +kernel
theorem dX7_wantsLeast_35 : decode cX7_wantsLeast 35 = .ok (.iload_n 2, 1) := by decide +kernel
theorem dX7_wantsLeast_36 : decode cX7_wantsLeast 36 = .ok (.ireturn, 1) := by decide +kernel
theorem dX7_wantsMost_0 : decode cX7_wantsMost 0 = .ok (.iconst 0, 1) := by decide +kernel
theorem dX7_wantsMost_1 : decode cX7_wantsMost 1 = .ok (.istore_n 2, 1) := by decide +kernel
theorem dX7_wantsMost_2 : decode cX7_wantsMost 2 = .ok (.iconst 1, 1) := by decide +kernel
theorem dX7_wantsMost_3 : decode cX7_wantsMost 3 = .ok (.istore_n 3, 1) := by decide +kernel
theorem dX7_wantsMost_4 : decode cX7_wantsMost 4 = .ok (.iload_n 3, 1) := by decide +kernel
theorem dX7_wantsMost_5 : decode cX7_wantsMost 5 = .ok (.aload_n 0, 1) := by decide +kernel
theorem dX7_wantsMost_6 : decode cX7_wantsMost 6 = .ok (.getfield 34, 3) := by decide +kernel
theorem dX7_wantsMost_9 : decode cX7_wantsMost 9 = .ok (.if_icmp .ge 26, 3) := by decide +kernel
theorem dX7_wantsMost_12 : decode cX7_wantsMost 12 = .ok (.aload_n 0, 1) := by decide +kernel
theorem dX7_wantsMost_13 : decode cX7_wantsMost 13 = .ok (.iload_n 1, 1) := by decide +kernel
theorem dX7_wantsMost_14 : decode cX7_wantsMost 14 = .ok (.iload_n 3, 1) := by decide +kernel
theorem dX7_wantsMost_15 : decode cX7_wantsMost 15 = .ok (.invokevirtual 49, 3) := by decide +kernel
theorem dX7_wantsMost_18 : decode cX7_wantsMost 18 = .ok (.aload_n 0, 1) := by decide +kernel
theorem dX7_wantsMost_19 : decode cX7_wantsMost 19 = .ok (.iload_n 1, 1) := by decide +kernel
theorem dX7_wantsMost_20 : decode cX7_wantsMost 20 = .ok (.iload_n 2, 1) := by decide +kernel
theorem dX7_wantsMost_21 : decode cX7_wantsMost 21 = .ok (.invokevirtual 49, 3) := by decide +kernel
theorem dX7_wantsMost_24 : decode cX7_wantsMost 24 = .ok (.if_icmp .le 5, 3) := by decide +kernel
theorem dX7_wantsMost_27 : decode cX7_wantsMost 27 = .ok (.iload_n 3, 1) := by decide +kernel
theorem dX7_wantsMost_28 : decode cX7_wantsMost 28 = .ok (.istore_n 2, 1) := by decide +kernel
theorem dX7_wantsMost_29 : decode cX7_wantsMost 29 = .ok (.iinc 3 1, 3) := by decide +kernel
theorem dX7_wantsMost_32 : decode cX7_wantsMost 32 = .ok (.goto (-28), 3) := by decide +kernel
theorem dX7_wantsMost_35 : decode cX7_wantsMost 35 = .ok (.iload_n 2, 1) := by decide +kernel
theorem dX7_wantsMost_36 : decode cX7_wantsMost 36 = .ok (.ireturn, 1) := by decide +kernel
theorem dX7_countHeld_0 : decode cX7_countHeld 0 = .ok (.iconst 0, 1) := by decide +kernel
theorem dX7_countHeld_1 : decode cX7_countHeld 1 = .ok (.istore_n 1, 1) := by decide +kernel
theorem dX7_countHeld_2 : decode cX7_countHeld 2 = .ok (.iconst 0, 1) := by decide +kernel
theorem dX7_countHeld_3 : decode cX7_countHeld 3 = .ok (.istore_n 2, 1) := by decide +kernel
theorem dX7_countHeld_4 : decode cX7_countHeld 4 = .ok (.iload_n 2, 1) := by decide +kernel
theorem dX7_countHeld_5 : decode cX7_countHeld 5 = .ok (.aload_n 0, 1) := by decide +kernel
theorem dX7_countHeld_6 : decode cX7_countHeld 6 = .ok (.getfield 37, 3) := by decide +kernel
theorem dX7_countHeld_9 : decode cX7_countHeld 9 = .ok (.if_icmp .ge 23, 3) := by decide +kernel
theorem dX7_countHeld_12 : decode cX7_countHeld 12 = .ok (.aload_n 0, 1) := by decide +kernel
theorem dX7_countHeld_13 : decode cX7_countHeld 13 = .ok (.getfield 21, 3) := by decide +kernel
theorem dX7_countHeld_16 : decode cX7_countHeld 16 = .ok (.iload_n 2, 1) := by decide +kernel
theorem dX7_countHeld_17 : decode cX7_countHeld 17 = .ok (.iaload, 1) := by decide +kernel
theorem dX7_countHeld_18 : decode cX7_countHeld 18 = .ok (.ldc 40, 2) := by decide +kernel
theorem dX7_countHeld_20 : decode cX7_countHeld 20 = .ok (.if_icmp .eq 6, 3) := by decide +kernel
theorem dX7_countHeld_23 : decode cX7_countHeld 23 = .ok (.iinc 1 1, 3) := by decide +kernel
theorem dX7_countHeld_26 : decode cX7_countHeld 26 = .ok (.iinc 2 1, 3) := by decide +kernel
theorem dX7_countHeld_29 : decode cX7_countHeld 29 = .ok (.goto (-25), 3) := by decide +kernel
theorem dX7_countHeld_32 : decode cX7_countHeld 32 = .ok (.iload_n 1, 1) := by decide +kernel
theorem dX7_countHeld_33 : decode cX7_countHeld 33 = .ok (.ireturn, 1) := by decide +kernel
theorem dX7_countHeldBy_0 : decode cX7_countHeldBy 0 = .ok (.iconst 0, 1) := by decide +kernel
theorem dX7_countHeldBy_1 : decode cX7_countHeldBy 1 = .ok (.istore_n 2, 1) := by decide +kernel
theorem dX7_countHeldBy_2 : decode cX7_countHeldBy 2 = .ok (.iconst 0, 1) := by decide +kernel
theorem dX7_countHeldBy_3 : decode cX7_countHeldBy 3 = .ok (.istore_n 3, 1) := by decide +kernel
theorem dX7_countHeldBy_4 : decode cX7_countHeldBy 4 = .ok (.iload_n 3, 1) := by decide +kernel
theorem dX7_countHeldBy_5 : decode cX7_countHeldBy 5 = .ok (.aload_n 0, 1) := by decide +kernel
theorem dX7_countHeldBy_6 : decode cX7_countHeldBy 6 = .ok (.getfield 37, 3) := by decide +kernel
theorem dX7_countHeldBy_9 : decode cX7_countHeldBy 9 = .ok (.if_icmp .ge 22, 3) := by decide +kernel
theorem dX7_countHeldBy_12 : decode cX7_countHeldBy 12 = .ok (.aload_n 0, 1) := by decide +kernel
theorem dX7_countHeldBy_13 : decode cX7_countHeldBy 13 = .ok (.getfield 21, 3) := by decide +kernel
theorem dX7_countHeldBy_16 : decode cX7_countHeldBy 16 = .ok (.iload_n 3, 1) := by decide +kernel
theorem dX7_countHeldBy_17 : decode cX7_countHeldBy 17 = .ok (.iaload, 1) := by decide +kernel
theorem dX7_countHeldBy_18 : decode cX7_countHeldBy 18 = .ok (.iload_n 1, 1) := by decide +kernel
theorem dX7_countHeldBy_19 : decode cX7_countHeldBy 19 = .ok (.if_icmp .ne 6, 3) := by decide +kernel
theorem dX7_countHeldBy_22 : decode cX7_countHeldBy 22 = .ok (.iinc 2 1, 3) := by decide +kernel
theorem dX7_countHeldBy_25 : decode cX7_countHeldBy 25 = .ok (.iinc 3 1, 3) := by decide +kernel
theorem dX7_countHeldBy_28 : decode cX7_countHeldBy 28 = .ok (.goto (-24), 3) := by decide +kernel
theorem dX7_countHeldBy_31 : decode cX7_countHeldBy 31 = .ok (.iload_n 2, 1) := by decide +kernel
theorem dX7_countHeldBy_32 : decode cX7_countHeldBy 32 = .ok (.ireturn, 1) := by decide +kernel
