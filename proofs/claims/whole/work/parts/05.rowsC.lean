theorem dX9_init_0 : decode cX9_init 0 = .ok (.aload_n 0, 1) := by decide +kernel
theorem dX9_init_1 : decode cX9_init 1 = .ok (.invokespecial 1, 3) := by decide +kernel
theorem dX9_init_4 : decode cX9_init 4 = .ok (.aload_n 0, 1) := by decide +kernel
theorem dX9_init_5 : decode cX9_init 5 = .ok (.bipush 8, 2) := by decide +kernel
theorem dX9_init_7 : decode cX9_init 7 = .ok (.newarray .int, 2) := by decide +kernel
theorem dX9_init_9 : decode cX9_init 9 = .ok (.dup, 1) := by decide +kernel
theorem dX9_init_10 : decode cX9_init 10 = .ok (.iconst 0, 1) := by decide +kernel
theorem dX9_init_11 : decode cX9_init 11 = .ok (.iconst (-1), 1) := by decide +kernel
theorem dX9_init_12 : decode cX9_init 12 = .ok (.iastore, 1) := by decide +kernel
theorem dX9_init_13 : decode cX9_init 13 = .ok (.dup, 1) := by decide +kernel
theorem dX9_init_14 : decode cX9_init 14 = .ok (.iconst 1, 1) := by decide +kernel
theorem dX9_init_15 : decode cX9_init 15 = .ok (.iconst (-1), 1) := by decide +kernel
theorem dX9_init_16 : decode cX9_init 16 = .ok (.iastore, 1) := by decide +kernel
theorem dX9_init_17 : decode cX9_init 17 = .ok (.dup, 1) := by decide +kernel
theorem dX9_init_18 : decode cX9_init 18 = .ok (.iconst 2, 1) := by decide +kernel
theorem dX9_init_19 : decode cX9_init 19 = .ok (.iconst (-1), 1) := by decide +kernel
theorem dX9_init_20 : decode cX9_init 20 = .ok (.iastore, 1) := by decide +kernel
theorem dX9_init_21 : decode cX9_init 21 = .ok (.dup, 1) := by decide +kernel
theorem dX9_init_22 : decode cX9_init 22 = .ok (.iconst 3, 1) := by decide +kernel
theorem dX9_init_23 : decode cX9_init 23 = .ok (.iconst (-1), 1) := by decide +kernel
theorem dX9_init_24 : decode cX9_init 24 = .ok (.iastore, 1) := by decide +kernel
theorem dX9_init_25 : decode cX9_init 25 = .ok (.dup, 1) := by decide +kernel
theorem dX9_init_26 : decode cX9_init 26 = .ok (.iconst 4, 1) := by decide +kernel
theorem dX9_init_27 : decode cX9_init 27 = .ok (.iconst (-1), 1) := by decide +kernel
theorem dX9_init_28 : decode cX9_init 28 = .ok (.iastore, 1) := by decide +kernel
theorem dX9_init_29 : decode cX9_init 29 = .ok (.dup, 1) := by decide +kernel
theorem dX9_init_30 : decode cX9_init 30 = .ok (.iconst 5, 1) := by decide +kernel
theorem dX9_init_31 : decode cX9_init 31 = .ok (.iconst (-1), 1) := by decide +kernel
theorem dX9_init_32 : decode cX9_init 32 = .ok (.iastore, 1) := by decide +kernel
theorem dX9_init_33 : decode cX9_init 33 = .ok (.dup, 1) := by decide +kernel
theorem dX9_init_34 : decode cX9_init 34 = .ok (.bipush 6, 2) := by decide +kernel
theorem dX9_init_36 : decode cX9_init 36 = .ok (.iconst (-1), 1) := by decide +kernel
theorem dX9_init_37 : decode cX9_init 37 = .ok (.iastore, 1) := by decide +kernel
theorem dX9_init_38 : decode cX9_init 38 = .ok (.dup, 1) := by decide +kernel
theorem dX9_init_39 : decode cX9_init 39 = .ok (.bipush 7, 2) := by decide +kernel
theorem dX9_init_41 : decode cX9_init 41 = .ok (.iconst (-1), 1) := by decide +kernel
theorem dX9_init_42 : decode cX9_init 42 = .ok (.iastore, 1) := by decide +kernel
theorem dX9_init_43 : decode cX9_init 43 = .ok (.putfield 7, 3) := by decide +kernel
theorem dX9_init_46 : decode cX9_init 46 = .ok (.aload_n 0, 1) := by decide +kernel
theorem dX9_init_47 : decode cX9_init 47 = .ok (.bipush 8, 2) := by decide +kernel
theorem dX9_init_49 : decode cX9_init 49 = .ok (.newarray .int, 2) := by decide +kernel
theorem dX9_init_51 : decode cX9_init 51 = .ok (.putfield 13, 3) := by decide +kernel
theorem dX9_init_54 : decode cX9_init 54 = .ok (.aload_n 0, 1) := by decide +kernel
theorem dX9_init_55 : decode cX9_init 55 = .ok (.sipush 320, 3) := by decide +kernel
theorem dX9_init_58 : decode cX9_init 58 = .ok (.newarray .int, 2) := by decide +kernel
theorem dX9_init_60 : decode cX9_init 60 = .ok (.putfield 16, 3) := by decide +kernel
theorem dX9_init_63 : decode cX9_init 63 = .ok (.aload_n 0, 1) := by decide +kernel
theorem dX9_init_64 : decode cX9_init 64 = .ok (.bipush 42, 2) := by decide +kernel
theorem dX9_init_66 : decode cX9_init 66 = .ok (.newarray .int, 2) := by decide +kernel
theorem dX9_init_68 : decode cX9_init 68 = .ok (.putfield 19, 3) := by decide +kernel
theorem dX9_init_71 : decode cX9_init 71 = .ok (.aload_n 0, 1) := by decide +kernel
theorem dX9_init_72 : decode cX9_init 72 = .ok (.bipush 42, 2) := by decide +kernel
theorem dX9_init_74 : decode cX9_init 74 = .ok (.newarray .int, 2) := by decide +kernel
theorem dX9_init_76 : decode cX9_init 76 = .ok (.putfield 22, 3) := by decide +kernel
theorem dX9_init_79 : decode cX9_init 79 = .ok (.aload_n 0, 1) := by decide +kernel
theorem dX9_init_80 : decode cX9_init 80 = .ok (.sipush 1008, 3) := by decide +kernel
theorem dX9_init_83 : decode cX9_init 83 = .ok (.newarray .int, 2) := by decide +kernel
theorem dX9_init_85 : decode cX9_init 85 = .ok (.putfield 25, 3) := by decide +kernel
theorem dX9_init_88 : decode cX9_init 88 = .ok (.aload_n 0, 1) := by decide +kernel
theorem dX9_init_89 : decode cX9_init 89 = .ok (.sipush 400, 3) := by decide +kernel
theorem dX9_init_92 : decode cX9_init 92 = .ok (.newarray .int, 2) := by decide +kernel
theorem dX9_init_94 : decode cX9_init 94 = .ok (.putfield 28, 3) := by decide +kernel
theorem dX9_init_97 : decode cX9_init 97 = .ok (.aload_n 0, 1) := by decide +kernel
theorem dX9_init_98 : decode cX9_init 98 = .ok (.iconst 4, 1) := by decide +kernel
theorem dX9_init_99 : decode cX9_init 99 = .ok (.newarray .int, 2) := by decide +kernel
theorem dX9_init_101 : decode cX9_init 101 = .ok (.putfield 31, 3) := by decide +kernel
theorem dX9_init_104 : decode cX9_init 104 = .ok (.aload_n 0, 1) := by decide +kernel
theorem dX9_init_105 : decode cX9_init 105 = .ok (.iconst 2, 1) := by decide +kernel
theorem dX9_init_106 : decode cX9_init 106 = .ok (.newarray .boolean, 2) := by decide +kernel
theorem dX9_init_108 : decode cX9_init 108 = .ok (.putfield 34, 3) := by decide +kernel
theorem dX9_init_111 : decode cX9_init 111 = .ok (.aload_n 0, 1) := by decide +kernel
theorem dX9_init_112 : decode cX9_init 112 = .ok (.bipush 84, 2) := by decide +kernel
theorem dX9_init_114 : decode cX9_init 114 = .ok (.newarray .int, 2) := by decide +kernel
theorem dX9_init_116 : decode cX9_init 116 = .ok (.putfield 38, 3) := by decide +kernel
theorem dX9_init_119 : decode cX9_init 119 = .ok (.aload_n 0, 1) := by decide +kernel
theorem dX9_init_120 : decode cX9_init 120 = .ok (.bipush 16, 2) := by decide +kernel
theorem dX9_init_122 : decode cX9_init 122 = .ok (.newarray .int, 2) := by decide +kernel
theorem dX9_init_124 : decode cX9_init 124 = .ok (.putfield 41, 3) := by decide +kernel
theorem dX9_init_127 : decode cX9_init 127 = .ok (.return_, 1) := by decide +kernel
theorem dX9_in_0 : decode cX9_in 0 = .ok (.lload_n 0, 1) := by decide +kernel
theorem dX9_in_1 : decode cX9_in 1 = .ok (.lload_n 2, 1) := by decide +kernel
theorem dX9_in_2 : decode cX9_in 2 = .ok (.lcmp, 1) := by decide +kernel
theorem dX9_in_3 : decode cX9_in 3 = .ok (.ifCond .lt 14, 3) := by decide +kernel
theorem dX9_in_6 : decode cX9_in 6 = .ok (.lload_n 0, 1) := by decide +kernel
theorem dX9_in_7 : decode cX9_in 7 = .ok (.lload 4, 2) := by decide +kernel
theorem dX9_in_9 : decode cX9_in 9 = .ok (.lcmp, 1) := by decide +kernel
theorem dX9_in_10 : decode cX9_in 10 = .ok (.ifCond .gt 7, 3) := by decide +kernel
theorem dX9_in_13 : decode cX9_in 13 = .ok (.iconst 1, 1) := by decide +kernel
theorem dX9_in_14 : decode cX9_in 14 = .ok (.goto 4, 3) := by decide +kernel
theorem dX9_in_17 : decode cX9_in 17 = .ok (.iconst 0, 1) := by decide +kernel
theorem dX9_in_18 : decode cX9_in 18 = .ok (.ireturn, 1) := by decide +kernel
theorem dX9_finding_0 : decode cX9_finding 0 = .ok (.aload_n 0, 1) := by decide +kernel
theorem dX9_finding_1 : decode cX9_finding 1 = .ok (.iload_n 1, 1) := by decide +kernel
theorem dX9_finding_2 : decode cX9_finding 2 = .ok (.putfield 48, 3) := by decide +kernel
theorem dX9_finding_5 : decode cX9_finding 5 = .ok (.ldc 51, 2) := by decide +kernel
theorem dX9_finding_7 : decode cX9_finding 7 = .ok (.iload_n 1, 1) := by decide +kernel
theorem dX9_finding_8 : decode cX9_finding 8 = .ok (.isub, 1) := by decide +kernel
theorem dX9_finding_9 : decode cX9_finding 9 = .ok (.ireturn, 1) := by decide +kernel
theorem dX9_isRow_0 : decode cX9_isRow 0 = .ok (.iload_n 0, 1) := by decide +kernel
theorem dX9_isRow_1 : decode cX9_isRow 1 = .ok (.i2l, 1) := by decide +kernel
theorem dX9_isRow_2 : decode cX9_isRow 2 = .ok (.lconst 0, 1) := by decide +kernel
theorem dX9_isRow_3 : decode cX9_isRow 3 = .ok (.ldc2_w 52, 3) := by decide +kernel
theorem dX9_isRow_6 : decode cX9_isRow 6 = .ok (.invokestatic 54, 3) := by decide +kernel
theorem dX9_isRow_9 : decode cX9_isRow 9 = .ok (.ireturn, 1) := by decide +kernel
theorem dX9_row_0 : decode cX9_row 0 = .ok (.aload_n 0, 1) := by decide +kernel
theorem dX9_row_1 : decode cX9_row 1 = .ok (.iconst 0, 1) := by decide +kernel
theorem dX9_row_2 : decode cX9_row 2 = .ok (.putfield 44, 3) := by decide +kernel
theorem dX9_row_5 : decode cX9_row 5 = .ok (.iload_n 1, 1) := by decide +kernel
theorem dX9_row_6 : decode cX9_row 6 = .ok (.invokestatic 58, 3) := by decide +kernel
theorem dX9_row_9 : decode cX9_row 9 = .ok (.ifCond .eq 21, 3) := by decide +kernel
theorem dX9_row_12 : decode cX9_row 12 = .ok (.iload_n 2, 1) := by decide +kernel
theorem dX9_row_13 : decode cX9_row 13 = .ok (.i2l, 1) := by decide +kernel
theorem dX9_row_14 : decode cX9_row 14 = .ok (.lconst 0, 1) := by decide +kernel
theorem dX9_row_15 : decode cX9_row 15 = .ok (.ldc2_w 62, 3) := by decide +kernel
theorem dX9_row_18 : decode cX9_row 18 = .ok (.invokestatic 54, 3) := by decide +kernel
theorem dX9_row_21 : decode cX9_row 21 = .ok (.ifCond .eq 9, 3) := by decide +kernel
theorem dX9_row_24 : decode cX9_row 24 = .ok (.iload_n 3, 1) := by decide +kernel
theorem dX9_row_25 : decode cX9_row 25 = .ok (.bipush 40, 2) := by decide +kernel
theorem dX9_row_27 : decode cX9_row 27 = .ok (.if_icmp .le 6, 3) := by decide +kernel
theorem dX9_row_30 : decode cX9_row 30 = .ok (.ldc 64, 2) := by decide +kernel
theorem dX9_row_32 : decode cX9_row 32 = .ok (.ireturn, 1) := by decide +kernel
theorem dX9_row_33 : decode cX9_row 33 = .ok (.aload_n 0, 1) := by decide +kernel
theorem dX9_row_34 : decode cX9_row 34 = .ok (.iconst 0, 1) := by decide +kernel
theorem dX9_row_35 : decode cX9_row 35 = .ok (.putfield 48, 3) := by decide +kernel
theorem dX9_row_38 : decode cX9_row 38 = .ok (.iload_n 3, 1) := by decide +kernel
theorem dX9_row_39 : decode cX9_row 39 = .ok (.ifCond .ge 9, 3) := by decide +kernel
theorem dX9_row_42 : decode cX9_row 42 = .ok (.aload_n 0, 1) := by decide +kernel
theorem dX9_row_43 : decode cX9_row 43 = .ok (.iconst 4, 1) := by decide +kernel
theorem dX9_row_44 : decode cX9_row 44 = .ok (.invokevirtual 65, 3) := by decide +kernel
theorem dX9_row_47 : decode cX9_row 47 = .ok (.ireturn, 1) := by decide +kernel
theorem dX9_row_48 : decode cX9_row 48 = .ok (.aload_n 0, 1) := by decide +kernel
theorem dX9_row_49 : decode cX9_row 49 = .ok (.getfield 7, 3) := by decide +kernel
theorem dX9_row_52 : decode cX9_row 52 = .ok (.iload_n 1, 1) := by decide +kernel
theorem dX9_row_53 : decode cX9_row 53 = .ok (.iload_n 2, 1) := by decide +kernel
theorem dX9_row_54 : decode cX9_row 54 = .ok (.iastore, 1) := by decide +kernel
theorem dX9_row_55 : decode cX9_row 55 = .ok (.aload_n 0, 1) := by decide +kernel
theorem dX9_row_56 : decode cX9_row 56 = .ok (.getfield 13, 3) := by decide +kernel
theorem dX9_row_59 : decode cX9_row 59 = .ok (.iload_n 1, 1) := by decide +kernel
theorem dX9_row_60 : decode cX9_row 60 = .ok (.iload_n 3, 1) := by decide +kernel
theorem dX9_row_61 : decode cX9_row 61 = .ok (.iastore, 1) := by decide +kernel
theorem dX9_row_62 : decode cX9_row 62 = .ok (.iconst 0, 1) := by decide +kernel
theorem dX9_row_63 : decode cX9_row 63 = .ok (.istore 4, 2) := by decide +kernel
theorem dX9_row_65 : decode cX9_row 65 = .ok (.iload 4, 2) := by decide +kernel
theorem dX9_row_67 : decode cX9_row 67 = .ok (.bipush 40, 2) := by decide +kernel
theorem dX9_row_69 : decode cX9_row 69 = .ok (.if_icmp .ge 22, 3) := by decide +kernel
theorem dX9_row_72 : decode cX9_row 72 = .ok (.aload_n 0, 1) := by decide +kernel
theorem dX9_row_73 : decode cX9_row 73 = .ok (.getfield 16, 3) := by decide +kernel
theorem dX9_row_76 : decode cX9_row 76 = .ok (.bipush 40, 2) := by decide +kernel
theorem dX9_row_78 : decode cX9_row 78 = .ok (.iload_n 1, 1) := by decide +kernel
theorem dX9_row_79 : decode cX9_row 79 = .ok (.imul, 1) := by decide +kernel
theorem dX9_row_80 : decode cX9_row 80 = .ok (.iload 4, 2) := by decide +kernel
theorem dX9_row_82 : decode cX9_row 82 = .ok (.iadd, 1) := by decide +kernel
theorem dX9_row_83 : decode cX9_row 83 = .ok (.iconst 0, 1) := by decide +kernel
theorem dX9_row_84 : decode cX9_row 84 = .ok (.iastore, 1) := by decide +kernel
theorem dX9_row_85 : decode cX9_row 85 = .ok (.iinc 4 1, 3) := by decide +kernel
theorem dX9_row_88 : decode cX9_row 88 = .ok (.goto (-23), 3) := by decide +kernel
theorem dX9_row_91 : decode cX9_row 91 = .ok (.iload_n 3, 1) := by decide +kernel
theorem dX9_row_92 : decode cX9_row 92 = .ok (.ireturn, 1) := by decide +kernel
theorem dX9_set_0 : decode cX9_set 0 = .ok (.aload_n 0, 1) := by decide +kernel
theorem dX9_set_1 : decode cX9_set 1 = .ok (.iconst 0, 1) := by decide +kernel
theorem dX9_set_2 : decode cX9_set 2 = .ok (.putfield 44, 3) := by decide +kernel
theorem dX9_set_5 : decode cX9_set 5 = .ok (.iload_n 1, 1) := by decide +kernel
theorem dX9_set_6 : decode cX9_set 6 = .ok (.invokestatic 58, 3) := by decide +kernel
theorem dX9_set_9 : decode cX9_set 9 = .ok (.ifCond .ne 6, 3) := by decide +kernel
theorem dX9_set_12 : decode cX9_set 12 = .ok (.ldc 64, 2) := by decide +kernel
theorem dX9_set_14 : decode cX9_set 14 = .ok (.ireturn, 1) := by decide +kernel
theorem dX9_set_15 : decode cX9_set 15 = .ok (.aload_n 0, 1) := by decide +kernel
theorem dX9_set_16 : decode cX9_set 16 = .ok (.iconst 0, 1) := by decide +kernel
theorem dX9_set_17 : decode cX9_set 17 = .ok (.putfield 48, 3) := by decide +kernel
theorem dX9_set_20 : decode cX9_set 20 = .ok (.aload_n 0, 1) := by decide +kernel
theorem dX9_set_21 : decode cX9_set 21 = .ok (.getfield 7, 3) := by decide +kernel
theorem dX9_set_24 : decode cX9_set 24 = .ok (.iload_n 1, 1) := by decide +kernel
theorem dX9_set_25 : decode cX9_set 25 = .ok (.iaload, 1) := by decide +kernel
theorem dX9_set_26 : decode cX9_set 26 = .ok (.ifCond .ge 9, 3) := by decide +kernel
theorem dX9_set_29 : decode cX9_set 29 = .ok (.aload_n 0, 1) := by decide +kernel
theorem dX9_set_30 : decode cX9_set 30 = .ok (.iconst 1, 1) := by decide +kernel
theorem dX9_set_31 : decode cX9_set 31 = .ok (.invokevirtual 65, 3) := by decide +kernel
theorem dX9_set_34 : decode cX9_set 34 = .ok (.ireturn, 1) := by decide +kernel
theorem dX9_set_35 : decode cX9_set 35 = .ok (.iload_n 2, 1) := by decide +kernel
theorem dX9_set_36 : decode cX9_set 36 = .ok (.i2l, 1) := by decide +kernel
theorem dX9_set_37 : decode cX9_set 37 = .ok (.lconst 0, 1) := by decide +kernel
theorem dX9_set_38 : decode cX9_set 38 = .ok (.aload_n 0, 1) := by decide +kernel
theorem dX9_set_39 : decode cX9_set 39 = .ok (.getfield 13, 3) := by decide +kernel
theorem dX9_set_42 : decode cX9_set 42 = .ok (.iload_n 1, 1) := by decide +kernel
theorem dX9_set_43 : decode cX9_set 43 = .ok (.iaload, 1) := by decide +kernel
theorem dX9_set_44 : decode cX9_set 44 = .ok (.iconst 1, 1) := by decide +kernel
theorem dX9_set_45 : decode cX9_set 45 = .ok (.isub, 1) := by decide +kernel
theorem dX9_set_46 : decode cX9_set 46 = .ok (.i2l, 1) := by decide +kernel
theorem dX9_set_47 : decode cX9_set 47 = .ok (.invokestatic 54, 3) := by decide +kernel
theorem dX9_set_50 : decode cX9_set 50 = .ok (.ifCond .ne 9, 3) := by decide +kernel
theorem dX9_set_53 : decode cX9_set 53 = .ok (.aload_n 0, 1) := by decide +kernel
theorem dX9_set_54 : decode cX9_set 54 = .ok (.iconst 2, 1) := by decide +kernel
theorem dX9_set_55 : decode cX9_set 55 = .ok (.invokevirtual 65, 3) := by decide +kernel
theorem dX9_set_58 : decode cX9_set 58 = .ok (.ireturn, 1) := by decide +kernel
theorem dX9_set_59 : decode cX9_set 59 = .ok (.aload_n 0, 1) := by decide +kernel
theorem dX9_set_60 : decode cX9_set 60 = .ok (.getfield 16, 3) := by decide +kernel
theorem dX9_set_63 : decode cX9_set 63 = .ok (.bipush 40, 2) := by decide +kernel
theorem dX9_set_65 : decode cX9_set 65 = .ok (.iload_n 1, 1) := by decide +kernel
theorem dX9_set_66 : decode cX9_set 66 = .ok (.imul, 1) := by decide +kernel
theorem dX9_set_67 : decode cX9_set 67 = .ok (.iload_n 2, 1) := by decide +kernel
theorem dX9_set_68 : decode cX9_set 68 = .ok (.iadd, 1) := by decide +kernel
theorem dX9_set_69 : decode cX9_set 69 = .ok (.aload_n 0, 1) := by decide +kernel
theorem dX9_set_70 : decode cX9_set 70 = .ok (.getfield 7, 3) := by decide +kernel
theorem dX9_set_73 : decode cX9_set 73 = .ok (.iload_n 1, 1) := by decide +kernel
theorem dX9_set_74 : decode cX9_set 74 = .ok (.iaload, 1) := by decide +kernel
theorem dX9_set_75 : decode cX9_set 75 = .ok (.ifCond .ne 8, 3) := by decide +kernel
theorem dX9_set_78 : decode cX9_set 78 = .ok (.iload_n 3, 1) := by decide +kernel
theorem dX9_set_79 : decode cX9_set 79 = .ok (.i2b, 1) := by decide +kernel
theorem dX9_set_80 : decode cX9_set 80 = .ok (.goto 19, 3) := by decide +kernel
theorem dX9_set_83 : decode cX9_set 83 = .ok (.aload_n 0, 1) := by decide +kernel
theorem dX9_set_84 : decode cX9_set 84 = .ok (.getfield 7, 3) := by decide +kernel
theorem dX9_set_87 : decode cX9_set 87 = .ok (.iload_n 1, 1) := by decide +kernel
theorem dX9_set_88 : decode cX9_set 88 = .ok (.iaload, 1) := by decide +kernel
theorem dX9_set_89 : decode cX9_set 89 = .ok (.iconst 1, 1) := by decide +kernel
theorem dX9_set_90 : decode cX9_set 90 = .ok (.if_icmp .ne 8, 3) := by decide +kernel
theorem dX9_set_93 : decode cX9_set 93 = .ok (.iload_n 3, 1) := by decide +kernel
theorem dX9_set_94 : decode cX9_set 94 = .ok (.i2s, 1) := by decide +kernel
theorem dX9_set_95 : decode cX9_set 95 = .ok (.goto 4, 3) := by decide +kernel
theorem dX9_set_98 : decode cX9_set 98 = .ok (.iload_n 3, 1) := by decide +kernel
theorem dX9_set_99 : decode cX9_set 99 = .ok (.iastore, 1) := by decide +kernel
theorem dX9_set_100 : decode cX9_set 100 = .ok (.aload_n 0, 1) := by decide +kernel
theorem dX9_set_101 : decode cX9_set 101 = .ok (.getfield 16, 3) := by decide +kernel
theorem dX9_set_104 : decode cX9_set 104 = .ok (.bipush 40, 2) := by decide +kernel
theorem dX9_set_106 : decode cX9_set 106 = .ok (.iload_n 1, 1) := by decide +kernel
theorem dX9_set_107 : decode cX9_set 107 = .ok (.imul, 1) := by decide +kernel
theorem dX9_set_108 : decode cX9_set 108 = .ok (.iload_n 2, 1) := by decide +kernel
theorem dX9_set_109 : decode cX9_set 109 = .ok (.iadd, 1) := by decide +kernel
theorem dX9_set_110 : decode cX9_set 110 = .ok (.iaload, 1) := by decide +kernel
theorem dX9_set_111 : decode cX9_set 111 = .ok (.ireturn, 1) := by decide +kernel
theorem dX9_copy_0 : decode cX9_copy 0 = .ok (.aload_n 0, 1) := by decide +kernel
theorem dX9_copy_1 : decode cX9_copy 1 = .ok (.iconst 0, 1) := by decide +kernel
theorem dX9_copy_2 : decode cX9_copy 2 = .ok (.putfield 44, 3) := by decide +kernel
theorem dX9_copy_5 : decode cX9_copy 5 = .ok (.iload_n 1, 1) := by decide +kernel
theorem dX9_copy_6 : decode cX9_copy 6 = .ok (.invokestatic 58, 3) := by decide +kernel
theorem dX9_copy_9 : decode cX9_copy 9 = .ok (.ifCond .eq 10, 3) := by decide +kernel
theorem dX9_copy_12 : decode cX9_copy 12 = .ok (.iload_n 3, 1) := by decide +kernel
theorem dX9_copy_13 : decode cX9_copy 13 = .ok (.invokestatic 58, 3) := by decide +kernel
theorem dX9_copy_16 : decode cX9_copy 16 = .ok (.ifCond .ne 6, 3) := by decide +kernel
theorem dX9_copy_19 : decode cX9_copy 19 = .ok (.ldc 64, 2) := by decide +kernel
theorem dX9_copy_21 : decode cX9_copy 21 = .ok (.ireturn, 1) := by decide +kernel
theorem dX9_copy_22 : decode cX9_copy 22 = .ok (.aload_n 0, 1) := by decide +kernel
theorem dX9_copy_23 : decode cX9_copy 23 = .ok (.iconst 0, 1) := by decide +kernel
theorem dX9_copy_24 : decode cX9_copy 24 = .ok (.putfield 48, 3) := by decide +kernel
theorem dX9_copy_27 : decode cX9_copy 27 = .ok (.aload_n 0, 1) := by decide +kernel
theorem dX9_copy_28 : decode cX9_copy 28 = .ok (.getfield 7, 3) := by decide +kernel
theorem dX9_copy_31 : decode cX9_copy 31 = .ok (.iload_n 1, 1) := by decide +kernel
theorem dX9_copy_32 : decode cX9_copy 32 = .ok (.iaload, 1) := by decide +kernel
theorem dX9_copy_33 : decode cX9_copy 33 = .ok (.ifCond .lt 12, 3) := by decide +kernel
theorem dX9_copy_36 : decode cX9_copy 36 = .ok (.aload_n 0, 1) := by decide +kernel
theorem dX9_copy_37 : decode cX9_copy 37 = .ok (.getfield 7, 3) := by decide +kernel
theorem dX9_copy_40 : decode cX9_copy 40 = .ok (.iload_n 3, 1) := by decide +kernel
theorem dX9_copy_41 : decode cX9_copy 41 = .ok (.iaload, 1) := by decide +kernel
theorem dX9_copy_42 : decode cX9_copy 42 = .ok (.ifCond .ge 9, 3) := by decide +kernel
theorem dX9_copy_45 : decode cX9_copy 45 = .ok (.aload_n 0, 1) := by decide +kernel
theorem dX9_copy_46 : decode cX9_copy 46 = .ok (.iconst 1, 1) := by decide +kernel
theorem dX9_copy_47 : decode cX9_copy 47 = .ok (.invokevirtual 65, 3) := by decide +kernel
theorem dX9_copy_50 : decode cX9_copy 50 = .ok (.ireturn, 1) := by decide +kernel
theorem dX9_copy_51 : decode cX9_copy 51 = .ok (.aload_n 0, 1) := by decide +kernel
theorem dX9_copy_52 : decode cX9_copy 52 = .ok (.getfield 7, 3) := by decide +kernel
theorem dX9_copy_55 : decode cX9_copy 55 = .ok (.iload_n 1, 1) := by decide +kernel
theorem dX9_copy_56 : decode cX9_copy 56 = .ok (.iaload, 1) := by decide +kernel
theorem dX9_copy_57 : decode cX9_copy 57 = .ok (.aload_n 0, 1) := by decide +kernel
theorem dX9_copy_58 : decode cX9_copy 58 = .ok (.getfield 7, 3) := by decide +kernel
theorem dX9_copy_61 : decode cX9_copy 61 = .ok (.iload_n 3, 1) := by decide +kernel
theorem dX9_copy_62 : decode cX9_copy 62 = .ok (.iaload, 1) := by decide +kernel
theorem dX9_copy_63 : decode cX9_copy 63 = .ok (.if_icmp .eq 9, 3) := by decide +kernel
theorem dX9_copy_66 : decode cX9_copy 66 = .ok (.aload_n 0, 1) := by decide +kernel
theorem dX9_copy_67 : decode cX9_copy 67 = .ok (.iconst 5, 1) := by decide +kernel
theorem dX9_copy_68 : decode cX9_copy 68 = .ok (.invokevirtual 65, 3) := by decide +kernel
theorem dX9_copy_71 : decode cX9_copy 71 = .ok (.ireturn, 1) := by decide +kernel
theorem dX9_copy_72 : decode cX9_copy 72 = .ok (.iload_n 2, 1) := by decide +kernel
theorem dX9_copy_73 : decode cX9_copy 73 = .ok (.ifCond .lt 48, 3) := by decide +kernel
theorem dX9_copy_76 : decode cX9_copy 76 = .ok (.iload 4, 2) := by decide +kernel
theorem dX9_copy_78 : decode cX9_copy 78 = .ok (.ifCond .lt 43, 3) := by decide +kernel
theorem dX9_copy_81 : decode cX9_copy 81 = .ok (.iload 5, 2) := by decide +kernel
theorem dX9_copy_83 : decode cX9_copy 83 = .ok (.ifCond .lt 38, 3) := by decide +kernel
theorem dX9_copy_86 : decode cX9_copy 86 = .ok (.iload_n 2, 1) := by decide +kernel
theorem dX9_copy_87 : decode cX9_copy 87 = .ok (.i2l, 1) := by decide +kernel
theorem dX9_copy_88 : decode cX9_copy 88 = .ok (.iload 5, 2) := by decide +kernel
theorem dX9_copy_90 : decode cX9_copy 90 = .ok (.i2l, 1) := by decide +kernel
theorem dX9_copy_91 : decode cX9_copy 91 = .ok (.ladd, 1) := by decide +kernel
theorem dX9_copy_92 : decode cX9_copy 92 = .ok (.aload_n 0, 1) := by decide +kernel
theorem dX9_copy_93 : decode cX9_copy 93 = .ok (.getfield 13, 3) := by decide +kernel
theorem dX9_copy_96 : decode cX9_copy 96 = .ok (.iload_n 1, 1) := by decide +kernel
theorem dX9_copy_97 : decode cX9_copy 97 = .ok (.iaload, 1) := by decide +kernel
theorem dX9_copy_98 : decode cX9_copy 98 = .ok (.i2l, 1) := by decide +kernel
theorem dX9_copy_99 : decode cX9_copy 99 = .ok (.lcmp, 1) := by decide +kernel
theorem dX9_copy_100 : decode cX9_copy 100 = .ok (.ifCond .gt 21, 3) := by decide +kernel
theorem dX9_copy_103 : decode cX9_copy 103 = .ok (.iload 4, 2) := by decide +kernel
theorem dX9_copy_105 : decode cX9_copy 105 = .ok (.i2l, 1) := by decide +kernel
theorem dX9_copy_106 : decode cX9_copy 106 = .ok (.iload 5, 2) := by decide +kernel
theorem dX9_copy_108 : decode cX9_copy 108 = .ok (.i2l, 1) := by decide +kernel
theorem dX9_copy_109 : decode cX9_copy 109 = .ok (.ladd, 1) := by decide +kernel
theorem dX9_copy_110 : decode cX9_copy 110 = .ok (.aload_n 0, 1) := by decide +kernel
theorem dX9_copy_111 : decode cX9_copy 111 = .ok (.getfield 13, 3) := by decide +kernel
theorem dX9_copy_114 : decode cX9_copy 114 = .ok (.iload_n 3, 1) := by decide +kernel
theorem dX9_copy_115 : decode cX9_copy 115 = .ok (.iaload, 1) := by decide +kernel
theorem dX9_copy_116 : decode cX9_copy 116 = .ok (.i2l, 1) := by decide +kernel
theorem dX9_copy_117 : decode cX9_copy 117 = .ok (.lcmp, 1) := by decide +kernel
theorem dX9_copy_118 : decode cX9_copy 118 = .ok (.ifCond .le 9, 3) := by decide +kernel
theorem dX9_copy_121 : decode cX9_copy 121 = .ok (.aload_n 0, 1) := by decide +kernel
theorem dX9_copy_122 : decode cX9_copy 122 = .ok (.iconst 2, 1) := by decide +kernel
theorem dX9_copy_123 : decode cX9_copy 123 = .ok (.invokevirtual 65, 3) := by decide +kernel
theorem dX9_copy_126 : decode cX9_copy 126 = .ok (.ireturn, 1) := by decide +kernel
theorem dX9_copy_127 : decode cX9_copy 127 = .ok (.iload_n 2, 1) := by decide +kernel
theorem dX9_copy_128 : decode cX9_copy 128 = .ok (.iload 4, 2) := by decide +kernel
theorem dX9_copy_130 : decode cX9_copy 130 = .ok (.if_icmp .lt 7, 3) := by decide +kernel
theorem dX9_copy_133 : decode cX9_copy 133 = .ok (.iconst 1, 1) := by decide +kernel
theorem dX9_copy_134 : decode cX9_copy 134 = .ok (.goto 4, 3) := by decide +kernel
theorem dX9_copy_137 : decode cX9_copy 137 = .ok (.iconst 0, 1) := by decide +kernel
theorem dX9_copy_138 : decode cX9_copy 138 = .ok (.istore 6, 2) := by decide +kernel
theorem dX9_copy_140 : decode cX9_copy 140 = .ok (.iconst 0, 1) := by decide +kernel
theorem dX9_copy_141 : decode cX9_copy 141 = .ok (.istore 7, 2) := by decide +kernel
theorem dX9_copy_143 : decode cX9_copy 143 = .ok (.iload 7, 2) := by decide +kernel
theorem dX9_copy_145 : decode cX9_copy 145 = .ok (.iload 5, 2) := by decide +kernel
theorem dX9_copy_147 : decode cX9_copy 147 = .ok (.if_icmp .ge 57, 3) := by decide +kernel
theorem dX9_copy_150 : decode cX9_copy 150 = .ok (.iload 6, 2) := by decide +kernel
theorem dX9_copy_152 : decode cX9_copy 152 = .ok (.ifCond .eq 8, 3) := by decide +kernel
theorem dX9_copy_155 : decode cX9_copy 155 = .ok (.iload 7, 2) := by decide +kernel
theorem dX9_copy_157 : decode cX9_copy 157 = .ok (.goto 10, 3) := by decide +kernel
theorem dX9_copy_160 : decode cX9_copy 160 = .ok (.iload 5, 2) := by decide +kernel
theorem dX9_copy_162 : decode cX9_copy 162 = .ok (.iconst 1, 1) := by decide +kernel
theorem dX9_copy_163 : decode cX9_copy 163 = .ok (.isub, 1) := by decide +kernel
theorem dX9_copy_164 : decode cX9_copy 164 = .ok (.iload 7, 2) := by decide +kernel
theorem dX9_copy_166 : decode cX9_copy 166 = .ok (.isub, 1) := by decide +kernel
theorem dX9_copy_167 : decode cX9_copy 167 = .ok (.istore 8, 2) := by decide +kernel
theorem dX9_copy_169 : decode cX9_copy 169 = .ok (.aload_n 0, 1) := by decide +kernel
theorem dX9_copy_170 : decode cX9_copy 170 = .ok (.getfield 16, 3) := by decide +kernel
theorem dX9_copy_173 : decode cX9_copy 173 = .ok (.bipush 40, 2) := by decide +kernel
theorem dX9_copy_175 : decode cX9_copy 175 = .ok (.iload_n 3, 1) := by decide +kernel
theorem dX9_copy_176 : decode cX9_copy 176 = .ok (.imul, 1) := by decide +kernel
theorem dX9_copy_177 : decode cX9_copy 177 = .ok (.iload 4, 2) := by decide +kernel
theorem dX9_copy_179 : decode cX9_copy 179 = .ok (.iadd, 1) := by decide +kernel
theorem dX9_copy_180 : decode cX9_copy 180 = .ok (.iload 8, 2) := by decide +kernel
theorem dX9_copy_182 : decode cX9_copy 182 = .ok (.iadd, 1) := by decide +kernel
theorem dX9_copy_183 : decode cX9_copy 183 = .ok (.aload_n 0, 1) := by decide +kernel
theorem dX9_copy_184 : decode cX9_copy 184 = .ok (.getfield 16, 3) := by decide +kernel
theorem dX9_copy_187 : decode cX9_copy 187 = .ok (.bipush 40, 2) := by decide +kernel
theorem dX9_copy_189 : decode cX9_copy 189 = .ok (.iload_n 1, 1) := by decide +kernel
theorem dX9_copy_190 : decode cX9_copy 190 = .ok (.imul, 1) := by decide +kernel
theorem dX9_copy_191 : decode cX9_copy 191 = .ok (.iload_n 2, 1) := by decide +kernel
theorem dX9_copy_192 : decode cX9_copy 192 = .ok (.iadd, 1) := by decide +kernel
theorem dX9_copy_193 : decode cX9_copy 193 = .ok (.iload 8, 2) := by decide +kernel
theorem dX9_copy_195 : decode cX9_copy 195 = .ok (.iadd, 1) := by decide +kernel
theorem dX9_copy_196 : decode cX9_copy 196 = .ok (.iaload, 1) := by decide +kernel
theorem dX9_copy_197 : decode cX9_copy 197 = .ok (.iastore, 1) := by decide +kernel
theorem dX9_copy_198 : decode cX9_copy 198 = .ok (.iinc 7 1, 3) := by decide +kernel
theorem dX9_copy_201 : decode cX9_copy 201 = .ok (.goto (-58), 3) := by decide +kernel
theorem dX9_copy_204 : decode cX9_copy 204 = .ok (.iload 5, 2) := by decide +kernel
theorem dX9_copy_206 : decode cX9_copy 206 = .ok (.ireturn, 1) := by decide +kernel
theorem dX9_drop_0 : decode cX9_drop 0 = .ok (.aload_n 0, 1) := by decide +kernel
theorem dX9_drop_1 : decode cX9_drop 1 = .ok (.iconst 0, 1) := by decide +kernel
theorem dX9_drop_2 : decode cX9_drop 2 = .ok (.putfield 44, 3) := by decide +kernel
theorem dX9_drop_5 : decode cX9_drop 5 = .ok (.iload_n 1, 1) := by decide +kernel
theorem dX9_drop_6 : decode cX9_drop 6 = .ok (.invokestatic 58, 3) := by decide +kernel
theorem dX9_drop_9 : decode cX9_drop 9 = .ok (.ifCond .ne 6, 3) := by decide +kernel
theorem dX9_drop_12 : decode cX9_drop 12 = .ok (.ldc 64, 2) := by decide +kernel
theorem dX9_drop_14 : decode cX9_drop 14 = .ok (.ireturn, 1) := by decide +kernel
theorem dX9_drop_15 : decode cX9_drop 15 = .ok (.aload_n 0, 1) := by decide +kernel
theorem dX9_drop_16 : decode cX9_drop 16 = .ok (.iconst 0, 1) := by decide +kernel
theorem dX9_drop_17 : decode cX9_drop 17 = .ok (.putfield 48, 3) := by decide +kernel
theorem dX9_drop_20 : decode cX9_drop 20 = .ok (.aload_n 0, 1) := by decide +kernel
theorem dX9_drop_21 : decode cX9_drop 21 = .ok (.getfield 7, 3) := by decide +kernel
theorem dX9_drop_24 : decode cX9_drop 24 = .ok (.iload_n 1, 1) := by decide +kernel
theorem dX9_drop_25 : decode cX9_drop 25 = .ok (.iaload, 1) := by decide +kernel
theorem dX9_drop_26 : decode cX9_drop 26 = .ok (.ifCond .ge 9, 3) := by decide +kernel
theorem dX9_drop_29 : decode cX9_drop 29 = .ok (.aload_n 0, 1) := by decide +kernel
theorem dX9_drop_30 : decode cX9_drop 30 = .ok (.iconst 1, 1) := by decide +kernel
theorem dX9_drop_31 : decode cX9_drop 31 = .ok (.invokevirtual 65, 3) := by decide +kernel
theorem dX9_drop_34 : decode cX9_drop 34 = .ok (.ireturn, 1) := by decide +kernel
theorem dX9_drop_35 : decode cX9_drop 35 = .ok (.aload_n 0, 1) := by decide +kernel
theorem dX9_drop_36 : decode cX9_drop 36 = .ok (.getfield 7, 3) := by decide +kernel
theorem dX9_drop_39 : decode cX9_drop 39 = .ok (.iload_n 1, 1) := by decide +kernel
theorem dX9_drop_40 : decode cX9_drop 40 = .ok (.iconst (-1), 1) := by decide +kernel
theorem dX9_drop_41 : decode cX9_drop 41 = .ok (.iastore, 1) := by decide +kernel
theorem dX9_drop_42 : decode cX9_drop 42 = .ok (.aload_n 0, 1) := by decide +kernel
theorem dX9_drop_43 : decode cX9_drop 43 = .ok (.getfield 13, 3) := by decide +kernel
theorem dX9_drop_46 : decode cX9_drop 46 = .ok (.iload_n 1, 1) := by decide +kernel
theorem dX9_drop_47 : decode cX9_drop 47 = .ok (.iaload, 1) := by decide +kernel
theorem dX9_drop_48 : decode cX9_drop 48 = .ok (.ireturn, 1) := by decide +kernel
theorem dX9_feed_0 : decode cX9_feed 0 = .ok (.aload_n 0, 1) := by decide +kernel
theorem dX9_feed_1 : decode cX9_feed 1 = .ok (.iconst 0, 1) := by decide +kernel
theorem dX9_feed_2 : decode cX9_feed 2 = .ok (.putfield 44, 3) := by decide +kernel
theorem dX9_feed_5 : decode cX9_feed 5 = .ok (.iload_n 3, 1) := by decide +kernel
theorem dX9_feed_6 : decode cX9_feed 6 = .ok (.i2l, 1) := by decide +kernel
theorem dX9_feed_7 : decode cX9_feed 7 = .ok (.lconst 1, 1) := by decide +kernel
theorem dX9_feed_8 : decode cX9_feed 8 = .ok (.ldc2_w 69, 3) := by decide +kernel
theorem dX9_feed_11 : decode cX9_feed 11 = .ok (.invokestatic 54, 3) := by decide +kernel
theorem dX9_feed_14 : decode cX9_feed 14 = .ok (.ifCond .ne 6, 3) := by decide +kernel
theorem dX9_feed_17 : decode cX9_feed 17 = .ok (.ldc 64, 2) := by decide +kernel
theorem dX9_feed_19 : decode cX9_feed 19 = .ok (.ireturn, 1) := by decide +kernel
theorem dX9_feed_20 : decode cX9_feed 20 = .ok (.aload_n 0, 1) := by decide +kernel
theorem dX9_feed_21 : decode cX9_feed 21 = .ok (.getfield 71, 3) := by decide +kernel
theorem dX9_feed_24 : decode cX9_feed 24 = .ok (.iload_n 3, 1) := by decide +kernel
theorem dX9_feed_25 : decode cX9_feed 25 = .ok (.iadd, 1) := by decide +kernel
theorem dX9_feed_26 : decode cX9_feed 26 = .ok (.sipush 400, 3) := by decide +kernel
theorem dX9_feed_29 : decode cX9_feed 29 = .ok (.if_icmp .le 6, 3) := by decide +kernel
theorem dX9_feed_32 : decode cX9_feed 32 = .ok (.ldc 74, 2) := by decide +kernel
theorem dX9_feed_34 : decode cX9_feed 34 = .ok (.ireturn, 1) := by decide +kernel
theorem dX9_feed_35 : decode cX9_feed 35 = .ok (.iload_n 3, 1) := by decide +kernel
theorem dX9_feed_36 : decode cX9_feed 36 = .ok (.iconst 1, 1) := by decide +kernel
theorem dX9_feed_37 : decode cX9_feed 37 = .ok (.isub, 1) := by decide +kernel
theorem dX9_feed_38 : decode cX9_feed 38 = .ok (.istore 4, 2) := by decide +kernel
theorem dX9_feed_40 : decode cX9_feed 40 = .ok (.iload 4, 2) := by decide +kernel
theorem dX9_feed_42 : decode cX9_feed 42 = .ok (.ifCond .lt 40, 3) := by decide +kernel
theorem dX9_feed_45 : decode cX9_feed 45 = .ok (.aload_n 0, 1) := by decide +kernel
theorem dX9_feed_46 : decode cX9_feed 46 = .ok (.getfield 28, 3) := by decide +kernel
theorem dX9_feed_49 : decode cX9_feed 49 = .ok (.aload_n 0, 1) := by decide +kernel
theorem dX9_feed_50 : decode cX9_feed 50 = .ok (.getfield 71, 3) := by decide +kernel
theorem dX9_feed_53 : decode cX9_feed 53 = .ok (.lload_n 1, 1) := by decide +kernel
theorem dX9_feed_54 : decode cX9_feed 54 = .ok (.bipush 8, 2) := by decide +kernel
theorem dX9_feed_56 : decode cX9_feed 56 = .ok (.iload 4, 2) := by decide +kernel
theorem dX9_feed_58 : decode cX9_feed 58 = .ok (.imul, 1) := by decide +kernel
theorem dX9_feed_59 : decode cX9_feed 59 = .ok (.lshr, 1) := by decide +kernel
theorem dX9_feed_60 : decode cX9_feed 60 = .ok (.ldc2_w 75, 3) := by decide +kernel
theorem dX9_feed_63 : decode cX9_feed 63 = .ok (.land, 1) := by decide +kernel
theorem dX9_feed_64 : decode cX9_feed 64 = .ok (.l2i, 1) := by decide +kernel
theorem dX9_feed_65 : decode cX9_feed 65 = .ok (.iastore, 1) := by decide +kernel
theorem dX9_feed_66 : decode cX9_feed 66 = .ok (.aload_n 0, 1) := by decide +kernel
theorem dX9_feed_67 : decode cX9_feed 67 = .ok (.dup, 1) := by decide +kernel
theorem dX9_feed_68 : decode cX9_feed 68 = .ok (.getfield 71, 3) := by decide +kernel
theorem dX9_feed_71 : decode cX9_feed 71 = .ok (.iconst 1, 1) := by decide +kernel
theorem dX9_feed_72 : decode cX9_feed 72 = .ok (.iadd, 1) := by decide +kernel
theorem dX9_feed_73 : decode cX9_feed 73 = .ok (.putfield 71, 3) := by decide +kernel
theorem dX9_feed_76 : decode cX9_feed 76 = .ok (.iinc 4 (-1), 3) := by decide +kernel
theorem dX9_feed_79 : decode cX9_feed 79 = .ok (.goto (-39), 3) := by decide +kernel
theorem dX9_feed_82 : decode cX9_feed 82 = .ok (.aload_n 0, 1) := by decide +kernel
theorem dX9_feed_83 : decode cX9_feed 83 = .ok (.getfield 71, 3) := by decide +kernel
theorem dX9_feed_86 : decode cX9_feed 86 = .ok (.ireturn, 1) := by decide +kernel
theorem dX9_byteAt_0 : decode cX9_byteAt 0 = .ok (.iload_n 1, 1) := by decide +kernel
theorem dX9_byteAt_1 : decode cX9_byteAt 1 = .ok (.aload_n 0, 1) := by decide +kernel
theorem dX9_byteAt_2 : decode cX9_byteAt 2 = .ok (.getfield 77, 3) := by decide +kernel
theorem dX9_byteAt_5 : decode cX9_byteAt 5 = .ok (.if_icmp .ge 12, 3) := by decide +kernel
theorem dX9_byteAt_8 : decode cX9_byteAt 8 = .ok (.aload_n 0, 1) := by decide +kernel
theorem dX9_byteAt_9 : decode cX9_byteAt 9 = .ok (.getfield 28, 3) := by decide +kernel
theorem dX9_byteAt_12 : decode cX9_byteAt 12 = .ok (.iload_n 1, 1) := by decide +kernel
theorem dX9_byteAt_13 : decode cX9_byteAt 13 = .ok (.iaload, 1) := by decide +kernel
theorem dX9_byteAt_14 : decode cX9_byteAt 14 = .ok (.goto 5, 3) := by decide +kernel
theorem dX9_byteAt_17 : decode cX9_byteAt 17 = .ok (.ldc 80, 2) := by decide +kernel
theorem dX9_byteAt_19 : decode cX9_byteAt 19 = .ok (.ireturn, 1) := by decide +kernel
theorem dX9_isLetter_0 : decode cX9_isLetter 0 = .ok (.iload_n 0, 1) := by decide +kernel
theorem dX9_isLetter_1 : decode cX9_isLetter 1 = .ok (.bipush 97, 2) := by decide +kernel
theorem dX9_isLetter_3 : decode cX9_isLetter 3 = .ok (.if_icmp .lt 13, 3) := by decide +kernel
theorem dX9_isLetter_6 : decode cX9_isLetter 6 = .ok (.iload_n 0, 1) := by decide +kernel
theorem dX9_isLetter_7 : decode cX9_isLetter 7 = .ok (.bipush 122, 2) := by decide +kernel
theorem dX9_isLetter_9 : decode cX9_isLetter 9 = .ok (.if_icmp .gt 7, 3) := by decide +kernel
theorem dX9_isLetter_12 : decode cX9_isLetter 12 = .ok (.iconst 1, 1) := by decide +kernel
theorem dX9_isLetter_13 : decode cX9_isLetter 13 = .ok (.goto 4, 3) := by decide +kernel
theorem dX9_isLetter_16 : decode cX9_isLetter 16 = .ok (.iconst 0, 1) := by decide +kernel
theorem dX9_isLetter_17 : decode cX9_isLetter 17 = .ok (.ireturn, 1) := by decide +kernel
theorem dX9_isFigure_0 : decode cX9_isFigure 0 = .ok (.iload_n 0, 1) := by decide +kernel
theorem dX9_isFigure_1 : decode cX9_isFigure 1 = .ok (.bipush 48, 2) := by decide +kernel
theorem dX9_isFigure_3 : decode cX9_isFigure 3 = .ok (.if_icmp .lt 13, 3) := by decide +kernel
theorem dX9_isFigure_6 : decode cX9_isFigure 6 = .ok (.iload_n 0, 1) := by decide +kernel
theorem dX9_isFigure_7 : decode cX9_isFigure 7 = .ok (.bipush 57, 2) := by decide +kernel
theorem dX9_isFigure_9 : decode cX9_isFigure 9 = .ok (.if_icmp .gt 7, 3) := by decide +kernel
theorem dX9_isFigure_12 : decode cX9_isFigure 12 = .ok (.iconst 1, 1) := by decide +kernel
theorem dX9_isFigure_13 : decode cX9_isFigure 13 = .ok (.goto 4, 3) := by decide +kernel
theorem dX9_isFigure_16 : decode cX9_isFigure 16 = .ok (.iconst 0, 1) := by decide +kernel
theorem dX9_isFigure_17 : decode cX9_isFigure 17 = .ok (.ireturn, 1) := by decide +kernel
theorem dX9_next_0 : decode cX9_next 0 = .ok (.aload_n 0, 1) := by decide +kernel
theorem dX9_next_1 : decode cX9_next 1 = .ok (.aload_n 0, 1) := by decide +kernel
theorem dX9_next_2 : decode cX9_next 2 = .ok (.getfield 81, 3) := by decide +kernel
theorem dX9_next_5 : decode cX9_next 5 = .ok (.invokevirtual 84, 3) := by decide +kernel
theorem dX9_next_8 : decode cX9_next 8 = .ok (.bipush 32, 2) := by decide +kernel
theorem dX9_next_10 : decode cX9_next 10 = .ok (.if_icmp .eq 16, 3) := by decide +kernel
theorem dX9_next_13 : decode cX9_next 13 = .ok (.aload_n 0, 1) := by decide +kernel
theorem dX9_next_14 : decode cX9_next 14 = .ok (.aload_n 0, 1) := by decide +kernel
theorem dX9_next_15 : decode cX9_next 15 = .ok (.getfield 81, 3) := by decide +kernel
theorem dX9_next_18 : decode cX9_next 18 = .ok (.invokevirtual 84, 3) := by decide +kernel
theorem dX9_next_21 : decode cX9_next 21 = .ok (.bipush 10, 2) := by decide +kernel
theorem dX9_next_23 : decode cX9_next 23 = .ok (.if_icmp .ne 16, 3) := by decide +kernel
theorem dX9_next_26 : decode cX9_next 26 = .ok (.aload_n 0, 1) := by decide +kernel
theorem dX9_next_27 : decode cX9_next 27 = .ok (.dup, 1) := by decide +kernel
theorem dX9_next_28 : decode cX9_next 28 = .ok (.getfield 81, 3) := by decide +kernel
theorem dX9_next_31 : decode cX9_next 31 = .ok (.iconst 1, 1) := by decide +kernel
theorem dX9_next_32 : decode cX9_next 32 = .ok (.iadd, 1) := by decide +kernel
theorem dX9_next_33 : decode cX9_next 33 = .ok (.putfield 81, 3) := by decide +kernel
theorem dX9_next_36 : decode cX9_next 36 = .ok (.goto (-36), 3) := by decide +kernel
theorem dX9_next_39 : decode cX9_next 39 = .ok (.aload_n 0, 1) := by decide +kernel
theorem dX9_next_40 : decode cX9_next 40 = .ok (.aload_n 0, 1) := by decide +kernel
theorem dX9_next_41 : decode cX9_next 41 = .ok (.getfield 81, 3) := by decide +kernel
theorem dX9_next_44 : decode cX9_next 44 = .ok (.putfield 87, 3) := by decide +kernel
theorem dX9_next_47 : decode cX9_next 47 = .ok (.aload_n 0, 1) := by decide +kernel
theorem dX9_next_48 : decode cX9_next 48 = .ok (.aload_n 0, 1) := by decide +kernel
theorem dX9_next_49 : decode cX9_next 49 = .ok (.getfield 81, 3) := by decide +kernel
theorem dX9_next_52 : decode cX9_next 52 = .ok (.invokevirtual 84, 3) := by decide +kernel
theorem dX9_next_55 : decode cX9_next 55 = .ok (.istore_n 1, 1) := by decide +kernel
theorem dX9_next_56 : decode cX9_next 56 = .ok (.iload_n 1, 1) := by decide +kernel
theorem dX9_next_57 : decode cX9_next 57 = .ok (.ldc 80, 2) := by decide +kernel
theorem dX9_next_59 : decode cX9_next 59 = .ok (.if_icmp .ne 11, 3) := by decide +kernel
theorem dX9_next_62 : decode cX9_next 62 = .ok (.aload_n 0, 1) := by decide +kernel
theorem dX9_next_63 : decode cX9_next 63 = .ok (.iconst 1, 1) := by decide +kernel
theorem dX9_next_64 : decode cX9_next 64 = .ok (.putfield 90, 3) := by decide +kernel
theorem dX9_next_67 : decode cX9_next 67 = .ok (.goto 129, 3) := by decide +kernel
theorem dX9_next_70 : decode cX9_next 70 = .ok (.iload_n 1, 1) := by decide +kernel
theorem dX9_next_71 : decode cX9_next 71 = .ok (.invokestatic 93, 3) := by decide +kernel
theorem dX9_next_74 : decode cX9_next 74 = .ok (.ifCond .eq 38, 3) := by decide +kernel
theorem dX9_next_77 : decode cX9_next 77 = .ok (.aload_n 0, 1) := by decide +kernel
theorem dX9_next_78 : decode cX9_next 78 = .ok (.aload_n 0, 1) := by decide +kernel
theorem dX9_next_79 : decode cX9_next 79 = .ok (.getfield 81, 3) := by decide +kernel
theorem dX9_next_82 : decode cX9_next 82 = .ok (.invokevirtual 84, 3) := by decide +kernel
theorem dX9_next_85 : decode cX9_next 85 = .ok (.invokestatic 93, 3) := by decide +kernel
theorem dX9_next_88 : decode cX9_next 88 = .ok (.ifCond .eq 16, 3) := by decide +kernel
theorem dX9_next_91 : decode cX9_next 91 = .ok (.aload_n 0, 1) := by decide +kernel
theorem dX9_next_92 : decode cX9_next 92 = .ok (.dup, 1) := by decide +kernel
theorem dX9_next_93 : decode cX9_next 93 = .ok (.getfield 81, 3) := by decide +kernel
theorem dX9_next_96 : decode cX9_next 96 = .ok (.iconst 1, 1) := by decide +kernel
theorem dX9_next_97 : decode cX9_next 97 = .ok (.iadd, 1) := by decide +kernel
theorem dX9_next_98 : decode cX9_next 98 = .ok (.putfield 81, 3) := by decide +kernel
theorem dX9_next_101 : decode cX9_next 101 = .ok (.goto (-24), 3) := by decide +kernel
theorem dX9_next_104 : decode cX9_next 104 = .ok (.aload_n 0, 1) := by decide +kernel
theorem dX9_next_105 : decode cX9_next 105 = .ok (.iconst 2, 1) := by decide +kernel
theorem dX9_next_106 : decode cX9_next 106 = .ok (.putfield 90, 3) := by decide +kernel
theorem dX9_next_109 : decode cX9_next 109 = .ok (.goto 87, 3) := by decide +kernel
theorem dX9_next_112 : decode cX9_next 112 = .ok (.iload_n 1, 1) := by decide +kernel
theorem dX9_next_113 : decode cX9_next 113 = .ok (.invokestatic 96, 3) := by decide +kernel
theorem dX9_next_116 : decode cX9_next 116 = .ok (.ifCond .eq 55, 3) := by decide +kernel
theorem dX9_next_119 : decode cX9_next 119 = .ok (.aload_n 0, 1) := by decide +kernel
theorem dX9_next_120 : decode cX9_next 120 = .ok (.aload_n 0, 1) := by decide +kernel
theorem dX9_next_121 : decode cX9_next 121 = .ok (.getfield 81, 3) := by decide +kernel
theorem dX9_next_124 : decode cX9_next 124 = .ok (.invokevirtual 84, 3) := by decide +kernel
theorem dX9_next_127 : decode cX9_next 127 = .ok (.invokestatic 96, 3) := by decide +kernel
theorem dX9_next_130 : decode cX9_next 130 = .ok (.ifCond .eq 16, 3) := by decide +kernel
theorem dX9_next_133 : decode cX9_next 133 = .ok (.aload_n 0, 1) := by decide +kernel
theorem dX9_next_134 : decode cX9_next 134 = .ok (.dup, 1) := by decide +kernel
theorem dX9_next_135 : decode cX9_next 135 = .ok (.getfield 81, 3) := by decide +kernel
theorem dX9_next_138 : decode cX9_next 138 = .ok (.iconst 1, 1) := by decide +kernel
theorem dX9_next_139 : decode cX9_next 139 = .ok (.iadd, 1) := by decide +kernel
theorem dX9_next_140 : decode cX9_next 140 = .ok (.putfield 81, 3) := by decide +kernel
theorem dX9_next_143 : decode cX9_next 143 = .ok (.goto (-24), 3) := by decide +kernel
theorem dX9_next_146 : decode cX9_next 146 = .ok (.aload_n 0, 1) := by decide +kernel
theorem dX9_next_147 : decode cX9_next 147 = .ok (.aload_n 0, 1) := by decide +kernel
theorem dX9_next_148 : decode cX9_next 148 = .ok (.getfield 81, 3) := by decide +kernel
theorem dX9_next_151 : decode cX9_next 151 = .ok (.aload_n 0, 1) := by decide +kernel
theorem dX9_next_152 : decode cX9_next 152 = .ok (.getfield 87, 3) := by decide +kernel
theorem dX9_next_155 : decode cX9_next 155 = .ok (.isub, 1) := by decide +kernel
theorem dX9_next_156 : decode cX9_next 156 = .ok (.iconst 3, 1) := by decide +kernel
theorem dX9_next_157 : decode cX9_next 157 = .ok (.if_icmp .le 7, 3) := by decide +kernel
theorem dX9_next_160 : decode cX9_next 160 = .ok (.iconst 0, 1) := by decide +kernel
theorem dX9_next_161 : decode cX9_next 161 = .ok (.goto 4, 3) := by decide +kernel
theorem dX9_next_164 : decode cX9_next 164 = .ok (.iconst 3, 1) := by decide +kernel
theorem dX9_next_165 : decode cX9_next 165 = .ok (.putfield 90, 3) := by decide +kernel
theorem dX9_next_168 : decode cX9_next 168 = .ok (.goto 28, 3) := by decide +kernel
theorem dX9_next_171 : decode cX9_next 171 = .ok (.aload_n 0, 1) := by decide +kernel
theorem dX9_next_172 : decode cX9_next 172 = .ok (.dup, 1) := by decide +kernel
theorem dX9_next_173 : decode cX9_next 173 = .ok (.getfield 81, 3) := by decide +kernel
theorem dX9_next_176 : decode cX9_next 176 = .ok (.iconst 1, 1) := by decide +kernel
theorem dX9_next_177 : decode cX9_next 177 = .ok (.iadd, 1) := by decide +kernel
theorem dX9_next_178 : decode cX9_next 178 = .ok (.putfield 81, 3) := by decide +kernel
theorem dX9_next_181 : decode cX9_next 181 = .ok (.aload_n 0, 1) := by decide +kernel
theorem dX9_next_182 : decode cX9_next 182 = .ok (.iload_n 1, 1) := by decide +kernel
theorem dX9_next_183 : decode cX9_next 183 = .ok (.bipush 59, 2) := by decide +kernel
theorem dX9_next_185 : decode cX9_next 185 = .ok (.if_icmp .ne 7, 3) := by decide +kernel
theorem dX9_next_188 : decode cX9_next 188 = .ok (.iconst 4, 1) := by decide +kernel
theorem dX9_next_189 : decode cX9_next 189 = .ok (.goto 4, 3) := by decide +kernel
theorem dX9_next_192 : decode cX9_next 192 = .ok (.iconst 0, 1) := by decide +kernel
theorem dX9_next_193 : decode cX9_next 193 = .ok (.putfield 90, 3) := by decide +kernel
theorem dX9_next_196 : decode cX9_next 196 = .ok (.aload_n 0, 1) := by decide +kernel
theorem dX9_next_197 : decode cX9_next 197 = .ok (.aload_n 0, 1) := by decide +kernel
theorem dX9_next_198 : decode cX9_next 198 = .ok (.getfield 81, 3) := by decide +kernel
theorem dX9_next_201 : decode cX9_next 201 = .ok (.putfield 99, 3) := by decide +kernel
theorem dX9_next_204 : decode cX9_next 204 = .ok (.return_, 1) := by decide +kernel
theorem dX9_begin_0 : decode cX9_begin 0 = .ok (.aload_n 0, 1) := by decide +kernel
theorem dX9_begin_1 : decode cX9_begin 1 = .ok (.aload_n 0, 1) := by decide +kernel
theorem dX9_begin_2 : decode cX9_begin 2 = .ok (.getfield 71, 3) := by decide +kernel
theorem dX9_begin_5 : decode cX9_begin 5 = .ok (.putfield 77, 3) := by decide +kernel
theorem dX9_begin_8 : decode cX9_begin 8 = .ok (.aload_n 0, 1) := by decide +kernel
theorem dX9_begin_9 : decode cX9_begin 9 = .ok (.iconst 0, 1) := by decide +kernel
theorem dX9_begin_10 : decode cX9_begin 10 = .ok (.putfield 71, 3) := by decide +kernel
theorem dX9_begin_13 : decode cX9_begin 13 = .ok (.aload_n 0, 1) := by decide +kernel
theorem dX9_begin_14 : decode cX9_begin 14 = .ok (.iconst 0, 1) := by decide +kernel
theorem dX9_begin_15 : decode cX9_begin 15 = .ok (.putfield 81, 3) := by decide +kernel
theorem dX9_begin_18 : decode cX9_begin 18 = .ok (.aload_n 0, 1) := by decide +kernel
theorem dX9_begin_19 : decode cX9_begin 19 = .ok (.iconst 0, 1) := by decide +kernel
theorem dX9_begin_20 : decode cX9_begin 20 = .ok (.putfield 102, 3) := by decide +kernel
theorem dX9_begin_23 : decode cX9_begin 23 = .ok (.aload_n 0, 1) := by decide +kernel
theorem dX9_begin_24 : decode cX9_begin 24 = .ok (.invokevirtual 105, 3) := by decide +kernel
theorem dX9_begin_27 : decode cX9_begin 27 = .ok (.return_, 1) := by decide +kernel
theorem dX9_bad_0 : decode cX9_bad 0 = .ok (.aload_n 0, 1) := by decide +kernel
theorem dX9_bad_1 : decode cX9_bad 1 = .ok (.getfield 102, 3) := by decide +kernel
theorem dX9_bad_4 : decode cX9_bad 4 = .ok (.ifCond .ne 16, 3) := by decide +kernel
theorem dX9_bad_7 : decode cX9_bad 7 = .ok (.aload_n 0, 1) := by decide +kernel
theorem dX9_bad_8 : decode cX9_bad 8 = .ok (.iload_n 1, 1) := by decide +kernel
theorem dX9_bad_9 : decode cX9_bad 9 = .ok (.putfield 102, 3) := by decide +kernel
theorem dX9_bad_12 : decode cX9_bad 12 = .ok (.aload_n 0, 1) := by decide +kernel
theorem dX9_bad_13 : decode cX9_bad 13 = .ok (.aload_n 0, 1) := by decide +kernel
theorem dX9_bad_14 : decode cX9_bad 14 = .ok (.getfield 87, 3) := by decide +kernel
theorem dX9_bad_17 : decode cX9_bad 17 = .ok (.putfield 108, 3) := by decide +kernel
theorem dX9_bad_20 : decode cX9_bad 20 = .ok (.return_, 1) := by decide +kernel
theorem dX9_must_0 : decode cX9_must 0 = .ok (.iload_n 1, 1) := by decide +kernel
theorem dX9_must_1 : decode cX9_must 1 = .ok (.ifCond .ne 8, 3) := by decide +kernel
theorem dX9_must_4 : decode cX9_must 4 = .ok (.aload_n 0, 1) := by decide +kernel
theorem dX9_must_5 : decode cX9_must 5 = .ok (.iconst 1, 1) := by decide +kernel
theorem dX9_must_6 : decode cX9_must 6 = .ok (.invokevirtual 111, 3) := by decide +kernel
theorem dX9_must_9 : decode cX9_must 9 = .ok (.aload_n 0, 1) := by decide +kernel
theorem dX9_must_10 : decode cX9_must 10 = .ok (.getfield 102, 3) := by decide +kernel
theorem dX9_must_13 : decode cX9_must 13 = .ok (.ifCond .ne 7, 3) := by decide +kernel
theorem dX9_must_16 : decode cX9_must 16 = .ok (.aload_n 0, 1) := by decide +kernel
theorem dX9_must_17 : decode cX9_must 17 = .ok (.invokevirtual 105, 3) := by decide +kernel
theorem dX9_must_20 : decode cX9_must 20 = .ok (.return_, 1) := by decide +kernel
theorem dX9_name_0 : decode cX9_name 0 = .ok (.lconst 0, 1) := by decide +kernel
theorem dX9_name_1 : decode cX9_name 1 = .ok (.lstore_n 1, 1) := by decide +kernel
theorem dX9_name_2 : decode cX9_name 2 = .ok (.aload_n 0, 1) := by decide +kernel
theorem dX9_name_3 : decode cX9_name 3 = .ok (.getfield 87, 3) := by decide +kernel
theorem dX9_name_6 : decode cX9_name 6 = .ok (.istore_n 3, 1) := by decide +kernel
theorem dX9_name_7 : decode cX9_name 7 = .ok (.iload_n 3, 1) := by decide +kernel
theorem dX9_name_8 : decode cX9_name 8 = .ok (.aload_n 0, 1) := by decide +kernel
theorem dX9_name_9 : decode cX9_name 9 = .ok (.getfield 99, 3) := by decide +kernel
theorem dX9_name_12 : decode cX9_name 12 = .ok (.if_icmp .ge 44, 3) := by decide +kernel
theorem dX9_name_15 : decode cX9_name 15 = .ok (.aload_n 0, 1) := by decide +kernel
theorem dX9_name_16 : decode cX9_name 16 = .ok (.getfield 90, 3) := by decide +kernel
theorem dX9_name_19 : decode cX9_name 19 = .ok (.iconst 2, 1) := by decide +kernel
theorem dX9_name_20 : decode cX9_name 20 = .ok (.if_icmp .ne 36, 3) := by decide +kernel
theorem dX9_name_23 : decode cX9_name 23 = .ok (.aload_n 0, 1) := by decide +kernel
theorem dX9_name_24 : decode cX9_name 24 = .ok (.getfield 99, 3) := by decide +kernel
theorem dX9_name_27 : decode cX9_name 27 = .ok (.aload_n 0, 1) := by decide +kernel
theorem dX9_name_28 : decode cX9_name 28 = .ok (.getfield 87, 3) := by decide +kernel
theorem dX9_name_31 : decode cX9_name 31 = .ok (.isub, 1) := by decide +kernel
theorem dX9_name_32 : decode cX9_name 32 = .ok (.bipush 8, 2) := by decide +kernel
theorem dX9_name_34 : decode cX9_name 34 = .ok (.if_icmp .ge 22, 3) := by decide +kernel
theorem dX9_name_37 : decode cX9_name 37 = .ok (.lload_n 1, 1) := by decide +kernel
theorem dX9_name_38 : decode cX9_name 38 = .ok (.bipush 8, 2) := by decide +kernel
theorem dX9_name_40 : decode cX9_name 40 = .ok (.lshl, 1) := by decide +kernel
theorem dX9_name_41 : decode cX9_name 41 = .ok (.aload_n 0, 1) := by decide +kernel
theorem dX9_name_42 : decode cX9_name 42 = .ok (.getfield 28, 3) := by decide +kernel
theorem dX9_name_45 : decode cX9_name 45 = .ok (.iload_n 3, 1) := by decide +kernel
theorem dX9_name_46 : decode cX9_name 46 = .ok (.iaload, 1) := by decide +kernel
theorem dX9_name_47 : decode cX9_name 47 = .ok (.i2l, 1) := by decide +kernel
theorem dX9_name_48 : decode cX9_name 48 = .ok (.lor, 1) := by decide +kernel
theorem dX9_name_49 : decode cX9_name 49 = .ok (.lstore_n 1, 1) := by decide +kernel
theorem dX9_name_50 : decode cX9_name 50 = .ok (.iinc 3 1, 3) := by decide +kernel
theorem dX9_name_53 : decode cX9_name 53 = .ok (.goto (-46), 3) := by decide +kernel
theorem dX9_name_56 : decode cX9_name 56 = .ok (.aload_n 0, 1) := by decide +kernel
theorem dX9_name_57 : decode cX9_name 57 = .ok (.getfield 102, 3) := by decide +kernel
theorem dX9_name_60 : decode cX9_name 60 = .ok (.ifCond .ne 7, 3) := by decide +kernel
theorem dX9_name_63 : decode cX9_name 63 = .ok (.lload_n 1, 1) := by decide +kernel
theorem dX9_name_64 : decode cX9_name 64 = .ok (.goto 4, 3) := by decide +kernel
theorem dX9_name_67 : decode cX9_name 67 = .ok (.lconst 0, 1) := by decide +kernel
theorem dX9_name_68 : decode cX9_name 68 = .ok (.lreturn, 1) := by decide +kernel
theorem dX9_figures_0 : decode cX9_figures 0 = .ok (.iconst 0, 1) := by decide +kernel
theorem dX9_figures_1 : decode cX9_figures 1 = .ok (.istore_n 1, 1) := by decide +kernel
theorem dX9_figures_2 : decode cX9_figures 2 = .ok (.aload_n 0, 1) := by decide +kernel
theorem dX9_figures_3 : decode cX9_figures 3 = .ok (.getfield 87, 3) := by decide +kernel
theorem dX9_figures_6 : decode cX9_figures 6 = .ok (.istore_n 2, 1) := by decide +kernel
theorem dX9_figures_7 : decode cX9_figures 7 = .ok (.iload_n 2, 1) := by decide +kernel
theorem dX9_figures_8 : decode cX9_figures 8 = .ok (.aload_n 0, 1) := by decide +kernel
theorem dX9_figures_9 : decode cX9_figures 9 = .ok (.getfield 99, 3) := by decide +kernel
theorem dX9_figures_12 : decode cX9_figures 12 = .ok (.if_icmp .ge 32, 3) := by decide +kernel
theorem dX9_figures_15 : decode cX9_figures 15 = .ok (.aload_n 0, 1) := by decide +kernel
theorem dX9_figures_16 : decode cX9_figures 16 = .ok (.getfield 90, 3) := by decide +kernel
theorem dX9_figures_19 : decode cX9_figures 19 = .ok (.iconst 3, 1) := by decide +kernel
theorem dX9_figures_20 : decode cX9_figures 20 = .ok (.if_icmp .ne 24, 3) := by decide +kernel
theorem dX9_figures_23 : decode cX9_figures 23 = .ok (.bipush 10, 2) := by decide +kernel
theorem dX9_figures_25 : decode cX9_figures 25 = .ok (.iload_n 1, 1) := by decide +kernel
theorem dX9_figures_26 : decode cX9_figures 26 = .ok (.imul, 1) := by decide +kernel
theorem dX9_figures_27 : decode cX9_figures 27 = .ok (.aload_n 0, 1) := by decide +kernel
theorem dX9_figures_28 : decode cX9_figures 28 = .ok (.getfield 28, 3) := by decide +kernel
theorem dX9_figures_31 : decode cX9_figures 31 = .ok (.iload_n 2, 1) := by decide +kernel
theorem dX9_figures_32 : decode cX9_figures 32 = .ok (.iaload, 1) := by decide +kernel
theorem dX9_figures_33 : decode cX9_figures 33 = .ok (.iadd, 1) := by decide +kernel
theorem dX9_figures_34 : decode cX9_figures 34 = .ok (.bipush 48, 2) := by decide +kernel
theorem dX9_figures_36 : decode cX9_figures 36 = .ok (.isub, 1) := by decide +kernel
theorem dX9_figures_37 : decode cX9_figures 37 = .ok (.istore_n 1, 1) := by decide +kernel
theorem dX9_figures_38 : decode cX9_figures 38 = .ok (.iinc 2 1, 3) := by decide +kernel
theorem dX9_figures_41 : decode cX9_figures 41 = .ok (.goto (-34), 3) := by decide +kernel
theorem dX9_figures_44 : decode cX9_figures 44 = .ok (.iload_n 1, 1) := by decide +kernel
theorem dX9_figures_45 : decode cX9_figures 45 = .ok (.ireturn, 1) := by decide +kernel
theorem dX9_number_0 : decode cX9_number 0 = .ok (.aload_n 0, 1) := by decide +kernel
theorem dX9_number_1 : decode cX9_number 1 = .ok (.getfield 102, 3) := by decide +kernel
theorem dX9_number_4 : decode cX9_number 4 = .ok (.ifCond .le 5, 3) := by decide +kernel
theorem dX9_number_7 : decode cX9_number 7 = .ok (.iconst 0, 1) := by decide +kernel
theorem dX9_number_8 : decode cX9_number 8 = .ok (.ireturn, 1) := by decide +kernel
theorem dX9_number_9 : decode cX9_number 9 = .ok (.aload_n 0, 1) := by decide +kernel
theorem dX9_number_10 : decode cX9_number 10 = .ok (.invokevirtual 115, 3) := by decide +kernel
theorem dX9_number_13 : decode cX9_number 13 = .ok (.istore_n 3, 1) := by decide +kernel
theorem dX9_number_14 : decode cX9_number 14 = .ok (.aload_n 0, 1) := by decide +kernel
theorem dX9_number_15 : decode cX9_number 15 = .ok (.getfield 90, 3) := by decide +kernel
theorem dX9_number_18 : decode cX9_number 18 = .ok (.iconst 3, 1) := by decide +kernel
theorem dX9_number_19 : decode cX9_number 19 = .ok (.if_icmp .ne 20, 3) := by decide +kernel
theorem dX9_number_22 : decode cX9_number 22 = .ok (.iload_n 3, 1) := by decide +kernel
theorem dX9_number_23 : decode cX9_number 23 = .ok (.i2l, 1) := by decide +kernel
theorem dX9_number_24 : decode cX9_number 24 = .ok (.iload_n 1, 1) := by decide +kernel
theorem dX9_number_25 : decode cX9_number 25 = .ok (.i2l, 1) := by decide +kernel
theorem dX9_number_26 : decode cX9_number 26 = .ok (.iload_n 2, 1) := by decide +kernel
theorem dX9_number_27 : decode cX9_number 27 = .ok (.i2l, 1) := by decide +kernel
theorem dX9_number_28 : decode cX9_number 28 = .ok (.invokestatic 54, 3) := by decide +kernel
theorem dX9_number_31 : decode cX9_number 31 = .ok (.ifCond .ne 8, 3) := by decide +kernel
theorem dX9_number_34 : decode cX9_number 34 = .ok (.aload_n 0, 1) := by decide +kernel
theorem dX9_number_35 : decode cX9_number 35 = .ok (.iconst 2, 1) := by decide +kernel
theorem dX9_number_36 : decode cX9_number 36 = .ok (.invokevirtual 111, 3) := by decide +kernel
theorem dX9_number_39 : decode cX9_number 39 = .ok (.aload_n 0, 1) := by decide +kernel
theorem dX9_number_40 : decode cX9_number 40 = .ok (.aload_n 0, 1) := by decide +kernel
theorem dX9_number_41 : decode cX9_number 41 = .ok (.getfield 90, 3) := by decide +kernel
theorem dX9_number_44 : decode cX9_number 44 = .ok (.iconst 3, 1) := by decide +kernel
theorem dX9_number_45 : decode cX9_number 45 = .ok (.if_icmp .ne 7, 3) := by decide +kernel
theorem dX9_number_48 : decode cX9_number 48 = .ok (.iconst 1, 1) := by decide +kernel
theorem dX9_number_49 : decode cX9_number 49 = .ok (.goto 4, 3) := by decide +kernel
theorem dX9_number_52 : decode cX9_number 52 = .ok (.iconst 0, 1) := by decide +kernel
theorem dX9_number_53 : decode cX9_number 53 = .ok (.invokevirtual 119, 3) := by decide +kernel
theorem dX9_number_56 : decode cX9_number 56 = .ok (.iload_n 3, 1) := by decide +kernel
theorem dX9_number_57 : decode cX9_number 57 = .ok (.ireturn, 1) := by decide +kernel
theorem dX9_kindBy_0 : decode cX9_kindBy 0 = .ok (.lload_n 0, 1) := by decide +kernel
theorem dX9_kindBy_1 : decode cX9_kindBy 1 = .ok (.ldc2_w 123, 3) := by decide +kernel
theorem dX9_kindBy_4 : decode cX9_kindBy 4 = .ok (.lcmp, 1) := by decide +kernel
theorem dX9_kindBy_5 : decode cX9_kindBy 5 = .ok (.ifCond .ne 7, 3) := by decide +kernel
theorem dX9_kindBy_8 : decode cX9_kindBy 8 = .ok (.iconst 1, 1) := by decide +kernel
theorem dX9_kindBy_9 : decode cX9_kindBy 9 = .ok (.goto 53, 3) := by decide +kernel
theorem dX9_kindBy_12 : decode cX9_kindBy 12 = .ok (.lload_n 0, 1) := by decide +kernel
theorem dX9_kindBy_13 : decode cX9_kindBy 13 = .ok (.ldc2_w 125, 3) := by decide +kernel
theorem dX9_kindBy_16 : decode cX9_kindBy 16 = .ok (.lcmp, 1) := by decide +kernel
theorem dX9_kindBy_17 : decode cX9_kindBy 17 = .ok (.ifCond .ne 7, 3) := by decide +kernel
theorem dX9_kindBy_20 : decode cX9_kindBy 20 = .ok (.iconst 2, 1) := by decide +kernel
theorem dX9_kindBy_21 : decode cX9_kindBy 21 = .ok (.goto 41, 3) := by decide +kernel
theorem dX9_kindBy_24 : decode cX9_kindBy 24 = .ok (.lload_n 0, 1) := by decide +kernel
theorem dX9_kindBy_25 : decode cX9_kindBy 25 = .ok (.ldc2_w 127, 3) := by decide +kernel
theorem dX9_kindBy_28 : decode cX9_kindBy 28 = .ok (.lcmp, 1) := by decide +kernel
theorem dX9_kindBy_29 : decode cX9_kindBy 29 = .ok (.ifCond .ne 7, 3) := by decide +kernel
theorem dX9_kindBy_32 : decode cX9_kindBy 32 = .ok (.iconst 3, 1) := by decide +kernel
theorem dX9_kindBy_33 : decode cX9_kindBy 33 = .ok (.goto 29, 3) := by decide +kernel
theorem dX9_kindBy_36 : decode cX9_kindBy 36 = .ok (.lload_n 0, 1) := by decide +kernel
theorem dX9_kindBy_37 : decode cX9_kindBy 37 = .ok (.ldc2_w 129, 3) := by decide +kernel
theorem dX9_kindBy_40 : decode cX9_kindBy 40 = .ok (.lcmp, 1) := by decide +kernel
theorem dX9_kindBy_41 : decode cX9_kindBy 41 = .ok (.ifCond .ne 7, 3) := by decide +kernel
theorem dX9_kindBy_44 : decode cX9_kindBy 44 = .ok (.iconst 4, 1) := by decide +kernel
theorem dX9_kindBy_45 : decode cX9_kindBy 45 = .ok (.goto 17, 3) := by decide +kernel
theorem dX9_kindBy_48 : decode cX9_kindBy 48 = .ok (.lload_n 0, 1) := by decide +kernel
theorem dX9_kindBy_49 : decode cX9_kindBy 49 = .ok (.ldc2_w 131, 3) := by decide +kernel
theorem dX9_kindBy_52 : decode cX9_kindBy 52 = .ok (.lcmp, 1) := by decide +kernel
theorem dX9_kindBy_53 : decode cX9_kindBy 53 = .ok (.ifCond .ne 7, 3) := by decide +kernel
theorem dX9_kindBy_56 : decode cX9_kindBy 56 = .ok (.iconst 5, 1) := by decide +kernel
theorem dX9_kindBy_57 : decode cX9_kindBy 57 = .ok (.goto 5, 3) := by decide +kernel
theorem dX9_kindBy_60 : decode cX9_kindBy 60 = .ok (.ldc 80, 2) := by decide +kernel
theorem dX9_kindBy_62 : decode cX9_kindBy 62 = .ok (.ireturn, 1) := by decide +kernel
theorem dX9_mustEnd_0 : decode cX9_mustEnd 0 = .ok (.aload_n 0, 1) := by decide +kernel
theorem dX9_mustEnd_1 : decode cX9_mustEnd 1 = .ok (.getfield 102, 3) := by decide +kernel
theorem dX9_mustEnd_4 : decode cX9_mustEnd 4 = .ok (.ifCond .ne 20, 3) := by decide +kernel
theorem dX9_mustEnd_7 : decode cX9_mustEnd 7 = .ok (.aload_n 0, 1) := by decide +kernel
theorem dX9_mustEnd_8 : decode cX9_mustEnd 8 = .ok (.aload_n 0, 1) := by decide +kernel
theorem dX9_mustEnd_9 : decode cX9_mustEnd 9 = .ok (.getfield 90, 3) := by decide +kernel
theorem dX9_mustEnd_12 : decode cX9_mustEnd 12 = .ok (.iconst 4, 1) := by decide +kernel
theorem dX9_mustEnd_13 : decode cX9_mustEnd 13 = .ok (.if_icmp .ne 7, 3) := by decide +kernel
theorem dX9_mustEnd_16 : decode cX9_mustEnd 16 = .ok (.iconst 1, 1) := by decide +kernel
theorem dX9_mustEnd_17 : decode cX9_mustEnd 17 = .ok (.goto 4, 3) := by decide +kernel
theorem dX9_mustEnd_20 : decode cX9_mustEnd 20 = .ok (.iconst 0, 1) := by decide +kernel
theorem dX9_mustEnd_21 : decode cX9_mustEnd 21 = .ok (.invokevirtual 119, 3) := by decide +kernel
theorem dX9_mustEnd_24 : decode cX9_mustEnd 24 = .ok (.return_, 1) := by decide +kernel
theorem dX9_begins_0 : decode cX9_begins 0 = .ok (.aload_n 0, 1) := by decide +kernel
theorem dX9_begins_1 : decode cX9_begins 1 = .ok (.getfield 22, 3) := by decide +kernel
theorem dX9_begins_4 : decode cX9_begins 4 = .ok (.iload_n 1, 1) := by decide +kernel
theorem dX9_begins_5 : decode cX9_begins 5 = .ok (.iaload, 1) := by decide +kernel
theorem dX9_begins_6 : decode cX9_begins 6 = .ok (.iload_n 2, 1) := by decide +kernel
theorem dX9_begins_7 : decode cX9_begins 7 = .ok (.if_icmp .ne 8, 3) := by decide +kernel
theorem dX9_begins_10 : decode cX9_begins 10 = .ok (.aload_n 0, 1) := by decide +kernel
theorem dX9_begins_11 : decode cX9_begins 11 = .ok (.iconst 3, 1) := by decide +kernel
theorem dX9_begins_12 : decode cX9_begins 12 = .ok (.invokevirtual 111, 3) := by decide +kernel
theorem dX9_begins_15 : decode cX9_begins 15 = .ok (.aload_n 0, 1) := by decide +kernel
theorem dX9_begins_16 : decode cX9_begins 16 = .ok (.iconst 1, 1) := by decide +kernel
theorem dX9_begins_17 : decode cX9_begins 17 = .ok (.invokevirtual 119, 3) := by decide +kernel
theorem dX9_begins_20 : decode cX9_begins 20 = .ok (.return_, 1) := by decide +kernel
theorem dX9_readPerson_0 : decode cX9_readPerson 0 = .ok (.aload_n 0, 1) := by decide +kernel
theorem dX9_readPerson_1 : decode cX9_readPerson 1 = .ok (.iconst 2, 1) := by decide +kernel
theorem dX9_readPerson_2 : decode cX9_readPerson 2 = .ok (.iconst 4, 1) := by decide +kernel
theorem dX9_readPerson_3 : decode cX9_readPerson 3 = .ok (.invokevirtual 133, 3) := by decide +kernel
theorem dX9_readPerson_6 : decode cX9_readPerson 6 = .ok (.aload_n 0, 1) := by decide +kernel
theorem dX9_readPerson_7 : decode cX9_readPerson 7 = .ok (.invokevirtual 137, 3) := by decide +kernel
theorem dX9_readPerson_10 : decode cX9_readPerson 10 = .ok (.invokestatic 141, 3) := by decide +kernel
theorem dX9_readPerson_13 : decode cX9_readPerson 13 = .ok (.istore_n 1, 1) := by decide +kernel
theorem dX9_readPerson_14 : decode cX9_readPerson 14 = .ok (.aload_n 0, 1) := by decide +kernel
theorem dX9_readPerson_15 : decode cX9_readPerson 15 = .ok (.getfield 102, 3) := by decide +kernel
theorem dX9_readPerson_18 : decode cX9_readPerson 18 = .ok (.ifCond .ne 18, 3) := by decide +kernel
theorem dX9_readPerson_21 : decode cX9_readPerson 21 = .ok (.aload_n 0, 1) := by decide +kernel
theorem dX9_readPerson_22 : decode cX9_readPerson 22 = .ok (.iload_n 1, 1) := by decide +kernel
theorem dX9_readPerson_23 : decode cX9_readPerson 23 = .ok (.ldc 80, 2) := by decide +kernel
theorem dX9_readPerson_25 : decode cX9_readPerson 25 = .ok (.if_icmp .eq 7, 3) := by decide +kernel
theorem dX9_readPerson_28 : decode cX9_readPerson 28 = .ok (.iconst 1, 1) := by decide +kernel
theorem dX9_readPerson_29 : decode cX9_readPerson 29 = .ok (.goto 4, 3) := by decide +kernel
theorem dX9_readPerson_32 : decode cX9_readPerson 32 = .ok (.iconst 0, 1) := by decide +kernel
theorem dX9_readPerson_33 : decode cX9_readPerson 33 = .ok (.invokevirtual 119, 3) := by decide +kernel
theorem dX9_readPerson_36 : decode cX9_readPerson 36 = .ok (.aload_n 0, 1) := by decide +kernel
theorem dX9_readPerson_37 : decode cX9_readPerson 37 = .ok (.invokevirtual 145, 3) := by decide +kernel
theorem dX9_readPerson_40 : decode cX9_readPerson 40 = .ok (.aload_n 0, 1) := by decide +kernel
theorem dX9_readPerson_41 : decode cX9_readPerson 41 = .ok (.getfield 102, 3) := by decide +kernel
theorem dX9_readPerson_44 : decode cX9_readPerson 44 = .ok (.ifCond .ne 27, 3) := by decide +kernel
theorem dX9_readPerson_47 : decode cX9_readPerson 47 = .ok (.aload_n 0, 1) := by decide +kernel
theorem dX9_readPerson_48 : decode cX9_readPerson 48 = .ok (.getfield 22, 3) := by decide +kernel
theorem dX9_readPerson_51 : decode cX9_readPerson 51 = .ok (.iconst 4, 1) := by decide +kernel
theorem dX9_readPerson_52 : decode cX9_readPerson 52 = .ok (.aload_n 0, 1) := by decide +kernel
theorem dX9_readPerson_53 : decode cX9_readPerson 53 = .ok (.getfield 22, 3) := by decide +kernel
theorem dX9_readPerson_56 : decode cX9_readPerson 56 = .ok (.iconst 2, 1) := by decide +kernel
theorem dX9_readPerson_57 : decode cX9_readPerson 57 = .ok (.iaload, 1) := by decide +kernel
theorem dX9_readPerson_58 : decode cX9_readPerson 58 = .ok (.iadd, 1) := by decide +kernel
theorem dX9_readPerson_59 : decode cX9_readPerson 59 = .ok (.iload_n 1, 1) := by decide +kernel
theorem dX9_readPerson_60 : decode cX9_readPerson 60 = .ok (.iastore, 1) := by decide +kernel
theorem dX9_readPerson_61 : decode cX9_readPerson 61 = .ok (.aload_n 0, 1) := by decide +kernel
theorem dX9_readPerson_62 : decode cX9_readPerson 62 = .ok (.getfield 22, 3) := by decide +kernel
theorem dX9_readPerson_65 : decode cX9_readPerson 65 = .ok (.iconst 2, 1) := by decide +kernel
theorem dX9_readPerson_66 : decode cX9_readPerson 66 = .ok (.dup2, 1) := by decide +kernel
theorem dX9_readPerson_67 : decode cX9_readPerson 67 = .ok (.iaload, 1) := by decide +kernel
theorem dX9_readPerson_68 : decode cX9_readPerson 68 = .ok (.iconst 1, 1) := by decide +kernel
theorem dX9_readPerson_69 : decode cX9_readPerson 69 = .ok (.iadd, 1) := by decide +kernel
theorem dX9_readPerson_70 : decode cX9_readPerson 70 = .ok (.iastore, 1) := by decide +kernel
theorem dX9_readPerson_71 : decode cX9_readPerson 71 = .ok (.return_, 1) := by decide +kernel
theorem dX9_readThing_0 : decode cX9_readThing 0 = .ok (.aload_n 0, 1) := by decide +kernel
theorem dX9_readThing_1 : decode cX9_readThing 1 = .ok (.iconst 3, 1) := by decide +kernel
theorem dX9_readThing_2 : decode cX9_readThing 2 = .ok (.iconst 5, 1) := by decide +kernel
theorem dX9_readThing_3 : decode cX9_readThing 3 = .ok (.invokevirtual 133, 3) := by decide +kernel
theorem dX9_readThing_6 : decode cX9_readThing 6 = .ok (.aload_n 0, 1) := by decide +kernel
theorem dX9_readThing_7 : decode cX9_readThing 7 = .ok (.getfield 102, 3) := by decide +kernel
theorem dX9_readThing_10 : decode cX9_readThing 10 = .ok (.ifCond .ne 18, 3) := by decide +kernel
theorem dX9_readThing_13 : decode cX9_readThing 13 = .ok (.bipush 12, 2) := by decide +kernel
theorem dX9_readThing_15 : decode cX9_readThing 15 = .ok (.bipush 6, 2) := by decide +kernel
theorem dX9_readThing_17 : decode cX9_readThing 17 = .ok (.aload_n 0, 1) := by decide +kernel
theorem dX9_readThing_18 : decode cX9_readThing 18 = .ok (.getfield 22, 3) := by decide +kernel
theorem dX9_readThing_21 : decode cX9_readThing 21 = .ok (.iconst 3, 1) := by decide +kernel
theorem dX9_readThing_22 : decode cX9_readThing 22 = .ok (.iaload, 1) := by decide +kernel
theorem dX9_readThing_23 : decode cX9_readThing 23 = .ok (.imul, 1) := by decide +kernel
theorem dX9_readThing_24 : decode cX9_readThing 24 = .ok (.iadd, 1) := by decide +kernel
theorem dX9_readThing_25 : decode cX9_readThing 25 = .ok (.goto 5, 3) := by decide +kernel
theorem dX9_readThing_28 : decode cX9_readThing 28 = .ok (.bipush 12, 2) := by decide +kernel
theorem dX9_readThing_30 : decode cX9_readThing 30 = .ok (.istore_n 1, 1) := by decide +kernel
theorem dX9_readThing_31 : decode cX9_readThing 31 = .ok (.iconst 0, 1) := by decide +kernel
theorem dX9_readThing_32 : decode cX9_readThing 32 = .ok (.istore_n 2, 1) := by decide +kernel
theorem dX9_readThing_33 : decode cX9_readThing 33 = .ok (.iload_n 2, 1) := by decide +kernel
theorem dX9_readThing_34 : decode cX9_readThing 34 = .ok (.aload_n 0, 1) := by decide +kernel
theorem dX9_readThing_35 : decode cX9_readThing 35 = .ok (.getfield 22, 3) := by decide +kernel
theorem dX9_readThing_38 : decode cX9_readThing 38 = .ok (.iconst 2, 1) := by decide +kernel
theorem dX9_readThing_39 : decode cX9_readThing 39 = .ok (.iaload, 1) := by decide +kernel
theorem dX9_readThing_40 : decode cX9_readThing 40 = .ok (.if_icmp .ge 37, 3) := by decide +kernel
theorem dX9_readThing_43 : decode cX9_readThing 43 = .ok (.aload_n 0, 1) := by decide +kernel
theorem dX9_readThing_44 : decode cX9_readThing 44 = .ok (.iconst 0, 1) := by decide +kernel
theorem dX9_readThing_45 : decode cX9_readThing 45 = .ok (.bipush 60, 2) := by decide +kernel
theorem dX9_readThing_47 : decode cX9_readThing 47 = .ok (.invokevirtual 148, 3) := by decide +kernel
theorem dX9_readThing_50 : decode cX9_readThing 50 = .ok (.istore_n 3, 1) := by decide +kernel
theorem dX9_readThing_51 : decode cX9_readThing 51 = .ok (.aload_n 0, 1) := by decide +kernel
theorem dX9_readThing_52 : decode cX9_readThing 52 = .ok (.getfield 22, 3) := by decide +kernel
theorem dX9_readThing_55 : decode cX9_readThing 55 = .ok (.iload_n 1, 1) := by decide +kernel
theorem dX9_readThing_56 : decode cX9_readThing 56 = .ok (.iload_n 2, 1) := by decide +kernel
theorem dX9_readThing_57 : decode cX9_readThing 57 = .ok (.iadd, 1) := by decide +kernel
theorem dX9_readThing_58 : decode cX9_readThing 58 = .ok (.aload_n 0, 1) := by decide +kernel
theorem dX9_readThing_59 : decode cX9_readThing 59 = .ok (.getfield 102, 3) := by decide +kernel
theorem dX9_readThing_62 : decode cX9_readThing 62 = .ok (.ifCond .ne 7, 3) := by decide +kernel
theorem dX9_readThing_65 : decode cX9_readThing 65 = .ok (.iload_n 3, 1) := by decide +kernel
theorem dX9_readThing_66 : decode cX9_readThing 66 = .ok (.goto 4, 3) := by decide +kernel
theorem dX9_readThing_69 : decode cX9_readThing 69 = .ok (.iconst 0, 1) := by decide +kernel
theorem dX9_readThing_70 : decode cX9_readThing 70 = .ok (.iastore, 1) := by decide +kernel
theorem dX9_readThing_71 : decode cX9_readThing 71 = .ok (.iinc 2 1, 3) := by decide +kernel
theorem dX9_readThing_74 : decode cX9_readThing 74 = .ok (.goto (-41), 3) := by decide +kernel
theorem dX9_readThing_77 : decode cX9_readThing 77 = .ok (.aload_n 0, 1) := by decide +kernel
theorem dX9_readThing_78 : decode cX9_readThing 78 = .ok (.invokevirtual 145, 3) := by decide +kernel
theorem dX9_readThing_81 : decode cX9_readThing 81 = .ok (.aload_n 0, 1) := by decide +kernel
theorem dX9_readThing_82 : decode cX9_readThing 82 = .ok (.getfield 102, 3) := by decide +kernel
theorem dX9_readThing_85 : decode cX9_readThing 85 = .ok (.ifCond .ne 32, 3) := by decide +kernel
theorem dX9_readThing_88 : decode cX9_readThing 88 = .ok (.aload_n 0, 1) := by decide +kernel
theorem dX9_readThing_89 : decode cX9_readThing 89 = .ok (.getfield 22, 3) := by decide +kernel
theorem dX9_readThing_92 : decode cX9_readThing 92 = .ok (.iload_n 1, 1) := by decide +kernel
theorem dX9_readThing_93 : decode cX9_readThing 93 = .ok (.iconst 4, 1) := by decide +kernel
theorem dX9_readThing_94 : decode cX9_readThing 94 = .ok (.iadd, 1) := by decide +kernel
theorem dX9_readThing_95 : decode cX9_readThing 95 = .ok (.ldc 80, 2) := by decide +kernel
theorem dX9_readThing_97 : decode cX9_readThing 97 = .ok (.iastore, 1) := by decide +kernel
theorem dX9_readThing_98 : decode cX9_readThing 98 = .ok (.aload_n 0, 1) := by decide +kernel
theorem dX9_readThing_99 : decode cX9_readThing 99 = .ok (.getfield 22, 3) := by decide +kernel
theorem dX9_readThing_102 : decode cX9_readThing 102 = .ok (.iload_n 1, 1) := by decide +kernel
theorem dX9_readThing_103 : decode cX9_readThing 103 = .ok (.iconst 5, 1) := by decide +kernel
theorem dX9_readThing_104 : decode cX9_readThing 104 = .ok (.iadd, 1) := by decide +kernel
theorem dX9_readThing_105 : decode cX9_readThing 105 = .ok (.iconst 0, 1) := by decide +kernel
theorem dX9_readThing_106 : decode cX9_readThing 106 = .ok (.iastore, 1) := by decide +kernel
theorem dX9_readThing_107 : decode cX9_readThing 107 = .ok (.aload_n 0, 1) := by decide +kernel
theorem dX9_readThing_108 : decode cX9_readThing 108 = .ok (.getfield 22, 3) := by decide +kernel
theorem dX9_readThing_111 : decode cX9_readThing 111 = .ok (.iconst 3, 1) := by decide +kernel
theorem dX9_readThing_112 : decode cX9_readThing 112 = .ok (.dup2, 1) := by decide +kernel
theorem dX9_readThing_113 : decode cX9_readThing 113 = .ok (.iaload, 1) := by decide +kernel
theorem dX9_readThing_114 : decode cX9_readThing 114 = .ok (.iconst 1, 1) := by decide +kernel
theorem dX9_readThing_115 : decode cX9_readThing 115 = .ok (.iadd, 1) := by decide +kernel
theorem dX9_readThing_116 : decode cX9_readThing 116 = .ok (.iastore, 1) := by decide +kernel
theorem dX9_readThing_117 : decode cX9_readThing 117 = .ok (.return_, 1) := by decide +kernel
theorem dX9_town_0 : decode cX9_town 0 = .ok (.aload_n 0, 1) := by decide +kernel
theorem dX9_town_1 : decode cX9_town 1 = .ok (.iconst 0, 1) := by decide +kernel
theorem dX9_town_2 : decode cX9_town 2 = .ok (.putfield 44, 3) := by decide +kernel
theorem dX9_town_5 : decode cX9_town 5 = .ok (.aload_n 0, 1) := by decide +kernel
theorem dX9_town_6 : decode cX9_town 6 = .ok (.invokevirtual 152, 3) := by decide +kernel
theorem dX9_town_9 : decode cX9_town 9 = .ok (.iconst 0, 1) := by decide +kernel
theorem dX9_town_10 : decode cX9_town 10 = .ok (.istore_n 1, 1) := by decide +kernel
theorem dX9_town_11 : decode cX9_town 11 = .ok (.iload_n 1, 1) := by decide +kernel
theorem dX9_town_12 : decode cX9_town 12 = .ok (.bipush 42, 2) := by decide +kernel
theorem dX9_town_14 : decode cX9_town 14 = .ok (.if_icmp .ge 16, 3) := by decide +kernel
theorem dX9_town_17 : decode cX9_town 17 = .ok (.aload_n 0, 1) := by decide +kernel
theorem dX9_town_18 : decode cX9_town 18 = .ok (.getfield 22, 3) := by decide +kernel
theorem dX9_town_21 : decode cX9_town 21 = .ok (.iload_n 1, 1) := by decide +kernel
theorem dX9_town_22 : decode cX9_town 22 = .ok (.iconst 0, 1) := by decide +kernel
theorem dX9_town_23 : decode cX9_town 23 = .ok (.iastore, 1) := by decide +kernel
theorem dX9_town_24 : decode cX9_town 24 = .ok (.iinc 1 1, 3) := by decide +kernel
theorem dX9_town_27 : decode cX9_town 27 = .ok (.goto (-16), 3) := by decide +kernel
theorem dX9_town_30 : decode cX9_town 30 = .ok (.aload_n 0, 1) := by decide +kernel
theorem dX9_town_31 : decode cX9_town 31 = .ok (.aload_n 0, 1) := by decide +kernel
theorem dX9_town_32 : decode cX9_town 32 = .ok (.invokevirtual 137, 3) := by decide +kernel
theorem dX9_town_35 : decode cX9_town 35 = .ok (.ldc2_w 155, 3) := by decide +kernel
theorem dX9_town_38 : decode cX9_town 38 = .ok (.lcmp, 1) := by decide +kernel
theorem dX9_town_39 : decode cX9_town 39 = .ok (.ifCond .ne 7, 3) := by decide +kernel
theorem dX9_town_42 : decode cX9_town 42 = .ok (.iconst 1, 1) := by decide +kernel
theorem dX9_town_43 : decode cX9_town 43 = .ok (.goto 4, 3) := by decide +kernel
theorem dX9_town_46 : decode cX9_town 46 = .ok (.iconst 0, 1) := by decide +kernel
theorem dX9_town_47 : decode cX9_town 47 = .ok (.invokevirtual 119, 3) := by decide +kernel
theorem dX9_town_50 : decode cX9_town 50 = .ok (.aload_n 0, 1) := by decide +kernel
theorem dX9_town_51 : decode cX9_town 51 = .ok (.getfield 22, 3) := by decide +kernel
theorem dX9_town_54 : decode cX9_town 54 = .ok (.iconst 0, 1) := by decide +kernel
theorem dX9_town_55 : decode cX9_town 55 = .ok (.aload_n 0, 1) := by decide +kernel
theorem dX9_town_56 : decode cX9_town 56 = .ok (.iconst 0, 1) := by decide +kernel
theorem dX9_town_57 : decode cX9_town 57 = .ok (.iconst 3, 1) := by decide +kernel
theorem dX9_town_58 : decode cX9_town 58 = .ok (.invokevirtual 148, 3) := by decide +kernel
theorem dX9_town_61 : decode cX9_town 61 = .ok (.iastore, 1) := by decide +kernel
theorem dX9_town_62 : decode cX9_town 62 = .ok (.aload_n 0, 1) := by decide +kernel
theorem dX9_town_63 : decode cX9_town 63 = .ok (.getfield 22, 3) := by decide +kernel
theorem dX9_town_66 : decode cX9_town 66 = .ok (.iconst 1, 1) := by decide +kernel
theorem dX9_town_67 : decode cX9_town 67 = .ok (.aload_n 0, 1) := by decide +kernel
theorem dX9_town_68 : decode cX9_town 68 = .ok (.iconst 0, 1) := by decide +kernel
theorem dX9_town_69 : decode cX9_town 69 = .ok (.bipush 20, 2) := by decide +kernel
theorem dX9_town_71 : decode cX9_town 71 = .ok (.invokevirtual 148, 3) := by decide +kernel
theorem dX9_town_74 : decode cX9_town 74 = .ok (.iastore, 1) := by decide +kernel
theorem dX9_town_75 : decode cX9_town 75 = .ok (.aload_n 0, 1) := by decide +kernel
theorem dX9_town_76 : decode cX9_town 76 = .ok (.invokevirtual 145, 3) := by decide +kernel
theorem dX9_town_79 : decode cX9_town 79 = .ok (.aload_n 0, 1) := by decide +kernel
theorem dX9_town_80 : decode cX9_town 80 = .ok (.invokevirtual 137, 3) := by decide +kernel
theorem dX9_town_83 : decode cX9_town 83 = .ok (.ldc2_w 157, 3) := by decide +kernel
theorem dX9_town_86 : decode cX9_town 86 = .ok (.lcmp, 1) := by decide +kernel
theorem dX9_town_87 : decode cX9_town 87 = .ok (.ifCond .eq 8, 3) := by decide +kernel
theorem dX9_town_90 : decode cX9_town 90 = .ok (.aload_n 0, 1) := by decide +kernel
theorem dX9_town_91 : decode cX9_town 91 = .ok (.iconst 1, 1) := by decide +kernel
theorem dX9_town_92 : decode cX9_town 92 = .ok (.invokevirtual 111, 3) := by decide +kernel
theorem dX9_town_95 : decode cX9_town 95 = .ok (.aload_n 0, 1) := by decide +kernel
theorem dX9_town_96 : decode cX9_town 96 = .ok (.invokevirtual 137, 3) := by decide +kernel
theorem dX9_town_99 : decode cX9_town 99 = .ok (.ldc2_w 157, 3) := by decide +kernel
theorem dX9_town_102 : decode cX9_town 102 = .ok (.lcmp, 1) := by decide +kernel
theorem dX9_town_103 : decode cX9_town 103 = .ok (.ifCond .ne 10, 3) := by decide +kernel
theorem dX9_town_106 : decode cX9_town 106 = .ok (.aload_n 0, 1) := by decide +kernel
theorem dX9_town_107 : decode cX9_town 107 = .ok (.invokevirtual 159, 3) := by decide +kernel
theorem dX9_town_110 : decode cX9_town 110 = .ok (.goto (-15), 3) := by decide +kernel
theorem dX9_town_113 : decode cX9_town 113 = .ok (.aload_n 0, 1) := by decide +kernel
theorem dX9_town_114 : decode cX9_town 114 = .ok (.invokevirtual 137, 3) := by decide +kernel
theorem dX9_town_117 : decode cX9_town 117 = .ok (.ldc2_w 162, 3) := by decide +kernel
theorem dX9_town_120 : decode cX9_town 120 = .ok (.lcmp, 1) := by decide +kernel
theorem dX9_town_121 : decode cX9_town 121 = .ok (.ifCond .ne 10, 3) := by decide +kernel
theorem dX9_town_124 : decode cX9_town 124 = .ok (.aload_n 0, 1) := by decide +kernel
theorem dX9_town_125 : decode cX9_town 125 = .ok (.invokevirtual 164, 3) := by decide +kernel
theorem dX9_town_128 : decode cX9_town 128 = .ok (.goto (-15), 3) := by decide +kernel
theorem dX9_town_131 : decode cX9_town 131 = .ok (.aload_n 0, 1) := by decide +kernel
theorem dX9_town_132 : decode cX9_town 132 = .ok (.getfield 102, 3) := by decide +kernel
theorem dX9_town_135 : decode cX9_town 135 = .ok (.ifCond .ne 16, 3) := by decide +kernel
theorem dX9_town_138 : decode cX9_town 138 = .ok (.aload_n 0, 1) := by decide +kernel
theorem dX9_town_139 : decode cX9_town 139 = .ok (.getfield 90, 3) := by decide +kernel
theorem dX9_town_142 : decode cX9_town 142 = .ok (.iconst 1, 1) := by decide +kernel
theorem dX9_town_143 : decode cX9_town 143 = .ok (.if_icmp .eq 8, 3) := by decide +kernel
theorem dX9_town_146 : decode cX9_town 146 = .ok (.aload_n 0, 1) := by decide +kernel
theorem dX9_town_147 : decode cX9_town 147 = .ok (.iconst 1, 1) := by decide +kernel
theorem dX9_town_148 : decode cX9_town 148 = .ok (.invokevirtual 111, 3) := by decide +kernel
theorem dX9_town_151 : decode cX9_town 151 = .ok (.aload_n 0, 1) := by decide +kernel
theorem dX9_town_152 : decode cX9_town 152 = .ok (.getfield 102, 3) := by decide +kernel
theorem dX9_town_155 : decode cX9_town 155 = .ok (.ifCond .le 19, 3) := by decide +kernel
theorem dX9_town_158 : decode cX9_town 158 = .ok (.aload_n 0, 1) := by decide +kernel
theorem dX9_town_159 : decode cX9_town 159 = .ok (.aload_n 0, 1) := by decide +kernel
theorem dX9_town_160 : decode cX9_town 160 = .ok (.getfield 102, 3) := by decide +kernel
theorem dX9_town_163 : decode cX9_town 163 = .ok (.putfield 167, 3) := by decide +kernel
theorem dX9_town_166 : decode cX9_town 166 = .ok (.ldc 170, 2) := by decide +kernel
theorem dX9_town_168 : decode cX9_town 168 = .ok (.aload_n 0, 1) := by decide +kernel
theorem dX9_town_169 : decode cX9_town 169 = .ok (.getfield 108, 3) := by decide +kernel
theorem dX9_town_172 : decode cX9_town 172 = .ok (.isub, 1) := by decide +kernel
theorem dX9_town_173 : decode cX9_town 173 = .ok (.ireturn, 1) := by decide +kernel
theorem dX9_town_174 : decode cX9_town 174 = .ok (.aload_n 0, 1) := by decide +kernel
theorem dX9_town_175 : decode cX9_town 175 = .ok (.iconst 0, 1) := by decide +kernel
theorem dX9_town_176 : decode cX9_town 176 = .ok (.putfield 171, 3) := by decide +kernel
theorem dX9_town_179 : decode cX9_town 179 = .ok (.iconst 0, 1) := by decide +kernel
theorem dX9_town_180 : decode cX9_town 180 = .ok (.istore_n 1, 1) := by decide +kernel
theorem dX9_town_181 : decode cX9_town 181 = .ok (.iload_n 1, 1) := by decide +kernel
theorem dX9_town_182 : decode cX9_town 182 = .ok (.bipush 42, 2) := by decide +kernel
theorem dX9_town_184 : decode cX9_town 184 = .ok (.if_icmp .ge 21, 3) := by decide +kernel
theorem dX9_town_187 : decode cX9_town 187 = .ok (.aload_n 0, 1) := by decide +kernel
theorem dX9_town_188 : decode cX9_town 188 = .ok (.getfield 19, 3) := by decide +kernel
theorem dX9_town_191 : decode cX9_town 191 = .ok (.iload_n 1, 1) := by decide +kernel
theorem dX9_town_192 : decode cX9_town 192 = .ok (.aload_n 0, 1) := by decide +kernel
theorem dX9_town_193 : decode cX9_town 193 = .ok (.getfield 22, 3) := by decide +kernel
theorem dX9_town_196 : decode cX9_town 196 = .ok (.iload_n 1, 1) := by decide +kernel
theorem dX9_town_197 : decode cX9_town 197 = .ok (.iaload, 1) := by decide +kernel
theorem dX9_town_198 : decode cX9_town 198 = .ok (.iastore, 1) := by decide +kernel
theorem dX9_town_199 : decode cX9_town 199 = .ok (.iinc 1 1, 3) := by decide +kernel
theorem dX9_town_202 : decode cX9_town 202 = .ok (.goto (-21), 3) := by decide +kernel
theorem dX9_town_205 : decode cX9_town 205 = .ok (.aload_n 0, 1) := by decide +kernel
theorem dX9_town_206 : decode cX9_town 206 = .ok (.getfield 19, 3) := by decide +kernel
theorem dX9_town_209 : decode cX9_town 209 = .ok (.iconst 2, 1) := by decide +kernel
theorem dX9_town_210 : decode cX9_town 210 = .ok (.iaload, 1) := by decide +kernel
theorem dX9_town_211 : decode cX9_town 211 = .ok (.ireturn, 1) := by decide +kernel
theorem dX9_fault_0 : decode cX9_fault 0 = .ok (.aload_n 0, 1) := by decide +kernel
theorem dX9_fault_1 : decode cX9_fault 1 = .ok (.iconst 0, 1) := by decide +kernel
theorem dX9_fault_2 : decode cX9_fault 2 = .ok (.putfield 44, 3) := by decide +kernel
theorem dX9_fault_5 : decode cX9_fault 5 = .ok (.aload_n 0, 1) := by decide +kernel
theorem dX9_fault_6 : decode cX9_fault 6 = .ok (.getfield 167, 3) := by decide +kernel
theorem dX9_fault_9 : decode cX9_fault 9 = .ok (.ireturn, 1) := by decide +kernel
theorem dX9_isThere_0 : decode cX9_isThere 0 = .ok (.aload_n 0, 1) := by decide +kernel
theorem dX9_isThere_1 : decode cX9_isThere 1 = .ok (.getfield 19, 3) := by decide +kernel
theorem dX9_isThere_4 : decode cX9_isThere 4 = .ok (.iconst 2, 1) := by decide +kernel
theorem dX9_isThere_5 : decode cX9_isThere 5 = .ok (.iaload, 1) := by decide +kernel
theorem dX9_isThere_6 : decode cX9_isThere 6 = .ok (.ifCond .le 7, 3) := by decide +kernel
theorem dX9_isThere_9 : decode cX9_isThere 9 = .ok (.iconst 1, 1) := by decide +kernel
theorem dX9_isThere_10 : decode cX9_isThere 10 = .ok (.goto 4, 3) := by decide +kernel
theorem dX9_isThere_13 : decode cX9_isThere 13 = .ok (.iconst 0, 1) := by decide +kernel
theorem dX9_isThere_14 : decode cX9_isThere 14 = .ok (.ireturn, 1) := by decide +kernel
theorem dX9_isPerson_0 : decode cX9_isPerson 0 = .ok (.iload_n 1, 1) := by decide +kernel
theorem dX9_isPerson_1 : decode cX9_isPerson 1 = .ok (.i2l, 1) := by decide +kernel
theorem dX9_isPerson_2 : decode cX9_isPerson 2 = .ok (.lconst 0, 1) := by decide +kernel
theorem dX9_isPerson_3 : decode cX9_isPerson 3 = .ok (.aload_n 0, 1) := by decide +kernel
theorem dX9_isPerson_4 : decode cX9_isPerson 4 = .ok (.getfield 19, 3) := by decide +kernel
theorem dX9_isPerson_7 : decode cX9_isPerson 7 = .ok (.iconst 2, 1) := by decide +kernel
theorem dX9_isPerson_8 : decode cX9_isPerson 8 = .ok (.iaload, 1) := by decide +kernel
theorem dX9_isPerson_9 : decode cX9_isPerson 9 = .ok (.iconst 1, 1) := by decide +kernel
theorem dX9_isPerson_10 : decode cX9_isPerson 10 = .ok (.isub, 1) := by decide +kernel
theorem dX9_isPerson_11 : decode cX9_isPerson 11 = .ok (.i2l, 1) := by decide +kernel
theorem dX9_isPerson_12 : decode cX9_isPerson 12 = .ok (.invokestatic 54, 3) := by decide +kernel
theorem dX9_isPerson_15 : decode cX9_isPerson 15 = .ok (.ireturn, 1) := by decide +kernel
theorem dX9_isThing_0 : decode cX9_isThing 0 = .ok (.iload_n 1, 1) := by decide +kernel
theorem dX9_isThing_1 : decode cX9_isThing 1 = .ok (.i2l, 1) := by decide +kernel
theorem dX9_isThing_2 : decode cX9_isThing 2 = .ok (.lconst 0, 1) := by decide +kernel
theorem dX9_isThing_3 : decode cX9_isThing 3 = .ok (.aload_n 0, 1) := by decide +kernel
theorem dX9_isThing_4 : decode cX9_isThing 4 = .ok (.getfield 19, 3) := by decide +kernel
theorem dX9_isThing_7 : decode cX9_isThing 7 = .ok (.iconst 3, 1) := by decide +kernel
theorem dX9_isThing_8 : decode cX9_isThing 8 = .ok (.iaload, 1) := by decide +kernel
theorem dX9_isThing_9 : decode cX9_isThing 9 = .ok (.iconst 1, 1) := by decide +kernel
theorem dX9_isThing_10 : decode cX9_isThing 10 = .ok (.isub, 1) := by decide +kernel
theorem dX9_isThing_11 : decode cX9_isThing 11 = .ok (.i2l, 1) := by decide +kernel
theorem dX9_isThing_12 : decode cX9_isThing 12 = .ok (.invokestatic 54, 3) := by decide +kernel
theorem dX9_isThing_15 : decode cX9_isThing 15 = .ok (.ireturn, 1) := by decide +kernel
theorem dX9_isSeed_0 : decode cX9_isSeed 0 = .ok (.iload_n 0, 1) := by decide +kernel
theorem dX9_isSeed_1 : decode cX9_isSeed 1 = .ok (.i2l, 1) := by decide +kernel
theorem dX9_isSeed_2 : decode cX9_isSeed 2 = .ok (.lconst 1, 1) := by decide +kernel
theorem dX9_isSeed_3 : decode cX9_isSeed 3 = .ok (.ldc2_w 174, 3) := by decide +kernel
theorem dX9_isSeed_6 : decode cX9_isSeed 6 = .ok (.invokestatic 54, 3) := by decide +kernel
theorem dX9_isSeed_9 : decode cX9_isSeed 9 = .ok (.ireturn, 1) := by decide +kernel
theorem dX9_of_0 : decode cX9_of 0 = .ok (.aload_n 0, 1) := by decide +kernel
theorem dX9_of_1 : decode cX9_of 1 = .ok (.getfield 19, 3) := by decide +kernel
theorem dX9_of_4 : decode cX9_of 4 = .ok (.bipush 12, 2) := by decide +kernel
theorem dX9_of_6 : decode cX9_of 6 = .ok (.bipush 6, 2) := by decide +kernel
theorem dX9_of_8 : decode cX9_of 8 = .ok (.iload_n 1, 1) := by decide +kernel
theorem dX9_of_9 : decode cX9_of 9 = .ok (.imul, 1) := by decide +kernel
theorem dX9_of_10 : decode cX9_of 10 = .ok (.iadd, 1) := by decide +kernel
theorem dX9_of_11 : decode cX9_of 11 = .ok (.iload_n 2, 1) := by decide +kernel
theorem dX9_of_12 : decode cX9_of 12 = .ok (.iadd, 1) := by decide +kernel
theorem dX9_of_13 : decode cX9_of 13 = .ok (.iaload, 1) := by decide +kernel
theorem dX9_of_14 : decode cX9_of 14 = .ok (.ireturn, 1) := by decide +kernel
theorem dX9_worthOf_0 : decode cX9_worthOf 0 = .ok (.aload_n 0, 1) := by decide +kernel
theorem dX9_worthOf_1 : decode cX9_worthOf 1 = .ok (.iload_n 1, 1) := by decide +kernel
theorem dX9_worthOf_2 : decode cX9_worthOf 2 = .ok (.iload_n 2, 1) := by decide +kernel
theorem dX9_worthOf_3 : decode cX9_worthOf 3 = .ok (.invokevirtual 176, 3) := by decide +kernel
theorem dX9_worthOf_6 : decode cX9_worthOf 6 = .ok (.bipush 30, 2) := by decide +kernel
theorem dX9_worthOf_8 : decode cX9_worthOf 8 = .ok (.isub, 1) := by decide +kernel
theorem dX9_worthOf_9 : decode cX9_worthOf 9 = .ok (.iconst 2, 1) := by decide +kernel
theorem dX9_worthOf_10 : decode cX9_worthOf 10 = .ok (.aload_n 0, 1) := by decide +kernel
theorem dX9_worthOf_11 : decode cX9_worthOf 11 = .ok (.iload_n 1, 1) := by decide +kernel
theorem dX9_worthOf_12 : decode cX9_worthOf 12 = .ok (.iconst 5, 1) := by decide +kernel
theorem dX9_worthOf_13 : decode cX9_worthOf 13 = .ok (.invokevirtual 176, 3) := by decide +kernel
theorem dX9_worthOf_16 : decode cX9_worthOf 16 = .ok (.imul, 1) := by decide +kernel
theorem dX9_worthOf_17 : decode cX9_worthOf 17 = .ok (.isub, 1) := by decide +kernel
theorem dX9_worthOf_18 : decode cX9_worthOf 18 = .ok (.ireturn, 1) := by decide +kernel
theorem dX9_ownOf_0 : decode cX9_ownOf 0 = .ok (.bipush 30, 2) := by decide +kernel
theorem dX9_ownOf_2 : decode cX9_ownOf 2 = .ok (.aload_n 0, 1) := by decide +kernel
theorem dX9_ownOf_3 : decode cX9_ownOf 3 = .ok (.iload_n 1, 1) := by decide +kernel
theorem dX9_ownOf_4 : decode cX9_ownOf 4 = .ok (.iload_n 2, 1) := by decide +kernel
theorem dX9_ownOf_5 : decode cX9_ownOf 5 = .ok (.invokevirtual 179, 3) := by decide +kernel
theorem dX9_ownOf_8 : decode cX9_ownOf 8 = .ok (.iadd, 1) := by decide +kernel
theorem dX9_ownOf_9 : decode cX9_ownOf 9 = .ok (.bipush 10, 2) := by decide +kernel
theorem dX9_ownOf_11 : decode cX9_ownOf 11 = .ok (.idiv, 1) := by decide +kernel
theorem dX9_ownOf_12 : decode cX9_ownOf 12 = .ok (.istore_n 3, 1) := by decide +kernel
theorem dX9_ownOf_13 : decode cX9_ownOf 13 = .ok (.iload_n 3, 1) := by decide +kernel
theorem dX9_ownOf_14 : decode cX9_ownOf 14 = .ok (.ifCond .ge 7, 3) := by decide +kernel
theorem dX9_ownOf_17 : decode cX9_ownOf 17 = .ok (.iconst 0, 1) := by decide +kernel
theorem dX9_ownOf_18 : decode cX9_ownOf 18 = .ok (.goto 13, 3) := by decide +kernel
theorem dX9_ownOf_21 : decode cX9_ownOf 21 = .ok (.iload_n 3, 1) := by decide +kernel
theorem dX9_ownOf_22 : decode cX9_ownOf 22 = .ok (.iconst 5, 1) := by decide +kernel
theorem dX9_ownOf_23 : decode cX9_ownOf 23 = .ok (.if_icmp .le 7, 3) := by decide +kernel
theorem dX9_ownOf_26 : decode cX9_ownOf 26 = .ok (.iconst 5, 1) := by decide +kernel
theorem dX9_ownOf_27 : decode cX9_ownOf 27 = .ok (.goto 4, 3) := by decide +kernel
theorem dX9_ownOf_30 : decode cX9_ownOf 30 = .ok (.iload_n 3, 1) := by decide +kernel
theorem dX9_ownOf_31 : decode cX9_ownOf 31 = .ok (.istore_n 3, 1) := by decide +kernel
theorem dX9_ownOf_32 : decode cX9_ownOf 32 = .ok (.aload_n 0, 1) := by decide +kernel
theorem dX9_ownOf_33 : decode cX9_ownOf 33 = .ok (.getfield 19, 3) := by decide +kernel
theorem dX9_ownOf_36 : decode cX9_ownOf 36 = .ok (.iconst 4, 1) := by decide +kernel
theorem dX9_ownOf_37 : decode cX9_ownOf 37 = .ok (.iload_n 2, 1) := by decide +kernel
theorem dX9_ownOf_38 : decode cX9_ownOf 38 = .ok (.iadd, 1) := by decide +kernel
theorem dX9_ownOf_39 : decode cX9_ownOf 39 = .ok (.iaload, 1) := by decide +kernel
theorem dX9_ownOf_40 : decode cX9_ownOf 40 = .ok (.tableswitch 61 2 5 #[32, 36, 48, 59], 32) := by decide +kernel
theorem dX9_ownOf_72 : decode cX9_ownOf 72 = .ok (.iconst 5, 1) := by decide +kernel
theorem dX9_ownOf_73 : decode cX9_ownOf 73 = .ok (.iload_n 3, 1) := by decide +kernel
theorem dX9_ownOf_74 : decode cX9_ownOf 74 = .ok (.isub, 1) := by decide +kernel
theorem dX9_ownOf_75 : decode cX9_ownOf 75 = .ok (.ireturn, 1) := by decide +kernel
theorem dX9_ownOf_76 : decode cX9_ownOf 76 = .ok (.iload_n 3, 1) := by decide +kernel
theorem dX9_ownOf_77 : decode cX9_ownOf 77 = .ok (.ifCond .ne 7, 3) := by decide +kernel
theorem dX9_ownOf_80 : decode cX9_ownOf 80 = .ok (.iconst 0, 1) := by decide +kernel
theorem dX9_ownOf_81 : decode cX9_ownOf 81 = .ok (.goto 6, 3) := by decide +kernel
theorem dX9_ownOf_84 : decode cX9_ownOf 84 = .ok (.iload_n 3, 1) := by decide +kernel
theorem dX9_ownOf_85 : decode cX9_ownOf 85 = .ok (.iconst 1, 1) := by decide +kernel
theorem dX9_ownOf_86 : decode cX9_ownOf 86 = .ok (.isub, 1) := by decide +kernel
theorem dX9_ownOf_87 : decode cX9_ownOf 87 = .ok (.ireturn, 1) := by decide +kernel
theorem dX9_ownOf_88 : decode cX9_ownOf 88 = .ok (.iload_n 3, 1) := by decide +kernel
theorem dX9_ownOf_89 : decode cX9_ownOf 89 = .ok (.iconst 3, 1) := by decide +kernel
theorem dX9_ownOf_90 : decode cX9_ownOf 90 = .ok (.if_icmp .ge 7, 3) := by decide +kernel
theorem dX9_ownOf_93 : decode cX9_ownOf 93 = .ok (.iconst 3, 1) := by decide +kernel
theorem dX9_ownOf_94 : decode cX9_ownOf 94 = .ok (.goto 4, 3) := by decide +kernel
theorem dX9_ownOf_97 : decode cX9_ownOf 97 = .ok (.iload_n 3, 1) := by decide +kernel
theorem dX9_ownOf_98 : decode cX9_ownOf 98 = .ok (.ireturn, 1) := by decide +kernel
theorem dX9_ownOf_99 : decode cX9_ownOf 99 = .ok (.iconst 0, 1) := by decide +kernel
theorem dX9_ownOf_100 : decode cX9_ownOf 100 = .ok (.ireturn, 1) := by decide +kernel
theorem dX9_ownOf_101 : decode cX9_ownOf 101 = .ok (.iload_n 3, 1) := by decide +kernel
theorem dX9_ownOf_102 : decode cX9_ownOf 102 = .ok (.ireturn, 1) := by decide +kernel
theorem dX9_layOwn_0 : decode cX9_layOwn 0 = .ok (.iconst 0, 1) := by decide +kernel
theorem dX9_layOwn_1 : decode cX9_layOwn 1 = .ok (.istore_n 2, 1) := by decide +kernel
theorem dX9_layOwn_2 : decode cX9_layOwn 2 = .ok (.iload_n 2, 1) := by decide +kernel
theorem dX9_layOwn_3 : decode cX9_layOwn 3 = .ok (.aload_n 0, 1) := by decide +kernel
theorem dX9_layOwn_4 : decode cX9_layOwn 4 = .ok (.getfield 19, 3) := by decide +kernel
theorem dX9_layOwn_7 : decode cX9_layOwn 7 = .ok (.iconst 2, 1) := by decide +kernel
theorem dX9_layOwn_8 : decode cX9_layOwn 8 = .ok (.iaload, 1) := by decide +kernel
theorem dX9_layOwn_9 : decode cX9_layOwn 9 = .ok (.if_icmp .ge 21, 3) := by decide +kernel
theorem dX9_layOwn_12 : decode cX9_layOwn 12 = .ok (.aload_n 0, 1) := by decide +kernel
theorem dX9_layOwn_13 : decode cX9_layOwn 13 = .ok (.getfield 31, 3) := by decide +kernel
theorem dX9_layOwn_16 : decode cX9_layOwn 16 = .ok (.iload_n 2, 1) := by decide +kernel
theorem dX9_layOwn_17 : decode cX9_layOwn 17 = .ok (.aload_n 0, 1) := by decide +kernel
theorem dX9_layOwn_18 : decode cX9_layOwn 18 = .ok (.iload_n 1, 1) := by decide +kernel
theorem dX9_layOwn_19 : decode cX9_layOwn 19 = .ok (.iload_n 2, 1) := by decide +kernel
theorem dX9_layOwn_20 : decode cX9_layOwn 20 = .ok (.invokevirtual 182, 3) := by decide +kernel
theorem dX9_layOwn_23 : decode cX9_layOwn 23 = .ok (.iastore, 1) := by decide +kernel
theorem dX9_layOwn_24 : decode cX9_layOwn 24 = .ok (.iinc 2 1, 3) := by decide +kernel
theorem dX9_layOwn_27 : decode cX9_layOwn 27 = .ok (.goto (-25), 3) := by decide +kernel
theorem dX9_layOwn_30 : decode cX9_layOwn 30 = .ok (.return_, 1) := by decide +kernel
theorem dX9_barred_0 : decode cX9_barred 0 = .ok (.aload_n 0, 1) := by decide +kernel
theorem dX9_barred_1 : decode cX9_barred 1 = .ok (.getfield 7, 3) := by decide +kernel
theorem dX9_barred_4 : decode cX9_barred 4 = .ok (.iload_n 1, 1) := by decide +kernel
theorem dX9_barred_5 : decode cX9_barred 5 = .ok (.iaload, 1) := by decide +kernel
theorem dX9_barred_6 : decode cX9_barred 6 = .ok (.ifCond .ge 9, 3) := by decide +kernel
theorem dX9_barred_9 : decode cX9_barred 9 = .ok (.aload_n 0, 1) := by decide +kernel
theorem dX9_barred_10 : decode cX9_barred 10 = .ok (.iconst 1, 1) := by decide +kernel
theorem dX9_barred_11 : decode cX9_barred 11 = .ok (.invokevirtual 65, 3) := by decide +kernel
theorem dX9_barred_14 : decode cX9_barred 14 = .ok (.ireturn, 1) := by decide +kernel
theorem dX9_barred_15 : decode cX9_barred 15 = .ok (.aload_n 0, 1) := by decide +kernel
theorem dX9_barred_16 : decode cX9_barred 16 = .ok (.getfield 19, 3) := by decide +kernel
theorem dX9_barred_19 : decode cX9_barred 19 = .ok (.iconst 2, 1) := by decide +kernel
theorem dX9_barred_20 : decode cX9_barred 20 = .ok (.iaload, 1) := by decide +kernel
theorem dX9_barred_21 : decode cX9_barred 21 = .ok (.aload_n 0, 1) := by decide +kernel
theorem dX9_barred_22 : decode cX9_barred 22 = .ok (.getfield 13, 3) := by decide +kernel
theorem dX9_barred_25 : decode cX9_barred 25 = .ok (.iload_n 1, 1) := by decide +kernel
theorem dX9_barred_26 : decode cX9_barred 26 = .ok (.iaload, 1) := by decide +kernel
theorem dX9_barred_27 : decode cX9_barred 27 = .ok (.if_icmp .le 9, 3) := by decide +kernel
theorem dX9_barred_30 : decode cX9_barred 30 = .ok (.aload_n 0, 1) := by decide +kernel
theorem dX9_barred_31 : decode cX9_barred 31 = .ok (.iconst 2, 1) := by decide +kernel
theorem dX9_barred_32 : decode cX9_barred 32 = .ok (.invokevirtual 65, 3) := by decide +kernel
theorem dX9_barred_35 : decode cX9_barred 35 = .ok (.ireturn, 1) := by decide +kernel
theorem dX9_barred_36 : decode cX9_barred 36 = .ok (.iconst 0, 1) := by decide +kernel
theorem dX9_barred_37 : decode cX9_barred 37 = .ok (.istore_n 2, 1) := by decide +kernel
theorem dX9_barred_38 : decode cX9_barred 38 = .ok (.iload_n 2, 1) := by decide +kernel
theorem dX9_barred_39 : decode cX9_barred 39 = .ok (.aload_n 0, 1) := by decide +kernel
theorem dX9_barred_40 : decode cX9_barred 40 = .ok (.getfield 19, 3) := by decide +kernel
theorem dX9_barred_43 : decode cX9_barred 43 = .ok (.iconst 2, 1) := by decide +kernel
theorem dX9_barred_44 : decode cX9_barred 44 = .ok (.iaload, 1) := by decide +kernel
theorem dX9_barred_45 : decode cX9_barred 45 = .ok (.if_icmp .ge 51, 3) := by decide +kernel
theorem dX9_barred_48 : decode cX9_barred 48 = .ok (.aload_n 0, 1) := by decide +kernel
theorem dX9_barred_49 : decode cX9_barred 49 = .ok (.getfield 16, 3) := by decide +kernel
theorem dX9_barred_52 : decode cX9_barred 52 = .ok (.bipush 40, 2) := by decide +kernel
theorem dX9_barred_54 : decode cX9_barred 54 = .ok (.iload_n 1, 1) := by decide +kernel
theorem dX9_barred_55 : decode cX9_barred 55 = .ok (.imul, 1) := by decide +kernel
theorem dX9_barred_56 : decode cX9_barred 56 = .ok (.iload_n 2, 1) := by decide +kernel
theorem dX9_barred_57 : decode cX9_barred 57 = .ok (.iadd, 1) := by decide +kernel
theorem dX9_barred_58 : decode cX9_barred 58 = .ok (.iaload, 1) := by decide +kernel
theorem dX9_barred_59 : decode cX9_barred 59 = .ok (.i2l, 1) := by decide +kernel
theorem dX9_barred_60 : decode cX9_barred 60 = .ok (.lconst 0, 1) := by decide +kernel
theorem dX9_barred_61 : decode cX9_barred 61 = .ok (.ldc2_w 185, 3) := by decide +kernel
theorem dX9_barred_64 : decode cX9_barred 64 = .ok (.invokestatic 54, 3) := by decide +kernel
theorem dX9_barred_67 : decode cX9_barred 67 = .ok (.ifCond .ne 6, 3) := by decide +kernel
theorem dX9_barred_70 : decode cX9_barred 70 = .ok (.ldc 64, 2) := by decide +kernel
theorem dX9_barred_72 : decode cX9_barred 72 = .ok (.ireturn, 1) := by decide +kernel
theorem dX9_barred_73 : decode cX9_barred 73 = .ok (.aload_n 0, 1) := by decide +kernel
theorem dX9_barred_74 : decode cX9_barred 74 = .ok (.getfield 31, 3) := by decide +kernel
theorem dX9_barred_77 : decode cX9_barred 77 = .ok (.iload_n 2, 1) := by decide +kernel
theorem dX9_barred_78 : decode cX9_barred 78 = .ok (.aload_n 0, 1) := by decide +kernel
theorem dX9_barred_79 : decode cX9_barred 79 = .ok (.getfield 16, 3) := by decide +kernel
theorem dX9_barred_82 : decode cX9_barred 82 = .ok (.bipush 40, 2) := by decide +kernel
theorem dX9_barred_84 : decode cX9_barred 84 = .ok (.iload_n 1, 1) := by decide +kernel
theorem dX9_barred_85 : decode cX9_barred 85 = .ok (.imul, 1) := by decide +kernel
theorem dX9_barred_86 : decode cX9_barred 86 = .ok (.iload_n 2, 1) := by decide +kernel
theorem dX9_barred_87 : decode cX9_barred 87 = .ok (.iadd, 1) := by decide +kernel
theorem dX9_barred_88 : decode cX9_barred 88 = .ok (.iaload, 1) := by decide +kernel
theorem dX9_barred_89 : decode cX9_barred 89 = .ok (.iastore, 1) := by decide +kernel
theorem dX9_barred_90 : decode cX9_barred 90 = .ok (.iinc 2 1, 3) := by decide +kernel
theorem dX9_barred_93 : decode cX9_barred 93 = .ok (.goto (-55), 3) := by decide +kernel
theorem dX9_barred_96 : decode cX9_barred 96 = .ok (.aload_n 0, 1) := by decide +kernel
theorem dX9_barred_97 : decode cX9_barred 97 = .ok (.iconst 0, 1) := by decide +kernel
theorem dX9_barred_98 : decode cX9_barred 98 = .ok (.putfield 48, 3) := by decide +kernel
theorem dX9_barred_101 : decode cX9_barred 101 = .ok (.iconst 0, 1) := by decide +kernel
theorem dX9_barred_102 : decode cX9_barred 102 = .ok (.ireturn, 1) := by decide +kernel
theorem dX9_leastBut_0 : decode cX9_leastBut 0 = .ok (.ldc 80, 2) := by decide +kernel
theorem dX9_leastBut_2 : decode cX9_leastBut 2 = .ok (.istore_n 2, 1) := by decide +kernel
theorem dX9_leastBut_3 : decode cX9_leastBut 3 = .ok (.iconst 0, 1) := by decide +kernel
theorem dX9_leastBut_4 : decode cX9_leastBut 4 = .ok (.istore_n 3, 1) := by decide +kernel
theorem dX9_leastBut_5 : decode cX9_leastBut 5 = .ok (.iload_n 3, 1) := by decide +kernel
theorem dX9_leastBut_6 : decode cX9_leastBut 6 = .ok (.aload_n 0, 1) := by decide +kernel
theorem dX9_leastBut_7 : decode cX9_leastBut 7 = .ok (.getfield 19, 3) := by decide +kernel
theorem dX9_leastBut_10 : decode cX9_leastBut 10 = .ok (.iconst 2, 1) := by decide +kernel
theorem dX9_leastBut_11 : decode cX9_leastBut 11 = .ok (.iaload, 1) := by decide +kernel
theorem dX9_leastBut_12 : decode cX9_leastBut 12 = .ok (.if_icmp .ge 41, 3) := by decide +kernel
theorem dX9_leastBut_15 : decode cX9_leastBut 15 = .ok (.iload_n 3, 1) := by decide +kernel
theorem dX9_leastBut_16 : decode cX9_leastBut 16 = .ok (.iload_n 1, 1) := by decide +kernel
theorem dX9_leastBut_17 : decode cX9_leastBut 17 = .ok (.if_icmp .eq 28, 3) := by decide +kernel
theorem dX9_leastBut_20 : decode cX9_leastBut 20 = .ok (.iload_n 2, 1) := by decide +kernel
theorem dX9_leastBut_21 : decode cX9_leastBut 21 = .ok (.ldc 80, 2) := by decide +kernel
theorem dX9_leastBut_23 : decode cX9_leastBut 23 = .ok (.if_icmp .eq 13, 3) := by decide +kernel
theorem dX9_leastBut_26 : decode cX9_leastBut 26 = .ok (.aload_n 0, 1) := by decide +kernel
theorem dX9_leastBut_27 : decode cX9_leastBut 27 = .ok (.getfield 31, 3) := by decide +kernel
theorem dX9_leastBut_30 : decode cX9_leastBut 30 = .ok (.iload_n 3, 1) := by decide +kernel
theorem dX9_leastBut_31 : decode cX9_leastBut 31 = .ok (.iaload, 1) := by decide +kernel
theorem dX9_leastBut_32 : decode cX9_leastBut 32 = .ok (.iload_n 2, 1) := by decide +kernel
theorem dX9_leastBut_33 : decode cX9_leastBut 33 = .ok (.if_icmp .ge 12, 3) := by decide +kernel
theorem dX9_leastBut_36 : decode cX9_leastBut 36 = .ok (.aload_n 0, 1) := by decide +kernel
theorem dX9_leastBut_37 : decode cX9_leastBut 37 = .ok (.getfield 31, 3) := by decide +kernel
theorem dX9_leastBut_40 : decode cX9_leastBut 40 = .ok (.iload_n 3, 1) := by decide +kernel
theorem dX9_leastBut_41 : decode cX9_leastBut 41 = .ok (.iaload, 1) := by decide +kernel
theorem dX9_leastBut_42 : decode cX9_leastBut 42 = .ok (.goto 4, 3) := by decide +kernel
theorem dX9_leastBut_45 : decode cX9_leastBut 45 = .ok (.iload_n 2, 1) := by decide +kernel
theorem dX9_leastBut_46 : decode cX9_leastBut 46 = .ok (.istore_n 2, 1) := by decide +kernel
theorem dX9_leastBut_47 : decode cX9_leastBut 47 = .ok (.iinc 3 1, 3) := by decide +kernel
theorem dX9_leastBut_50 : decode cX9_leastBut 50 = .ok (.goto (-45), 3) := by decide +kernel
theorem dX9_leastBut_53 : decode cX9_leastBut 53 = .ok (.iload_n 2, 1) := by decide +kernel
theorem dX9_leastBut_54 : decode cX9_leastBut 54 = .ok (.ldc 80, 2) := by decide +kernel
theorem dX9_leastBut_56 : decode cX9_leastBut 56 = .ok (.if_icmp .ne 7, 3) := by decide +kernel
theorem dX9_leastBut_59 : decode cX9_leastBut 59 = .ok (.iconst 0, 1) := by decide +kernel
theorem dX9_leastBut_60 : decode cX9_leastBut 60 = .ok (.goto 4, 3) := by decide +kernel
theorem dX9_leastBut_63 : decode cX9_leastBut 63 = .ok (.iload_n 2, 1) := by decide +kernel
theorem dX9_leastBut_64 : decode cX9_leastBut 64 = .ok (.ireturn, 1) := by decide +kernel
theorem dX9_likeOnes_0 : decode cX9_likeOnes 0 = .ok (.aload_n 0, 1) := by decide +kernel
theorem dX9_likeOnes_1 : decode cX9_likeOnes 1 = .ok (.ldc 80, 2) := by decide +kernel
theorem dX9_likeOnes_3 : decode cX9_likeOnes 3 = .ok (.invokevirtual 187, 3) := by decide +kernel
theorem dX9_likeOnes_6 : decode cX9_likeOnes 6 = .ok (.istore_n 1, 1) := by decide +kernel
theorem dX9_likeOnes_7 : decode cX9_likeOnes 7 = .ok (.iconst 0, 1) := by decide +kernel
theorem dX9_likeOnes_8 : decode cX9_likeOnes 8 = .ok (.istore_n 2, 1) := by decide +kernel
theorem dX9_likeOnes_9 : decode cX9_likeOnes 9 = .ok (.iconst 0, 1) := by decide +kernel
theorem dX9_likeOnes_10 : decode cX9_likeOnes 10 = .ok (.istore_n 3, 1) := by decide +kernel
theorem dX9_likeOnes_11 : decode cX9_likeOnes 11 = .ok (.iload_n 3, 1) := by decide +kernel
theorem dX9_likeOnes_12 : decode cX9_likeOnes 12 = .ok (.aload_n 0, 1) := by decide +kernel
theorem dX9_likeOnes_13 : decode cX9_likeOnes 13 = .ok (.getfield 19, 3) := by decide +kernel
theorem dX9_likeOnes_16 : decode cX9_likeOnes 16 = .ok (.iconst 2, 1) := by decide +kernel
theorem dX9_likeOnes_17 : decode cX9_likeOnes 17 = .ok (.iaload, 1) := by decide +kernel
theorem dX9_likeOnes_18 : decode cX9_likeOnes 18 = .ok (.if_icmp .ge 27, 3) := by decide +kernel
theorem dX9_likeOnes_21 : decode cX9_likeOnes 21 = .ok (.iload_n 2, 1) := by decide +kernel
theorem dX9_likeOnes_22 : decode cX9_likeOnes 22 = .ok (.aload_n 0, 1) := by decide +kernel
theorem dX9_likeOnes_23 : decode cX9_likeOnes 23 = .ok (.getfield 31, 3) := by decide +kernel
theorem dX9_likeOnes_26 : decode cX9_likeOnes 26 = .ok (.iload_n 3, 1) := by decide +kernel
theorem dX9_likeOnes_27 : decode cX9_likeOnes 27 = .ok (.iaload, 1) := by decide +kernel
theorem dX9_likeOnes_28 : decode cX9_likeOnes 28 = .ok (.iload_n 1, 1) := by decide +kernel
theorem dX9_likeOnes_29 : decode cX9_likeOnes 29 = .ok (.if_icmp .ne 7, 3) := by decide +kernel
theorem dX9_likeOnes_32 : decode cX9_likeOnes 32 = .ok (.iconst 1, 1) := by decide +kernel
theorem dX9_likeOnes_33 : decode cX9_likeOnes 33 = .ok (.goto 4, 3) := by decide +kernel
theorem dX9_likeOnes_36 : decode cX9_likeOnes 36 = .ok (.iconst 0, 1) := by decide +kernel
theorem dX9_likeOnes_37 : decode cX9_likeOnes 37 = .ok (.iadd, 1) := by decide +kernel
theorem dX9_likeOnes_38 : decode cX9_likeOnes 38 = .ok (.istore_n 2, 1) := by decide +kernel
theorem dX9_likeOnes_39 : decode cX9_likeOnes 39 = .ok (.iinc 3 1, 3) := by decide +kernel
theorem dX9_likeOnes_42 : decode cX9_likeOnes 42 = .ok (.goto (-31), 3) := by decide +kernel
theorem dX9_likeOnes_45 : decode cX9_likeOnes 45 = .ok (.iload_n 2, 1) := by decide +kernel
theorem dX9_likeOnes_46 : decode cX9_likeOnes 46 = .ok (.ireturn, 1) := by decide +kernel
theorem dX9_coinBy_0 : decode cX9_coinBy 0 = .ok (.iload_n 1, 1) := by decide +kernel
theorem dX9_coinBy_1 : decode cX9_coinBy 1 = .ok (.iconst 3, 1) := by decide +kernel
theorem dX9_coinBy_2 : decode cX9_coinBy 2 = .ok (.if_icmp .ne 34, 3) := by decide +kernel
theorem dX9_coinBy_5 : decode cX9_coinBy 5 = .ok (.iload_n 2, 1) := by decide +kernel
theorem dX9_coinBy_6 : decode cX9_coinBy 6 = .ok (.iload_n 3, 1) := by decide +kernel
theorem dX9_coinBy_7 : decode cX9_coinBy 7 = .ok (.if_icmp .ne 21, 3) := by decide +kernel
theorem dX9_coinBy_10 : decode cX9_coinBy 10 = .ok (.aload_n 0, 1) := by decide +kernel
theorem dX9_coinBy_11 : decode cX9_coinBy 11 = .ok (.getfield 19, 3) := by decide +kernel
theorem dX9_coinBy_14 : decode cX9_coinBy 14 = .ok (.iconst 1, 1) := by decide +kernel
theorem dX9_coinBy_15 : decode cX9_coinBy 15 = .ok (.iaload, 1) := by decide +kernel
theorem dX9_coinBy_16 : decode cX9_coinBy 16 = .ok (.aload_n 0, 1) := by decide +kernel
theorem dX9_coinBy_17 : decode cX9_coinBy 17 = .ok (.getfield 19, 3) := by decide +kernel
theorem dX9_coinBy_20 : decode cX9_coinBy 20 = .ok (.iconst 2, 1) := by decide +kernel
theorem dX9_coinBy_21 : decode cX9_coinBy 21 = .ok (.iaload, 1) := by decide +kernel
theorem dX9_coinBy_22 : decode cX9_coinBy 22 = .ok (.iconst 1, 1) := by decide +kernel
theorem dX9_coinBy_23 : decode cX9_coinBy 23 = .ok (.isub, 1) := by decide +kernel
theorem dX9_coinBy_24 : decode cX9_coinBy 24 = .ok (.imul, 1) := by decide +kernel
theorem dX9_coinBy_25 : decode cX9_coinBy 25 = .ok (.goto 10, 3) := by decide +kernel
theorem dX9_coinBy_28 : decode cX9_coinBy 28 = .ok (.aload_n 0, 1) := by decide +kernel
theorem dX9_coinBy_29 : decode cX9_coinBy 29 = .ok (.getfield 19, 3) := by decide +kernel
theorem dX9_coinBy_32 : decode cX9_coinBy 32 = .ok (.iconst 1, 1) := by decide +kernel
theorem dX9_coinBy_33 : decode cX9_coinBy 33 = .ok (.iaload, 1) := by decide +kernel
theorem dX9_coinBy_34 : decode cX9_coinBy 34 = .ok (.ineg, 1) := by decide +kernel
theorem dX9_coinBy_35 : decode cX9_coinBy 35 = .ok (.ireturn, 1) := by decide +kernel
theorem dX9_coinBy_36 : decode cX9_coinBy 36 = .ok (.aload_n 0, 1) := by decide +kernel
theorem dX9_coinBy_37 : decode cX9_coinBy 37 = .ok (.getfield 19, 3) := by decide +kernel
theorem dX9_coinBy_40 : decode cX9_coinBy 40 = .ok (.iconst 1, 1) := by decide +kernel
theorem dX9_coinBy_41 : decode cX9_coinBy 41 = .ok (.iaload, 1) := by decide +kernel
theorem dX9_coinBy_42 : decode cX9_coinBy 42 = .ok (.aload_n 0, 1) := by decide +kernel
theorem dX9_coinBy_43 : decode cX9_coinBy 43 = .ok (.iload_n 3, 1) := by decide +kernel
theorem dX9_coinBy_44 : decode cX9_coinBy 44 = .ok (.invokevirtual 187, 3) := by decide +kernel
theorem dX9_coinBy_47 : decode cX9_coinBy 47 = .ok (.imul, 1) := by decide +kernel
theorem dX9_coinBy_48 : decode cX9_coinBy 48 = .ok (.istore 4, 2) := by decide +kernel
theorem dX9_coinBy_50 : decode cX9_coinBy 50 = .ok (.iload_n 2, 1) := by decide +kernel
theorem dX9_coinBy_51 : decode cX9_coinBy 51 = .ok (.iload_n 3, 1) := by decide +kernel
theorem dX9_coinBy_52 : decode cX9_coinBy 52 = .ok (.if_icmp .ne 7, 3) := by decide +kernel
theorem dX9_coinBy_55 : decode cX9_coinBy 55 = .ok (.iload_n 1, 1) := by decide +kernel
theorem dX9_coinBy_56 : decode cX9_coinBy 56 = .ok (.ifCond .ne 7, 3) := by decide +kernel
theorem dX9_coinBy_59 : decode cX9_coinBy 59 = .ok (.iconst 0, 1) := by decide +kernel
theorem dX9_coinBy_60 : decode cX9_coinBy 60 = .ok (.goto 16, 3) := by decide +kernel
theorem dX9_coinBy_63 : decode cX9_coinBy 63 = .ok (.iload_n 1, 1) := by decide +kernel
theorem dX9_coinBy_64 : decode cX9_coinBy 64 = .ok (.iconst 1, 1) := by decide +kernel
theorem dX9_coinBy_65 : decode cX9_coinBy 65 = .ok (.if_icmp .ne 9, 3) := by decide +kernel
theorem dX9_coinBy_68 : decode cX9_coinBy 68 = .ok (.iload 4, 2) := by decide +kernel
theorem dX9_coinBy_70 : decode cX9_coinBy 70 = .ok (.ineg, 1) := by decide +kernel
theorem dX9_coinBy_71 : decode cX9_coinBy 71 = .ok (.goto 5, 3) := by decide +kernel
theorem dX9_coinBy_74 : decode cX9_coinBy 74 = .ok (.iload 4, 2) := by decide +kernel
theorem dX9_coinBy_76 : decode cX9_coinBy 76 = .ok (.ireturn, 1) := by decide +kernel
theorem dX9_gainBy_0 : decode cX9_gainBy 0 = .ok (.aload_n 0, 1) := by decide +kernel
theorem dX9_gainBy_1 : decode cX9_gainBy 1 = .ok (.ldc 80, 2) := by decide +kernel
theorem dX9_gainBy_3 : decode cX9_gainBy 3 = .ok (.invokevirtual 187, 3) := by decide +kernel
theorem dX9_gainBy_6 : decode cX9_gainBy 6 = .ok (.istore 4, 2) := by decide +kernel
theorem dX9_gainBy_8 : decode cX9_gainBy 8 = .ok (.iconst 0, 1) := by decide +kernel
theorem dX9_gainBy_9 : decode cX9_gainBy 9 = .ok (.istore 5, 2) := by decide +kernel
theorem dX9_gainBy_11 : decode cX9_gainBy 11 = .ok (.iconst 0, 1) := by decide +kernel
theorem dX9_gainBy_12 : decode cX9_gainBy 12 = .ok (.istore 6, 2) := by decide +kernel
theorem dX9_gainBy_14 : decode cX9_gainBy 14 = .ok (.iload 6, 2) := by decide +kernel
theorem dX9_gainBy_16 : decode cX9_gainBy 16 = .ok (.aload_n 0, 1) := by decide +kernel
theorem dX9_gainBy_17 : decode cX9_gainBy 17 = .ok (.getfield 19, 3) := by decide +kernel
theorem dX9_gainBy_20 : decode cX9_gainBy 20 = .ok (.iconst 2, 1) := by decide +kernel
theorem dX9_gainBy_21 : decode cX9_gainBy 21 = .ok (.iaload, 1) := by decide +kernel
theorem dX9_gainBy_22 : decode cX9_gainBy 22 = .ok (.if_icmp .ge 51, 3) := by decide +kernel
theorem dX9_gainBy_25 : decode cX9_gainBy 25 = .ok (.aload_n 0, 1) := by decide +kernel
theorem dX9_gainBy_26 : decode cX9_gainBy 26 = .ok (.getfield 31, 3) := by decide +kernel
theorem dX9_gainBy_29 : decode cX9_gainBy 29 = .ok (.iload 6, 2) := by decide +kernel
theorem dX9_gainBy_31 : decode cX9_gainBy 31 = .ok (.iaload, 1) := by decide +kernel
theorem dX9_gainBy_32 : decode cX9_gainBy 32 = .ok (.iload 4, 2) := by decide +kernel
theorem dX9_gainBy_34 : decode cX9_gainBy 34 = .ok (.if_icmp .ne 33, 3) := by decide +kernel
theorem dX9_gainBy_37 : decode cX9_gainBy 37 = .ok (.iload 5, 2) := by decide +kernel
theorem dX9_gainBy_39 : decode cX9_gainBy 39 = .ok (.aload_n 0, 1) := by decide +kernel
theorem dX9_gainBy_40 : decode cX9_gainBy 40 = .ok (.iload_n 1, 1) := by decide +kernel
theorem dX9_gainBy_41 : decode cX9_gainBy 41 = .ok (.iload_n 3, 1) := by decide +kernel
theorem dX9_gainBy_42 : decode cX9_gainBy 42 = .ok (.iload 6, 2) := by decide +kernel
theorem dX9_gainBy_44 : decode cX9_gainBy 44 = .ok (.invokevirtual 190, 3) := by decide +kernel
theorem dX9_gainBy_47 : decode cX9_gainBy 47 = .ok (.iload_n 3, 1) := by decide +kernel
theorem dX9_gainBy_48 : decode cX9_gainBy 48 = .ok (.iload 6, 2) := by decide +kernel
theorem dX9_gainBy_50 : decode cX9_gainBy 50 = .ok (.if_icmp .ne 12, 3) := by decide +kernel
theorem dX9_gainBy_53 : decode cX9_gainBy 53 = .ok (.aload_n 0, 1) := by decide +kernel
theorem dX9_gainBy_54 : decode cX9_gainBy 54 = .ok (.iload_n 2, 1) := by decide +kernel
theorem dX9_gainBy_55 : decode cX9_gainBy 55 = .ok (.iload_n 3, 1) := by decide +kernel
theorem dX9_gainBy_56 : decode cX9_gainBy 56 = .ok (.invokevirtual 179, 3) := by decide +kernel
theorem dX9_gainBy_59 : decode cX9_gainBy 59 = .ok (.goto 4, 3) := by decide +kernel
theorem dX9_gainBy_62 : decode cX9_gainBy 62 = .ok (.iconst 0, 1) := by decide +kernel
theorem dX9_gainBy_63 : decode cX9_gainBy 63 = .ok (.iadd, 1) := by decide +kernel
theorem dX9_gainBy_64 : decode cX9_gainBy 64 = .ok (.iadd, 1) := by decide +kernel
theorem dX9_gainBy_65 : decode cX9_gainBy 65 = .ok (.istore 5, 2) := by decide +kernel
theorem dX9_gainBy_67 : decode cX9_gainBy 67 = .ok (.iinc 6 1, 3) := by decide +kernel
theorem dX9_gainBy_70 : decode cX9_gainBy 70 = .ok (.goto (-56), 3) := by decide +kernel
theorem dX9_gainBy_73 : decode cX9_gainBy 73 = .ok (.iload 5, 2) := by decide +kernel
theorem dX9_gainBy_75 : decode cX9_gainBy 75 = .ok (.bipush 12, 2) := by decide +kernel
theorem dX9_gainBy_77 : decode cX9_gainBy 77 = .ok (.aload_n 0, 1) := by decide +kernel
theorem dX9_gainBy_78 : decode cX9_gainBy 78 = .ok (.invokevirtual 194, 3) := by decide +kernel
theorem dX9_gainBy_81 : decode cX9_gainBy 81 = .ok (.idiv, 1) := by decide +kernel
theorem dX9_gainBy_82 : decode cX9_gainBy 82 = .ok (.imul, 1) := by decide +kernel
theorem dX9_gainBy_83 : decode cX9_gainBy 83 = .ok (.ireturn, 1) := by decide +kernel
theorem dX9_bestBy_0 : decode cX9_bestBy 0 = .ok (.aload_n 0, 1) := by decide +kernel
theorem dX9_bestBy_1 : decode cX9_bestBy 1 = .ok (.getfield 31, 3) := by decide +kernel
theorem dX9_bestBy_4 : decode cX9_bestBy 4 = .ok (.iload_n 3, 1) := by decide +kernel
theorem dX9_bestBy_5 : decode cX9_bestBy 5 = .ok (.iaload, 1) := by decide +kernel
theorem dX9_bestBy_6 : decode cX9_bestBy 6 = .ok (.istore 4, 2) := by decide +kernel
theorem dX9_bestBy_8 : decode cX9_bestBy 8 = .ok (.iconst 0, 1) := by decide +kernel
theorem dX9_bestBy_9 : decode cX9_bestBy 9 = .ok (.istore 5, 2) := by decide +kernel
theorem dX9_bestBy_11 : decode cX9_bestBy 11 = .ok (.ldc 80, 2) := by decide +kernel
theorem dX9_bestBy_13 : decode cX9_bestBy 13 = .ok (.istore 6, 2) := by decide +kernel
theorem dX9_bestBy_15 : decode cX9_bestBy 15 = .ok (.iconst 0, 1) := by decide +kernel
theorem dX9_bestBy_16 : decode cX9_bestBy 16 = .ok (.istore 7, 2) := by decide +kernel
theorem dX9_bestBy_18 : decode cX9_bestBy 18 = .ok (.iload 7, 2) := by decide +kernel
theorem dX9_bestBy_20 : decode cX9_bestBy 20 = .ok (.iconst 5, 1) := by decide +kernel
theorem dX9_bestBy_21 : decode cX9_bestBy 21 = .ok (.if_icmp .gt 58, 3) := by decide +kernel
theorem dX9_bestBy_24 : decode cX9_bestBy 24 = .ok (.aload_n 0, 1) := by decide +kernel
theorem dX9_bestBy_25 : decode cX9_bestBy 25 = .ok (.getfield 31, 3) := by decide +kernel
theorem dX9_bestBy_28 : decode cX9_bestBy 28 = .ok (.iload_n 3, 1) := by decide +kernel
theorem dX9_bestBy_29 : decode cX9_bestBy 29 = .ok (.iload 7, 2) := by decide +kernel
theorem dX9_bestBy_31 : decode cX9_bestBy 31 = .ok (.iastore, 1) := by decide +kernel
theorem dX9_bestBy_32 : decode cX9_bestBy 32 = .ok (.aload_n 0, 1) := by decide +kernel
theorem dX9_bestBy_33 : decode cX9_bestBy 33 = .ok (.iload_n 1, 1) := by decide +kernel
theorem dX9_bestBy_34 : decode cX9_bestBy 34 = .ok (.iload_n 2, 1) := by decide +kernel
theorem dX9_bestBy_35 : decode cX9_bestBy 35 = .ok (.iload_n 3, 1) := by decide +kernel
theorem dX9_bestBy_36 : decode cX9_bestBy 36 = .ok (.invokevirtual 197, 3) := by decide +kernel
theorem dX9_bestBy_39 : decode cX9_bestBy 39 = .ok (.istore 8, 2) := by decide +kernel
theorem dX9_bestBy_41 : decode cX9_bestBy 41 = .ok (.iload 8, 2) := by decide +kernel
theorem dX9_bestBy_43 : decode cX9_bestBy 43 = .ok (.iload 6, 2) := by decide +kernel
theorem dX9_bestBy_45 : decode cX9_bestBy 45 = .ok (.if_icmp .le 8, 3) := by decide +kernel
theorem dX9_bestBy_48 : decode cX9_bestBy 48 = .ok (.iload 7, 2) := by decide +kernel
theorem dX9_bestBy_50 : decode cX9_bestBy 50 = .ok (.goto 5, 3) := by decide +kernel
theorem dX9_bestBy_53 : decode cX9_bestBy 53 = .ok (.iload 5, 2) := by decide +kernel
theorem dX9_bestBy_55 : decode cX9_bestBy 55 = .ok (.istore 5, 2) := by decide +kernel
theorem dX9_bestBy_57 : decode cX9_bestBy 57 = .ok (.iload 8, 2) := by decide +kernel
theorem dX9_bestBy_59 : decode cX9_bestBy 59 = .ok (.iload 6, 2) := by decide +kernel
theorem dX9_bestBy_61 : decode cX9_bestBy 61 = .ok (.if_icmp .le 8, 3) := by decide +kernel
theorem dX9_bestBy_64 : decode cX9_bestBy 64 = .ok (.iload 8, 2) := by decide +kernel
theorem dX9_bestBy_66 : decode cX9_bestBy 66 = .ok (.goto 5, 3) := by decide +kernel
theorem dX9_bestBy_69 : decode cX9_bestBy 69 = .ok (.iload 6, 2) := by decide +kernel
theorem dX9_bestBy_71 : decode cX9_bestBy 71 = .ok (.istore 6, 2) := by decide +kernel
theorem dX9_bestBy_73 : decode cX9_bestBy 73 = .ok (.iinc 7 1, 3) := by decide +kernel
theorem dX9_bestBy_76 : decode cX9_bestBy 76 = .ok (.goto (-58), 3) := by decide +kernel
theorem dX9_bestBy_79 : decode cX9_bestBy 79 = .ok (.aload_n 0, 1) := by decide +kernel
theorem dX9_bestBy_80 : decode cX9_bestBy 80 = .ok (.getfield 31, 3) := by decide +kernel
theorem dX9_bestBy_83 : decode cX9_bestBy 83 = .ok (.iload_n 3, 1) := by decide +kernel
theorem dX9_bestBy_84 : decode cX9_bestBy 84 = .ok (.iload 4, 2) := by decide +kernel
theorem dX9_bestBy_86 : decode cX9_bestBy 86 = .ok (.iastore, 1) := by decide +kernel
theorem dX9_bestBy_87 : decode cX9_bestBy 87 = .ok (.iload 5, 2) := by decide +kernel
theorem dX9_bestBy_89 : decode cX9_bestBy 89 = .ok (.ireturn, 1) := by decide +kernel
theorem dX9_isRest_0 : decode cX9_isRest 0 = .ok (.iconst 1, 1) := by decide +kernel
theorem dX9_isRest_1 : decode cX9_isRest 1 = .ok (.istore_n 3, 1) := by decide +kernel
theorem dX9_isRest_2 : decode cX9_isRest 2 = .ok (.iconst 0, 1) := by decide +kernel
theorem dX9_isRest_3 : decode cX9_isRest 3 = .ok (.istore 4, 2) := by decide +kernel
theorem dX9_isRest_5 : decode cX9_isRest 5 = .ok (.iload 4, 2) := by decide +kernel
theorem dX9_isRest_7 : decode cX9_isRest 7 = .ok (.aload_n 0, 1) := by decide +kernel
theorem dX9_isRest_8 : decode cX9_isRest 8 = .ok (.getfield 19, 3) := by decide +kernel
theorem dX9_isRest_11 : decode cX9_isRest 11 = .ok (.iconst 2, 1) := by decide +kernel
theorem dX9_isRest_12 : decode cX9_isRest 12 = .ok (.iaload, 1) := by decide +kernel
theorem dX9_isRest_13 : decode cX9_isRest 13 = .ok (.if_icmp .ge 75, 3) := by decide +kernel
theorem dX9_isRest_16 : decode cX9_isRest 16 = .ok (.iload_n 3, 1) := by decide +kernel
theorem dX9_isRest_17 : decode cX9_isRest 17 = .ok (.ifCond .eq 71, 3) := by decide +kernel
theorem dX9_isRest_20 : decode cX9_isRest 20 = .ok (.aload_n 0, 1) := by decide +kernel
theorem dX9_isRest_21 : decode cX9_isRest 21 = .ok (.getfield 31, 3) := by decide +kernel
theorem dX9_isRest_24 : decode cX9_isRest 24 = .ok (.iload 4, 2) := by decide +kernel
theorem dX9_isRest_26 : decode cX9_isRest 26 = .ok (.iaload, 1) := by decide +kernel
theorem dX9_isRest_27 : decode cX9_isRest 27 = .ok (.istore 5, 2) := by decide +kernel
theorem dX9_isRest_29 : decode cX9_isRest 29 = .ok (.aload_n 0, 1) := by decide +kernel
theorem dX9_isRest_30 : decode cX9_isRest 30 = .ok (.iload_n 1, 1) := by decide +kernel
theorem dX9_isRest_31 : decode cX9_isRest 31 = .ok (.iload_n 2, 1) := by decide +kernel
theorem dX9_isRest_32 : decode cX9_isRest 32 = .ok (.iload 4, 2) := by decide +kernel
theorem dX9_isRest_34 : decode cX9_isRest 34 = .ok (.invokevirtual 197, 3) := by decide +kernel
theorem dX9_isRest_37 : decode cX9_isRest 37 = .ok (.istore 6, 2) := by decide +kernel
theorem dX9_isRest_39 : decode cX9_isRest 39 = .ok (.aload_n 0, 1) := by decide +kernel
theorem dX9_isRest_40 : decode cX9_isRest 40 = .ok (.getfield 31, 3) := by decide +kernel
theorem dX9_isRest_43 : decode cX9_isRest 43 = .ok (.iload 4, 2) := by decide +kernel
theorem dX9_isRest_45 : decode cX9_isRest 45 = .ok (.aload_n 0, 1) := by decide +kernel
theorem dX9_isRest_46 : decode cX9_isRest 46 = .ok (.iload_n 1, 1) := by decide +kernel
theorem dX9_isRest_47 : decode cX9_isRest 47 = .ok (.iload_n 2, 1) := by decide +kernel
theorem dX9_isRest_48 : decode cX9_isRest 48 = .ok (.iload 4, 2) := by decide +kernel
theorem dX9_isRest_50 : decode cX9_isRest 50 = .ok (.invokevirtual 200, 3) := by decide +kernel
theorem dX9_isRest_53 : decode cX9_isRest 53 = .ok (.iastore, 1) := by decide +kernel
theorem dX9_isRest_54 : decode cX9_isRest 54 = .ok (.aload_n 0, 1) := by decide +kernel
theorem dX9_isRest_55 : decode cX9_isRest 55 = .ok (.iload_n 1, 1) := by decide +kernel
theorem dX9_isRest_56 : decode cX9_isRest 56 = .ok (.iload_n 2, 1) := by decide +kernel
theorem dX9_isRest_57 : decode cX9_isRest 57 = .ok (.iload 4, 2) := by decide +kernel
theorem dX9_isRest_59 : decode cX9_isRest 59 = .ok (.invokevirtual 197, 3) := by decide +kernel
theorem dX9_isRest_62 : decode cX9_isRest 62 = .ok (.iload 6, 2) := by decide +kernel
theorem dX9_isRest_64 : decode cX9_isRest 64 = .ok (.if_icmp .gt 7, 3) := by decide +kernel
theorem dX9_isRest_67 : decode cX9_isRest 67 = .ok (.iconst 1, 1) := by decide +kernel
theorem dX9_isRest_68 : decode cX9_isRest 68 = .ok (.goto 4, 3) := by decide +kernel
theorem dX9_isRest_71 : decode cX9_isRest 71 = .ok (.iconst 0, 1) := by decide +kernel
theorem dX9_isRest_72 : decode cX9_isRest 72 = .ok (.istore_n 3, 1) := by decide +kernel
theorem dX9_isRest_73 : decode cX9_isRest 73 = .ok (.aload_n 0, 1) := by decide +kernel
theorem dX9_isRest_74 : decode cX9_isRest 74 = .ok (.getfield 31, 3) := by decide +kernel
theorem dX9_isRest_77 : decode cX9_isRest 77 = .ok (.iload 4, 2) := by decide +kernel
theorem dX9_isRest_79 : decode cX9_isRest 79 = .ok (.iload 5, 2) := by decide +kernel
theorem dX9_isRest_81 : decode cX9_isRest 81 = .ok (.iastore, 1) := by decide +kernel
theorem dX9_isRest_82 : decode cX9_isRest 82 = .ok (.iinc 4 1, 3) := by decide +kernel
theorem dX9_isRest_85 : decode cX9_isRest 85 = .ok (.goto (-80), 3) := by decide +kernel
theorem dX9_isRest_88 : decode cX9_isRest 88 = .ok (.iload_n 3, 1) := by decide +kernel
theorem dX9_isRest_89 : decode cX9_isRest 89 = .ok (.ireturn, 1) := by decide +kernel
theorem dX9_keep_0 : decode cX9_keep 0 = .ok (.aload_n 0, 1) := by decide +kernel
theorem dX9_keep_1 : decode cX9_keep 1 = .ok (.getfield 171, 3) := by decide +kernel
theorem dX9_keep_4 : decode cX9_keep 4 = .ok (.bipush 24, 2) := by decide +kernel
theorem dX9_keep_6 : decode cX9_keep 6 = .ok (.if_icmp .ne 43, 3) := by decide +kernel
theorem dX9_keep_9 : decode cX9_keep 9 = .ok (.iconst 0, 1) := by decide +kernel
theorem dX9_keep_10 : decode cX9_keep 10 = .ok (.istore_n 1, 1) := by decide +kernel
theorem dX9_keep_11 : decode cX9_keep 11 = .ok (.iload_n 1, 1) := by decide +kernel
theorem dX9_keep_12 : decode cX9_keep 12 = .ok (.sipush 966, 3) := by decide +kernel
theorem dX9_keep_15 : decode cX9_keep 15 = .ok (.if_icmp .ge 24, 3) := by decide +kernel
theorem dX9_keep_18 : decode cX9_keep 18 = .ok (.aload_n 0, 1) := by decide +kernel
theorem dX9_keep_19 : decode cX9_keep 19 = .ok (.getfield 25, 3) := by decide +kernel
theorem dX9_keep_22 : decode cX9_keep 22 = .ok (.iload_n 1, 1) := by decide +kernel
theorem dX9_keep_23 : decode cX9_keep 23 = .ok (.aload_n 0, 1) := by decide +kernel
theorem dX9_keep_24 : decode cX9_keep 24 = .ok (.getfield 25, 3) := by decide +kernel
theorem dX9_keep_27 : decode cX9_keep 27 = .ok (.iload_n 1, 1) := by decide +kernel
theorem dX9_keep_28 : decode cX9_keep 28 = .ok (.bipush 42, 2) := by decide +kernel
theorem dX9_keep_30 : decode cX9_keep 30 = .ok (.iadd, 1) := by decide +kernel
theorem dX9_keep_31 : decode cX9_keep 31 = .ok (.iaload, 1) := by decide +kernel
theorem dX9_keep_32 : decode cX9_keep 32 = .ok (.iastore, 1) := by decide +kernel
theorem dX9_keep_33 : decode cX9_keep 33 = .ok (.iinc 1 1, 3) := by decide +kernel
theorem dX9_keep_36 : decode cX9_keep 36 = .ok (.goto (-25), 3) := by decide +kernel
theorem dX9_keep_39 : decode cX9_keep 39 = .ok (.aload_n 0, 1) := by decide +kernel
theorem dX9_keep_40 : decode cX9_keep 40 = .ok (.dup, 1) := by decide +kernel
theorem dX9_keep_41 : decode cX9_keep 41 = .ok (.getfield 171, 3) := by decide +kernel
theorem dX9_keep_44 : decode cX9_keep 44 = .ok (.iconst 1, 1) := by decide +kernel
theorem dX9_keep_45 : decode cX9_keep 45 = .ok (.isub, 1) := by decide +kernel
theorem dX9_keep_46 : decode cX9_keep 46 = .ok (.putfield 171, 3) := by decide +kernel
theorem dX9_keep_49 : decode cX9_keep 49 = .ok (.iconst 0, 1) := by decide +kernel
theorem dX9_keep_50 : decode cX9_keep 50 = .ok (.istore_n 1, 1) := by decide +kernel
theorem dX9_keep_51 : decode cX9_keep 51 = .ok (.iload_n 1, 1) := by decide +kernel
theorem dX9_keep_52 : decode cX9_keep 52 = .ok (.bipush 42, 2) := by decide +kernel
theorem dX9_keep_54 : decode cX9_keep 54 = .ok (.if_icmp .ge 29, 3) := by decide +kernel
theorem dX9_keep_57 : decode cX9_keep 57 = .ok (.aload_n 0, 1) := by decide +kernel
theorem dX9_keep_58 : decode cX9_keep 58 = .ok (.getfield 25, 3) := by decide +kernel
theorem dX9_keep_61 : decode cX9_keep 61 = .ok (.bipush 42, 2) := by decide +kernel
theorem dX9_keep_63 : decode cX9_keep 63 = .ok (.aload_n 0, 1) := by decide +kernel
theorem dX9_keep_64 : decode cX9_keep 64 = .ok (.getfield 171, 3) := by decide +kernel
theorem dX9_keep_67 : decode cX9_keep 67 = .ok (.imul, 1) := by decide +kernel
theorem dX9_keep_68 : decode cX9_keep 68 = .ok (.iload_n 1, 1) := by decide +kernel
theorem dX9_keep_69 : decode cX9_keep 69 = .ok (.iadd, 1) := by decide +kernel
theorem dX9_keep_70 : decode cX9_keep 70 = .ok (.aload_n 0, 1) := by decide +kernel
theorem dX9_keep_71 : decode cX9_keep 71 = .ok (.getfield 19, 3) := by decide +kernel
theorem dX9_keep_74 : decode cX9_keep 74 = .ok (.iload_n 1, 1) := by decide +kernel
theorem dX9_keep_75 : decode cX9_keep 75 = .ok (.iaload, 1) := by decide +kernel
theorem dX9_keep_76 : decode cX9_keep 76 = .ok (.iastore, 1) := by decide +kernel
theorem dX9_keep_77 : decode cX9_keep 77 = .ok (.iinc 1 1, 3) := by decide +kernel
theorem dX9_keep_80 : decode cX9_keep 80 = .ok (.goto (-29), 3) := by decide +kernel
theorem dX9_keep_83 : decode cX9_keep 83 = .ok (.aload_n 0, 1) := by decide +kernel
theorem dX9_keep_84 : decode cX9_keep 84 = .ok (.dup, 1) := by decide +kernel
theorem dX9_keep_85 : decode cX9_keep 85 = .ok (.getfield 171, 3) := by decide +kernel
theorem dX9_keep_88 : decode cX9_keep 88 = .ok (.iconst 1, 1) := by decide +kernel
theorem dX9_keep_89 : decode cX9_keep 89 = .ok (.iadd, 1) := by decide +kernel
theorem dX9_keep_90 : decode cX9_keep 90 = .ok (.putfield 171, 3) := by decide +kernel
theorem dX9_keep_93 : decode cX9_keep 93 = .ok (.return_, 1) := by decide +kernel
theorem dX9_goRound_0 : decode cX9_goRound 0 = .ok (.aload_n 0, 1) := by decide +kernel
theorem dX9_goRound_1 : decode cX9_goRound 1 = .ok (.invokevirtual 203, 3) := by decide +kernel
theorem dX9_goRound_4 : decode cX9_goRound 4 = .ok (.iload_n 2, 1) := by decide +kernel
theorem dX9_goRound_5 : decode cX9_goRound 5 = .ok (.i2l, 1) := by decide +kernel
theorem dX9_goRound_6 : decode cX9_goRound 6 = .ok (.ldc2_w 206, 3) := by decide +kernel
theorem dX9_goRound_9 : decode cX9_goRound 9 = .ok (.lmul, 1) := by decide +kernel
theorem dX9_goRound_10 : decode cX9_goRound 10 = .ok (.ldc2_w 208, 3) := by decide +kernel
theorem dX9_goRound_13 : decode cX9_goRound 13 = .ok (.lrem, 1) := by decide +kernel
theorem dX9_goRound_14 : decode cX9_goRound 14 = .ok (.aload_n 0, 1) := by decide +kernel
theorem dX9_goRound_15 : decode cX9_goRound 15 = .ok (.invokevirtual 194, 3) := by decide +kernel
theorem dX9_goRound_18 : decode cX9_goRound 18 = .ok (.i2l, 1) := by decide +kernel
theorem dX9_goRound_19 : decode cX9_goRound 19 = .ok (.lrem, 1) := by decide +kernel
theorem dX9_goRound_20 : decode cX9_goRound 20 = .ok (.l2i, 1) := by decide +kernel
theorem dX9_goRound_21 : decode cX9_goRound 21 = .ok (.istore_n 3, 1) := by decide +kernel
theorem dX9_goRound_22 : decode cX9_goRound 22 = .ok (.aload_n 0, 1) := by decide +kernel
theorem dX9_goRound_23 : decode cX9_goRound 23 = .ok (.ldc 80, 2) := by decide +kernel
theorem dX9_goRound_25 : decode cX9_goRound 25 = .ok (.invokevirtual 187, 3) := by decide +kernel
theorem dX9_goRound_28 : decode cX9_goRound 28 = .ok (.istore 4, 2) := by decide +kernel
theorem dX9_goRound_30 : decode cX9_goRound 30 = .ok (.ldc 80, 2) := by decide +kernel
theorem dX9_goRound_32 : decode cX9_goRound 32 = .ok (.istore 5, 2) := by decide +kernel
theorem dX9_goRound_34 : decode cX9_goRound 34 = .ok (.iconst 0, 1) := by decide +kernel
theorem dX9_goRound_35 : decode cX9_goRound 35 = .ok (.istore 6, 2) := by decide +kernel
theorem dX9_goRound_37 : decode cX9_goRound 37 = .ok (.iload 6, 2) := by decide +kernel
theorem dX9_goRound_39 : decode cX9_goRound 39 = .ok (.aload_n 0, 1) := by decide +kernel
theorem dX9_goRound_40 : decode cX9_goRound 40 = .ok (.getfield 19, 3) := by decide +kernel
theorem dX9_goRound_43 : decode cX9_goRound 43 = .ok (.iconst 2, 1) := by decide +kernel
theorem dX9_goRound_44 : decode cX9_goRound 44 = .ok (.iaload, 1) := by decide +kernel
theorem dX9_goRound_45 : decode cX9_goRound 45 = .ok (.if_icmp .ge 37, 3) := by decide +kernel
theorem dX9_goRound_48 : decode cX9_goRound 48 = .ok (.aload_n 0, 1) := by decide +kernel
theorem dX9_goRound_49 : decode cX9_goRound 49 = .ok (.getfield 31, 3) := by decide +kernel
theorem dX9_goRound_52 : decode cX9_goRound 52 = .ok (.iload 6, 2) := by decide +kernel
theorem dX9_goRound_54 : decode cX9_goRound 54 = .ok (.iaload, 1) := by decide +kernel
theorem dX9_goRound_55 : decode cX9_goRound 55 = .ok (.iload 4, 2) := by decide +kernel
theorem dX9_goRound_57 : decode cX9_goRound 57 = .ok (.if_icmp .ne 19, 3) := by decide +kernel
theorem dX9_goRound_60 : decode cX9_goRound 60 = .ok (.iload_n 3, 1) := by decide +kernel
theorem dX9_goRound_61 : decode cX9_goRound 61 = .ok (.ifCond .ne 8, 3) := by decide +kernel
theorem dX9_goRound_64 : decode cX9_goRound 64 = .ok (.iload 6, 2) := by decide +kernel
theorem dX9_goRound_66 : decode cX9_goRound 66 = .ok (.goto 5, 3) := by decide +kernel
theorem dX9_goRound_69 : decode cX9_goRound 69 = .ok (.iload 5, 2) := by decide +kernel
theorem dX9_goRound_71 : decode cX9_goRound 71 = .ok (.istore 5, 2) := by decide +kernel
theorem dX9_goRound_73 : decode cX9_goRound 73 = .ok (.iinc 3 (-1), 3) := by decide +kernel
theorem dX9_goRound_76 : decode cX9_goRound 76 = .ok (.iinc 6 1, 3) := by decide +kernel
theorem dX9_goRound_79 : decode cX9_goRound 79 = .ok (.goto (-42), 3) := by decide +kernel
theorem dX9_goRound_82 : decode cX9_goRound 82 = .ok (.iconst 0, 1) := by decide +kernel
theorem dX9_goRound_83 : decode cX9_goRound 83 = .ok (.istore 6, 2) := by decide +kernel
theorem dX9_goRound_85 : decode cX9_goRound 85 = .ok (.iload 6, 2) := by decide +kernel
theorem dX9_goRound_87 : decode cX9_goRound 87 = .ok (.aload_n 0, 1) := by decide +kernel
theorem dX9_goRound_88 : decode cX9_goRound 88 = .ok (.getfield 19, 3) := by decide +kernel
theorem dX9_goRound_91 : decode cX9_goRound 91 = .ok (.iconst 2, 1) := by decide +kernel
theorem dX9_goRound_92 : decode cX9_goRound 92 = .ok (.iaload, 1) := by decide +kernel
theorem dX9_goRound_93 : decode cX9_goRound 93 = .ok (.if_icmp .ge 36, 3) := by decide +kernel
theorem dX9_goRound_96 : decode cX9_goRound 96 = .ok (.aload_n 0, 1) := by decide +kernel
theorem dX9_goRound_97 : decode cX9_goRound 97 = .ok (.getfield 19, 3) := by decide +kernel
theorem dX9_goRound_100 : decode cX9_goRound 100 = .ok (.bipush 8, 2) := by decide +kernel
theorem dX9_goRound_102 : decode cX9_goRound 102 = .ok (.iload 6, 2) := by decide +kernel
theorem dX9_goRound_104 : decode cX9_goRound 104 = .ok (.iadd, 1) := by decide +kernel
theorem dX9_goRound_105 : decode cX9_goRound 105 = .ok (.dup2, 1) := by decide +kernel
theorem dX9_goRound_106 : decode cX9_goRound 106 = .ok (.iaload, 1) := by decide +kernel
theorem dX9_goRound_107 : decode cX9_goRound 107 = .ok (.aload_n 0, 1) := by decide +kernel
theorem dX9_goRound_108 : decode cX9_goRound 108 = .ok (.aload_n 0, 1) := by decide +kernel
theorem dX9_goRound_109 : decode cX9_goRound 109 = .ok (.getfield 19, 3) := by decide +kernel
theorem dX9_goRound_112 : decode cX9_goRound 112 = .ok (.iconst 0, 1) := by decide +kernel
theorem dX9_goRound_113 : decode cX9_goRound 113 = .ok (.iaload, 1) := by decide +kernel
theorem dX9_goRound_114 : decode cX9_goRound 114 = .ok (.iload 6, 2) := by decide +kernel
theorem dX9_goRound_116 : decode cX9_goRound 116 = .ok (.iload 5, 2) := by decide +kernel
theorem dX9_goRound_118 : decode cX9_goRound 118 = .ok (.invokevirtual 190, 3) := by decide +kernel
theorem dX9_goRound_121 : decode cX9_goRound 121 = .ok (.iadd, 1) := by decide +kernel
theorem dX9_goRound_122 : decode cX9_goRound 122 = .ok (.iastore, 1) := by decide +kernel
theorem dX9_goRound_123 : decode cX9_goRound 123 = .ok (.iinc 6 1, 3) := by decide +kernel
theorem dX9_goRound_126 : decode cX9_goRound 126 = .ok (.goto (-41), 3) := by decide +kernel
theorem dX9_goRound_129 : decode cX9_goRound 129 = .ok (.aload_n 0, 1) := by decide +kernel
theorem dX9_goRound_130 : decode cX9_goRound 130 = .ok (.getfield 19, 3) := by decide +kernel
theorem dX9_goRound_133 : decode cX9_goRound 133 = .ok (.bipush 12, 2) := by decide +kernel
theorem dX9_goRound_135 : decode cX9_goRound 135 = .ok (.bipush 6, 2) := by decide +kernel
theorem dX9_goRound_137 : decode cX9_goRound 137 = .ok (.iload_n 1, 1) := by decide +kernel
theorem dX9_goRound_138 : decode cX9_goRound 138 = .ok (.imul, 1) := by decide +kernel
theorem dX9_goRound_139 : decode cX9_goRound 139 = .ok (.iadd, 1) := by decide +kernel
theorem dX9_goRound_140 : decode cX9_goRound 140 = .ok (.iconst 4, 1) := by decide +kernel
theorem dX9_goRound_141 : decode cX9_goRound 141 = .ok (.iadd, 1) := by decide +kernel
theorem dX9_goRound_142 : decode cX9_goRound 142 = .ok (.iload 5, 2) := by decide +kernel
theorem dX9_goRound_144 : decode cX9_goRound 144 = .ok (.iastore, 1) := by decide +kernel
theorem dX9_goRound_145 : decode cX9_goRound 145 = .ok (.iload 5, 2) := by decide +kernel
theorem dX9_goRound_147 : decode cX9_goRound 147 = .ok (.ireturn, 1) := by decide +kernel
theorem dX9_give_0 : decode cX9_give 0 = .ok (.aload_n 0, 1) := by decide +kernel
theorem dX9_give_1 : decode cX9_give 1 = .ok (.iconst 0, 1) := by decide +kernel
theorem dX9_give_2 : decode cX9_give 2 = .ok (.putfield 44, 3) := by decide +kernel
theorem dX9_give_5 : decode cX9_give 5 = .ok (.aload_n 0, 1) := by decide +kernel
theorem dX9_give_6 : decode cX9_give 6 = .ok (.iload_n 1, 1) := by decide +kernel
theorem dX9_give_7 : decode cX9_give 7 = .ok (.invokevirtual 210, 3) := by decide +kernel
theorem dX9_give_10 : decode cX9_give 10 = .ok (.ifCond .eq 17, 3) := by decide +kernel
theorem dX9_give_13 : decode cX9_give 13 = .ok (.iload_n 2, 1) := by decide +kernel
theorem dX9_give_14 : decode cX9_give 14 = .ok (.invokestatic 58, 3) := by decide +kernel
theorem dX9_give_17 : decode cX9_give 17 = .ok (.ifCond .eq 10, 3) := by decide +kernel
theorem dX9_give_20 : decode cX9_give 20 = .ok (.iload_n 3, 1) := by decide +kernel
theorem dX9_give_21 : decode cX9_give 21 = .ok (.invokestatic 213, 3) := by decide +kernel
theorem dX9_give_24 : decode cX9_give 24 = .ok (.ifCond .ne 6, 3) := by decide +kernel
theorem dX9_give_27 : decode cX9_give 27 = .ok (.ldc 64, 2) := by decide +kernel
theorem dX9_give_29 : decode cX9_give 29 = .ok (.ireturn, 1) := by decide +kernel
theorem dX9_give_30 : decode cX9_give 30 = .ok (.aload_n 0, 1) := by decide +kernel
theorem dX9_give_31 : decode cX9_give 31 = .ok (.iload_n 1, 1) := by decide +kernel
theorem dX9_give_32 : decode cX9_give 32 = .ok (.iconst 4, 1) := by decide +kernel
theorem dX9_give_33 : decode cX9_give 33 = .ok (.invokevirtual 176, 3) := by decide +kernel
theorem dX9_give_36 : decode cX9_give 36 = .ok (.ldc 80, 2) := by decide +kernel
theorem dX9_give_38 : decode cX9_give 38 = .ok (.if_icmp .eq 6, 3) := by decide +kernel
theorem dX9_give_41 : decode cX9_give 41 = .ok (.ldc 216, 2) := by decide +kernel
theorem dX9_give_43 : decode cX9_give 43 = .ok (.ireturn, 1) := by decide +kernel
theorem dX9_give_44 : decode cX9_give 44 = .ok (.aload_n 0, 1) := by decide +kernel
theorem dX9_give_45 : decode cX9_give 45 = .ok (.iload_n 2, 1) := by decide +kernel
theorem dX9_give_46 : decode cX9_give 46 = .ok (.invokevirtual 217, 3) := by decide +kernel
theorem dX9_give_49 : decode cX9_give 49 = .ok (.istore 4, 2) := by decide +kernel
theorem dX9_give_51 : decode cX9_give 51 = .ok (.iload 4, 2) := by decide +kernel
theorem dX9_give_53 : decode cX9_give 53 = .ok (.ifCond .ge 8, 3) := by decide +kernel
theorem dX9_give_56 : decode cX9_give 56 = .ok (.iload 4, 2) := by decide +kernel
theorem dX9_give_58 : decode cX9_give 58 = .ok (.goto 9, 3) := by decide +kernel
theorem dX9_give_61 : decode cX9_give 61 = .ok (.aload_n 0, 1) := by decide +kernel
theorem dX9_give_62 : decode cX9_give 62 = .ok (.iload_n 1, 1) := by decide +kernel
theorem dX9_give_63 : decode cX9_give 63 = .ok (.iload_n 3, 1) := by decide +kernel
theorem dX9_give_64 : decode cX9_give 64 = .ok (.invokevirtual 220, 3) := by decide +kernel
theorem dX9_give_67 : decode cX9_give 67 = .ok (.ireturn, 1) := by decide +kernel
theorem dX9_offer_0 : decode cX9_offer 0 = .ok (.aload_n 0, 1) := by decide +kernel
theorem dX9_offer_1 : decode cX9_offer 1 = .ok (.iconst 0, 1) := by decide +kernel
theorem dX9_offer_2 : decode cX9_offer 2 = .ok (.putfield 44, 3) := by decide +kernel
theorem dX9_offer_5 : decode cX9_offer 5 = .ok (.aload_n 0, 1) := by decide +kernel
theorem dX9_offer_6 : decode cX9_offer 6 = .ok (.iload_n 1, 1) := by decide +kernel
theorem dX9_offer_7 : decode cX9_offer 7 = .ok (.invokevirtual 210, 3) := by decide +kernel
theorem dX9_offer_10 : decode cX9_offer 10 = .ok (.ifCond .eq 10, 3) := by decide +kernel
theorem dX9_offer_13 : decode cX9_offer 13 = .ok (.iload_n 2, 1) := by decide +kernel
theorem dX9_offer_14 : decode cX9_offer 14 = .ok (.invokestatic 213, 3) := by decide +kernel
theorem dX9_offer_17 : decode cX9_offer 17 = .ok (.ifCond .ne 6, 3) := by decide +kernel
theorem dX9_offer_20 : decode cX9_offer 20 = .ok (.ldc 64, 2) := by decide +kernel
theorem dX9_offer_22 : decode cX9_offer 22 = .ok (.ireturn, 1) := by decide +kernel
theorem dX9_offer_23 : decode cX9_offer 23 = .ok (.aload_n 0, 1) := by decide +kernel
theorem dX9_offer_24 : decode cX9_offer 24 = .ok (.iload_n 1, 1) := by decide +kernel
theorem dX9_offer_25 : decode cX9_offer 25 = .ok (.iconst 4, 1) := by decide +kernel
theorem dX9_offer_26 : decode cX9_offer 26 = .ok (.invokevirtual 176, 3) := by decide +kernel
theorem dX9_offer_29 : decode cX9_offer 29 = .ok (.ldc 80, 2) := by decide +kernel
theorem dX9_offer_31 : decode cX9_offer 31 = .ok (.if_icmp .eq 6, 3) := by decide +kernel
theorem dX9_offer_34 : decode cX9_offer 34 = .ok (.ldc 216, 2) := by decide +kernel
theorem dX9_offer_36 : decode cX9_offer 36 = .ok (.ireturn, 1) := by decide +kernel
theorem dX9_offer_37 : decode cX9_offer 37 = .ok (.aload_n 0, 1) := by decide +kernel
theorem dX9_offer_38 : decode cX9_offer 38 = .ok (.iload_n 1, 1) := by decide +kernel
theorem dX9_offer_39 : decode cX9_offer 39 = .ok (.invokevirtual 223, 3) := by decide +kernel
theorem dX9_offer_42 : decode cX9_offer 42 = .ok (.aload_n 0, 1) := by decide +kernel
theorem dX9_offer_43 : decode cX9_offer 43 = .ok (.iload_n 1, 1) := by decide +kernel
theorem dX9_offer_44 : decode cX9_offer 44 = .ok (.iload_n 2, 1) := by decide +kernel
theorem dX9_offer_45 : decode cX9_offer 45 = .ok (.invokevirtual 220, 3) := by decide +kernel
theorem dX9_offer_48 : decode cX9_offer 48 = .ok (.ireturn, 1) := by decide +kernel
theorem dX9_back_0 : decode cX9_back 0 = .ok (.aload_n 0, 1) := by decide +kernel
theorem dX9_back_1 : decode cX9_back 1 = .ok (.iconst 0, 1) := by decide +kernel
theorem dX9_back_2 : decode cX9_back 2 = .ok (.putfield 44, 3) := by decide +kernel
theorem dX9_back_5 : decode cX9_back 5 = .ok (.aload_n 0, 1) := by decide +kernel
theorem dX9_back_6 : decode cX9_back 6 = .ok (.iload_n 1, 1) := by decide +kernel
theorem dX9_back_7 : decode cX9_back 7 = .ok (.invokevirtual 210, 3) := by decide +kernel
theorem dX9_back_10 : decode cX9_back 10 = .ok (.ifCond .ne 6, 3) := by decide +kernel
theorem dX9_back_13 : decode cX9_back 13 = .ok (.ldc 64, 2) := by decide +kernel
theorem dX9_back_15 : decode cX9_back 15 = .ok (.ireturn, 1) := by decide +kernel
theorem dX9_back_16 : decode cX9_back 16 = .ok (.aload_n 0, 1) := by decide +kernel
theorem dX9_back_17 : decode cX9_back 17 = .ok (.iload_n 1, 1) := by decide +kernel
theorem dX9_back_18 : decode cX9_back 18 = .ok (.iconst 4, 1) := by decide +kernel
theorem dX9_back_19 : decode cX9_back 19 = .ok (.invokevirtual 176, 3) := by decide +kernel
theorem dX9_back_22 : decode cX9_back 22 = .ok (.istore_n 2, 1) := by decide +kernel
theorem dX9_back_23 : decode cX9_back 23 = .ok (.iload_n 2, 1) := by decide +kernel
theorem dX9_back_24 : decode cX9_back 24 = .ok (.ldc 80, 2) := by decide +kernel
theorem dX9_back_26 : decode cX9_back 26 = .ok (.if_icmp .ne 6, 3) := by decide +kernel
theorem dX9_back_29 : decode cX9_back 29 = .ok (.ldc 216, 2) := by decide +kernel
theorem dX9_back_31 : decode cX9_back 31 = .ok (.ireturn, 1) := by decide +kernel
theorem dX9_back_32 : decode cX9_back 32 = .ok (.aload_n 0, 1) := by decide +kernel
theorem dX9_back_33 : decode cX9_back 33 = .ok (.invokevirtual 203, 3) := by decide +kernel
theorem dX9_back_36 : decode cX9_back 36 = .ok (.aload_n 0, 1) := by decide +kernel
theorem dX9_back_37 : decode cX9_back 37 = .ok (.getfield 19, 3) := by decide +kernel
theorem dX9_back_40 : decode cX9_back 40 = .ok (.bipush 12, 2) := by decide +kernel
theorem dX9_back_42 : decode cX9_back 42 = .ok (.bipush 6, 2) := by decide +kernel
theorem dX9_back_44 : decode cX9_back 44 = .ok (.iload_n 1, 1) := by decide +kernel
theorem dX9_back_45 : decode cX9_back 45 = .ok (.imul, 1) := by decide +kernel
theorem dX9_back_46 : decode cX9_back 46 = .ok (.iadd, 1) := by decide +kernel
theorem dX9_back_47 : decode cX9_back 47 = .ok (.iconst 4, 1) := by decide +kernel
theorem dX9_back_48 : decode cX9_back 48 = .ok (.iadd, 1) := by decide +kernel
theorem dX9_back_49 : decode cX9_back 49 = .ok (.ldc 80, 2) := by decide +kernel
theorem dX9_back_51 : decode cX9_back 51 = .ok (.iastore, 1) := by decide +kernel
theorem dX9_back_52 : decode cX9_back 52 = .ok (.aload_n 0, 1) := by decide +kernel
theorem dX9_back_53 : decode cX9_back 53 = .ok (.getfield 19, 3) := by decide +kernel
theorem dX9_back_56 : decode cX9_back 56 = .ok (.bipush 12, 2) := by decide +kernel
theorem dX9_back_58 : decode cX9_back 58 = .ok (.bipush 6, 2) := by decide +kernel
theorem dX9_back_60 : decode cX9_back 60 = .ok (.iload_n 1, 1) := by decide +kernel
theorem dX9_back_61 : decode cX9_back 61 = .ok (.imul, 1) := by decide +kernel
theorem dX9_back_62 : decode cX9_back 62 = .ok (.iadd, 1) := by decide +kernel
theorem dX9_back_63 : decode cX9_back 63 = .ok (.iconst 5, 1) := by decide +kernel
theorem dX9_back_64 : decode cX9_back 64 = .ok (.iadd, 1) := by decide +kernel
theorem dX9_back_65 : decode cX9_back 65 = .ok (.dup2, 1) := by decide +kernel
theorem dX9_back_66 : decode cX9_back 66 = .ok (.iaload, 1) := by decide +kernel
theorem dX9_back_67 : decode cX9_back 67 = .ok (.iconst 1, 1) := by decide +kernel
theorem dX9_back_68 : decode cX9_back 68 = .ok (.iadd, 1) := by decide +kernel
theorem dX9_back_69 : decode cX9_back 69 = .ok (.iastore, 1) := by decide +kernel
theorem dX9_back_70 : decode cX9_back 70 = .ok (.iload_n 2, 1) := by decide +kernel
theorem dX9_back_71 : decode cX9_back 71 = .ok (.ireturn, 1) := by decide +kernel
theorem dX9_undo_0 : decode cX9_undo 0 = .ok (.aload_n 0, 1) := by decide +kernel
theorem dX9_undo_1 : decode cX9_undo 1 = .ok (.iconst 0, 1) := by decide +kernel
theorem dX9_undo_2 : decode cX9_undo 2 = .ok (.putfield 44, 3) := by decide +kernel
theorem dX9_undo_5 : decode cX9_undo 5 = .ok (.aload_n 0, 1) := by decide +kernel
theorem dX9_undo_6 : decode cX9_undo 6 = .ok (.getfield 171, 3) := by decide +kernel
theorem dX9_undo_9 : decode cX9_undo 9 = .ok (.ifCond .ne 6, 3) := by decide +kernel
theorem dX9_undo_12 : decode cX9_undo 12 = .ok (.ldc 216, 2) := by decide +kernel
theorem dX9_undo_14 : decode cX9_undo 14 = .ok (.ireturn, 1) := by decide +kernel
theorem dX9_undo_15 : decode cX9_undo 15 = .ok (.aload_n 0, 1) := by decide +kernel
theorem dX9_undo_16 : decode cX9_undo 16 = .ok (.dup, 1) := by decide +kernel
theorem dX9_undo_17 : decode cX9_undo 17 = .ok (.getfield 171, 3) := by decide +kernel
theorem dX9_undo_20 : decode cX9_undo 20 = .ok (.iconst 1, 1) := by decide +kernel
theorem dX9_undo_21 : decode cX9_undo 21 = .ok (.isub, 1) := by decide +kernel
theorem dX9_undo_22 : decode cX9_undo 22 = .ok (.putfield 171, 3) := by decide +kernel
theorem dX9_undo_25 : decode cX9_undo 25 = .ok (.iconst 0, 1) := by decide +kernel
theorem dX9_undo_26 : decode cX9_undo 26 = .ok (.istore_n 1, 1) := by decide +kernel
theorem dX9_undo_27 : decode cX9_undo 27 = .ok (.iload_n 1, 1) := by decide +kernel
theorem dX9_undo_28 : decode cX9_undo 28 = .ok (.bipush 42, 2) := by decide +kernel
theorem dX9_undo_30 : decode cX9_undo 30 = .ok (.if_icmp .ge 29, 3) := by decide +kernel
theorem dX9_undo_33 : decode cX9_undo 33 = .ok (.aload_n 0, 1) := by decide +kernel
theorem dX9_undo_34 : decode cX9_undo 34 = .ok (.getfield 19, 3) := by decide +kernel
theorem dX9_undo_37 : decode cX9_undo 37 = .ok (.iload_n 1, 1) := by decide +kernel
theorem dX9_undo_38 : decode cX9_undo 38 = .ok (.aload_n 0, 1) := by decide +kernel
theorem dX9_undo_39 : decode cX9_undo 39 = .ok (.getfield 25, 3) := by decide +kernel
theorem dX9_undo_42 : decode cX9_undo 42 = .ok (.bipush 42, 2) := by decide +kernel
theorem dX9_undo_44 : decode cX9_undo 44 = .ok (.aload_n 0, 1) := by decide +kernel
theorem dX9_undo_45 : decode cX9_undo 45 = .ok (.getfield 171, 3) := by decide +kernel
theorem dX9_undo_48 : decode cX9_undo 48 = .ok (.imul, 1) := by decide +kernel
theorem dX9_undo_49 : decode cX9_undo 49 = .ok (.iload_n 1, 1) := by decide +kernel
theorem dX9_undo_50 : decode cX9_undo 50 = .ok (.iadd, 1) := by decide +kernel
theorem dX9_undo_51 : decode cX9_undo 51 = .ok (.iaload, 1) := by decide +kernel
theorem dX9_undo_52 : decode cX9_undo 52 = .ok (.iastore, 1) := by decide +kernel
theorem dX9_undo_53 : decode cX9_undo 53 = .ok (.iinc 1 1, 3) := by decide +kernel
theorem dX9_undo_56 : decode cX9_undo 56 = .ok (.goto (-29), 3) := by decide +kernel
theorem dX9_undo_59 : decode cX9_undo 59 = .ok (.aload_n 0, 1) := by decide +kernel
theorem dX9_undo_60 : decode cX9_undo 60 = .ok (.getfield 171, 3) := by decide +kernel
theorem dX9_undo_63 : decode cX9_undo 63 = .ok (.ireturn, 1) := by decide +kernel
theorem dX9_coin_0 : decode cX9_coin 0 = .ok (.aload_n 0, 1) := by decide +kernel
theorem dX9_coin_1 : decode cX9_coin 1 = .ok (.iconst 0, 1) := by decide +kernel
theorem dX9_coin_2 : decode cX9_coin 2 = .ok (.putfield 44, 3) := by decide +kernel
theorem dX9_coin_5 : decode cX9_coin 5 = .ok (.aload_n 0, 1) := by decide +kernel
theorem dX9_coin_6 : decode cX9_coin 6 = .ok (.iload_n 1, 1) := by decide +kernel
theorem dX9_coin_7 : decode cX9_coin 7 = .ok (.invokevirtual 226, 3) := by decide +kernel
theorem dX9_coin_10 : decode cX9_coin 10 = .ok (.ifCond .eq 15, 3) := by decide +kernel
theorem dX9_coin_13 : decode cX9_coin 13 = .ok (.aload_n 0, 1) := by decide +kernel
theorem dX9_coin_14 : decode cX9_coin 14 = .ok (.getfield 19, 3) := by decide +kernel
theorem dX9_coin_17 : decode cX9_coin 17 = .ok (.bipush 8, 2) := by decide +kernel
theorem dX9_coin_19 : decode cX9_coin 19 = .ok (.iload_n 1, 1) := by decide +kernel
theorem dX9_coin_20 : decode cX9_coin 20 = .ok (.iadd, 1) := by decide +kernel
theorem dX9_coin_21 : decode cX9_coin 21 = .ok (.iaload, 1) := by decide +kernel
theorem dX9_coin_22 : decode cX9_coin 22 = .ok (.goto 5, 3) := by decide +kernel
theorem dX9_coin_25 : decode cX9_coin 25 = .ok (.ldc 64, 2) := by decide +kernel
theorem dX9_coin_27 : decode cX9_coin 27 = .ok (.ireturn, 1) := by decide +kernel
theorem dX9_thing_0 : decode cX9_thing 0 = .ok (.aload_n 0, 1) := by decide +kernel
theorem dX9_thing_1 : decode cX9_thing 1 = .ok (.iconst 0, 1) := by decide +kernel
theorem dX9_thing_2 : decode cX9_thing 2 = .ok (.putfield 44, 3) := by decide +kernel
theorem dX9_thing_5 : decode cX9_thing 5 = .ok (.aload_n 0, 1) := by decide +kernel
theorem dX9_thing_6 : decode cX9_thing 6 = .ok (.iload_n 1, 1) := by decide +kernel
theorem dX9_thing_7 : decode cX9_thing 7 = .ok (.invokevirtual 210, 3) := by decide +kernel
theorem dX9_thing_10 : decode cX9_thing 10 = .ok (.ifCond .eq 24, 3) := by decide +kernel
theorem dX9_thing_13 : decode cX9_thing 13 = .ok (.iload_n 2, 1) := by decide +kernel
theorem dX9_thing_14 : decode cX9_thing 14 = .ok (.i2l, 1) := by decide +kernel
theorem dX9_thing_15 : decode cX9_thing 15 = .ok (.lconst 0, 1) := by decide +kernel
theorem dX9_thing_16 : decode cX9_thing 16 = .ok (.lconst 1, 1) := by decide +kernel
theorem dX9_thing_17 : decode cX9_thing 17 = .ok (.invokestatic 54, 3) := by decide +kernel
theorem dX9_thing_20 : decode cX9_thing 20 = .ok (.ifCond .eq 14, 3) := by decide +kernel
theorem dX9_thing_23 : decode cX9_thing 23 = .ok (.aload_n 0, 1) := by decide +kernel
theorem dX9_thing_24 : decode cX9_thing 24 = .ok (.iload_n 1, 1) := by decide +kernel
theorem dX9_thing_25 : decode cX9_thing 25 = .ok (.iconst 4, 1) := by decide +kernel
theorem dX9_thing_26 : decode cX9_thing 26 = .ok (.iload_n 2, 1) := by decide +kernel
theorem dX9_thing_27 : decode cX9_thing 27 = .ok (.iadd, 1) := by decide +kernel
theorem dX9_thing_28 : decode cX9_thing 28 = .ok (.invokevirtual 176, 3) := by decide +kernel
theorem dX9_thing_31 : decode cX9_thing 31 = .ok (.goto 5, 3) := by decide +kernel
theorem dX9_thing_34 : decode cX9_thing 34 = .ok (.ldc 64, 2) := by decide +kernel
theorem dX9_thing_36 : decode cX9_thing 36 = .ok (.ireturn, 1) := by decide +kernel
theorem dX9_worth_0 : decode cX9_worth 0 = .ok (.aload_n 0, 1) := by decide +kernel
theorem dX9_worth_1 : decode cX9_worth 1 = .ok (.iconst 0, 1) := by decide +kernel
theorem dX9_worth_2 : decode cX9_worth 2 = .ok (.putfield 44, 3) := by decide +kernel
theorem dX9_worth_5 : decode cX9_worth 5 = .ok (.aload_n 0, 1) := by decide +kernel
theorem dX9_worth_6 : decode cX9_worth 6 = .ok (.iload_n 1, 1) := by decide +kernel
theorem dX9_worth_7 : decode cX9_worth 7 = .ok (.invokevirtual 210, 3) := by decide +kernel
theorem dX9_worth_10 : decode cX9_worth 10 = .ok (.ifCond .eq 21, 3) := by decide +kernel
theorem dX9_worth_13 : decode cX9_worth 13 = .ok (.aload_n 0, 1) := by decide +kernel
theorem dX9_worth_14 : decode cX9_worth 14 = .ok (.iload_n 2, 1) := by decide +kernel
theorem dX9_worth_15 : decode cX9_worth 15 = .ok (.invokevirtual 226, 3) := by decide +kernel
theorem dX9_worth_18 : decode cX9_worth 18 = .ok (.ifCond .eq 13, 3) := by decide +kernel
theorem dX9_worth_21 : decode cX9_worth 21 = .ok (.iload_n 3, 1) := by decide +kernel
theorem dX9_worth_22 : decode cX9_worth 22 = .ok (.i2l, 1) := by decide +kernel
theorem dX9_worth_23 : decode cX9_worth 23 = .ok (.lconst 0, 1) := by decide +kernel
theorem dX9_worth_24 : decode cX9_worth 24 = .ok (.lconst 1, 1) := by decide +kernel
theorem dX9_worth_25 : decode cX9_worth 25 = .ok (.invokestatic 54, 3) := by decide +kernel
theorem dX9_worth_28 : decode cX9_worth 28 = .ok (.ifCond .ne 6, 3) := by decide +kernel
theorem dX9_worth_31 : decode cX9_worth 31 = .ok (.ldc 64, 2) := by decide +kernel
theorem dX9_worth_33 : decode cX9_worth 33 = .ok (.ireturn, 1) := by decide +kernel
theorem dX9_worth_34 : decode cX9_worth 34 = .ok (.iload_n 3, 1) := by decide +kernel
theorem dX9_worth_35 : decode cX9_worth 35 = .ok (.ifCond .ne 12, 3) := by decide +kernel
theorem dX9_worth_38 : decode cX9_worth 38 = .ok (.aload_n 0, 1) := by decide +kernel
theorem dX9_worth_39 : decode cX9_worth 39 = .ok (.iload_n 1, 1) := by decide +kernel
theorem dX9_worth_40 : decode cX9_worth 40 = .ok (.iload_n 2, 1) := by decide +kernel
theorem dX9_worth_41 : decode cX9_worth 41 = .ok (.invokevirtual 179, 3) := by decide +kernel
theorem dX9_worth_44 : decode cX9_worth 44 = .ok (.goto 9, 3) := by decide +kernel
theorem dX9_worth_47 : decode cX9_worth 47 = .ok (.aload_n 0, 1) := by decide +kernel
theorem dX9_worth_48 : decode cX9_worth 48 = .ok (.iload_n 1, 1) := by decide +kernel
theorem dX9_worth_49 : decode cX9_worth 49 = .ok (.iload_n 2, 1) := by decide +kernel
theorem dX9_worth_50 : decode cX9_worth 50 = .ok (.invokevirtual 182, 3) := by decide +kernel
theorem dX9_worth_53 : decode cX9_worth 53 = .ok (.ireturn, 1) := by decide +kernel
theorem dX9_told_0 : decode cX9_told 0 = .ok (.iload_n 0, 1) := by decide +kernel
theorem dX9_told_1 : decode cX9_told 1 = .ok (.ifCond .ge 8, 3) := by decide +kernel
theorem dX9_told_4 : decode cX9_told 4 = .ok (.iload_n 0, 1) := by decide +kernel
theorem dX9_told_5 : decode cX9_told 5 = .ok (.ineg, 1) := by decide +kernel
theorem dX9_told_6 : decode cX9_told 6 = .ok (.goto 4, 3) := by decide +kernel
theorem dX9_told_9 : decode cX9_told 9 = .ok (.iload_n 0, 1) := by decide +kernel
theorem dX9_told_10 : decode cX9_told 10 = .ok (.istore_n 2, 1) := by decide +kernel
theorem dX9_told_11 : decode cX9_told 11 = .ok (.bipush 12, 2) := by decide +kernel
theorem dX9_told_13 : decode cX9_told 13 = .ok (.istore_n 3, 1) := by decide +kernel
theorem dX9_told_14 : decode cX9_told 14 = .ok (.iload_n 3, 1) := by decide +kernel
theorem dX9_told_15 : decode cX9_told 15 = .ok (.ifCond .eq 16, 3) := by decide +kernel
theorem dX9_told_18 : decode cX9_told 18 = .ok (.iload_n 2, 1) := by decide +kernel
theorem dX9_told_19 : decode cX9_told 19 = .ok (.iload_n 3, 1) := by decide +kernel
theorem dX9_told_20 : decode cX9_told 20 = .ok (.irem, 1) := by decide +kernel
theorem dX9_told_21 : decode cX9_told 21 = .ok (.istore 4, 2) := by decide +kernel
theorem dX9_told_23 : decode cX9_told 23 = .ok (.iload_n 3, 1) := by decide +kernel
theorem dX9_told_24 : decode cX9_told 24 = .ok (.istore_n 2, 1) := by decide +kernel
theorem dX9_told_25 : decode cX9_told 25 = .ok (.iload 4, 2) := by decide +kernel
theorem dX9_told_27 : decode cX9_told 27 = .ok (.istore_n 3, 1) := by decide +kernel
theorem dX9_told_28 : decode cX9_told 28 = .ok (.goto (-14), 3) := by decide +kernel
theorem dX9_told_31 : decode cX9_told 31 = .ok (.iload_n 1, 1) := by decide +kernel
theorem dX9_told_32 : decode cX9_told 32 = .ok (.ifCond .ne 7, 3) := by decide +kernel
theorem dX9_told_35 : decode cX9_told 35 = .ok (.iload_n 0, 1) := by decide +kernel
theorem dX9_told_36 : decode cX9_told 36 = .ok (.goto 5, 3) := by decide +kernel
theorem dX9_told_39 : decode cX9_told 39 = .ok (.bipush 12, 2) := by decide +kernel
theorem dX9_told_41 : decode cX9_told 41 = .ok (.iload_n 2, 1) := by decide +kernel
theorem dX9_told_42 : decode cX9_told 42 = .ok (.idiv, 1) := by decide +kernel
theorem dX9_told_43 : decode cX9_told 43 = .ok (.ireturn, 1) := by decide +kernel
theorem dX9_gain_0 : decode cX9_gain 0 = .ok (.aload_n 0, 1) := by decide +kernel
theorem dX9_gain_1 : decode cX9_gain 1 = .ok (.iconst 0, 1) := by decide +kernel
theorem dX9_gain_2 : decode cX9_gain 2 = .ok (.putfield 44, 3) := by decide +kernel
theorem dX9_gain_5 : decode cX9_gain 5 = .ok (.aload_n 0, 1) := by decide +kernel
theorem dX9_gain_6 : decode cX9_gain 6 = .ok (.iload_n 1, 1) := by decide +kernel
theorem dX9_gain_7 : decode cX9_gain 7 = .ok (.invokevirtual 210, 3) := by decide +kernel
theorem dX9_gain_10 : decode cX9_gain 10 = .ok (.ifCond .eq 29, 3) := by decide +kernel
theorem dX9_gain_13 : decode cX9_gain 13 = .ok (.iload_n 2, 1) := by decide +kernel
theorem dX9_gain_14 : decode cX9_gain 14 = .ok (.invokestatic 58, 3) := by decide +kernel
theorem dX9_gain_17 : decode cX9_gain 17 = .ok (.ifCond .eq 22, 3) := by decide +kernel
theorem dX9_gain_20 : decode cX9_gain 20 = .ok (.aload_n 0, 1) := by decide +kernel
theorem dX9_gain_21 : decode cX9_gain 21 = .ok (.iload_n 3, 1) := by decide +kernel
theorem dX9_gain_22 : decode cX9_gain 22 = .ok (.invokevirtual 226, 3) := by decide +kernel
theorem dX9_gain_25 : decode cX9_gain 25 = .ok (.ifCond .eq 14, 3) := by decide +kernel
theorem dX9_gain_28 : decode cX9_gain 28 = .ok (.iload 4, 2) := by decide +kernel
theorem dX9_gain_30 : decode cX9_gain 30 = .ok (.i2l, 1) := by decide +kernel
theorem dX9_gain_31 : decode cX9_gain 31 = .ok (.lconst 0, 1) := by decide +kernel
theorem dX9_gain_32 : decode cX9_gain 32 = .ok (.lconst 1, 1) := by decide +kernel
theorem dX9_gain_33 : decode cX9_gain 33 = .ok (.invokestatic 54, 3) := by decide +kernel
theorem dX9_gain_36 : decode cX9_gain 36 = .ok (.ifCond .ne 6, 3) := by decide +kernel
theorem dX9_gain_39 : decode cX9_gain 39 = .ok (.ldc 64, 2) := by decide +kernel
theorem dX9_gain_41 : decode cX9_gain 41 = .ok (.ireturn, 1) := by decide +kernel
theorem dX9_gain_42 : decode cX9_gain 42 = .ok (.aload_n 0, 1) := by decide +kernel
theorem dX9_gain_43 : decode cX9_gain 43 = .ok (.iload_n 2, 1) := by decide +kernel
theorem dX9_gain_44 : decode cX9_gain 44 = .ok (.invokevirtual 217, 3) := by decide +kernel
theorem dX9_gain_47 : decode cX9_gain 47 = .ok (.istore 5, 2) := by decide +kernel
theorem dX9_gain_49 : decode cX9_gain 49 = .ok (.iload 5, 2) := by decide +kernel
theorem dX9_gain_51 : decode cX9_gain 51 = .ok (.ifCond .ge 8, 3) := by decide +kernel
theorem dX9_gain_54 : decode cX9_gain 54 = .ok (.iload 5, 2) := by decide +kernel
theorem dX9_gain_56 : decode cX9_gain 56 = .ok (.goto 20, 3) := by decide +kernel
theorem dX9_gain_59 : decode cX9_gain 59 = .ok (.aload_n 0, 1) := by decide +kernel
theorem dX9_gain_60 : decode cX9_gain 60 = .ok (.aload_n 0, 1) := by decide +kernel
theorem dX9_gain_61 : decode cX9_gain 61 = .ok (.getfield 19, 3) := by decide +kernel
theorem dX9_gain_64 : decode cX9_gain 64 = .ok (.iconst 0, 1) := by decide +kernel
theorem dX9_gain_65 : decode cX9_gain 65 = .ok (.iaload, 1) := by decide +kernel
theorem dX9_gain_66 : decode cX9_gain 66 = .ok (.iload_n 1, 1) := by decide +kernel
theorem dX9_gain_67 : decode cX9_gain 67 = .ok (.iload_n 3, 1) := by decide +kernel
theorem dX9_gain_68 : decode cX9_gain 68 = .ok (.invokevirtual 197, 3) := by decide +kernel
theorem dX9_gain_71 : decode cX9_gain 71 = .ok (.iload 4, 2) := by decide +kernel
theorem dX9_gain_73 : decode cX9_gain 73 = .ok (.invokestatic 229, 3) := by decide +kernel
theorem dX9_gain_76 : decode cX9_gain 76 = .ok (.ireturn, 1) := by decide +kernel
theorem dX9_best_0 : decode cX9_best 0 = .ok (.aload_n 0, 1) := by decide +kernel
theorem dX9_best_1 : decode cX9_best 1 = .ok (.iconst 0, 1) := by decide +kernel
theorem dX9_best_2 : decode cX9_best 2 = .ok (.putfield 44, 3) := by decide +kernel
theorem dX9_best_5 : decode cX9_best 5 = .ok (.aload_n 0, 1) := by decide +kernel
theorem dX9_best_6 : decode cX9_best 6 = .ok (.iload_n 1, 1) := by decide +kernel
theorem dX9_best_7 : decode cX9_best 7 = .ok (.invokevirtual 210, 3) := by decide +kernel
theorem dX9_best_10 : decode cX9_best 10 = .ok (.ifCond .eq 18, 3) := by decide +kernel
theorem dX9_best_13 : decode cX9_best 13 = .ok (.iload_n 2, 1) := by decide +kernel
theorem dX9_best_14 : decode cX9_best 14 = .ok (.invokestatic 58, 3) := by decide +kernel
theorem dX9_best_17 : decode cX9_best 17 = .ok (.ifCond .eq 11, 3) := by decide +kernel
theorem dX9_best_20 : decode cX9_best 20 = .ok (.aload_n 0, 1) := by decide +kernel
theorem dX9_best_21 : decode cX9_best 21 = .ok (.iload_n 3, 1) := by decide +kernel
theorem dX9_best_22 : decode cX9_best 22 = .ok (.invokevirtual 226, 3) := by decide +kernel
theorem dX9_best_25 : decode cX9_best 25 = .ok (.ifCond .ne 6, 3) := by decide +kernel
theorem dX9_best_28 : decode cX9_best 28 = .ok (.ldc 64, 2) := by decide +kernel
theorem dX9_best_30 : decode cX9_best 30 = .ok (.ireturn, 1) := by decide +kernel
theorem dX9_best_31 : decode cX9_best 31 = .ok (.aload_n 0, 1) := by decide +kernel
theorem dX9_best_32 : decode cX9_best 32 = .ok (.iload_n 2, 1) := by decide +kernel
theorem dX9_best_33 : decode cX9_best 33 = .ok (.invokevirtual 217, 3) := by decide +kernel
theorem dX9_best_36 : decode cX9_best 36 = .ok (.istore 4, 2) := by decide +kernel
theorem dX9_best_38 : decode cX9_best 38 = .ok (.iload 4, 2) := by decide +kernel
theorem dX9_best_40 : decode cX9_best 40 = .ok (.ifCond .ge 8, 3) := by decide +kernel
theorem dX9_best_43 : decode cX9_best 43 = .ok (.iload 4, 2) := by decide +kernel
theorem dX9_best_45 : decode cX9_best 45 = .ok (.goto 15, 3) := by decide +kernel
theorem dX9_best_48 : decode cX9_best 48 = .ok (.aload_n 0, 1) := by decide +kernel
theorem dX9_best_49 : decode cX9_best 49 = .ok (.aload_n 0, 1) := by decide +kernel
theorem dX9_best_50 : decode cX9_best 50 = .ok (.getfield 19, 3) := by decide +kernel
theorem dX9_best_53 : decode cX9_best 53 = .ok (.iconst 0, 1) := by decide +kernel
theorem dX9_best_54 : decode cX9_best 54 = .ok (.iaload, 1) := by decide +kernel
theorem dX9_best_55 : decode cX9_best 55 = .ok (.iload_n 1, 1) := by decide +kernel
theorem dX9_best_56 : decode cX9_best 56 = .ok (.iload_n 3, 1) := by decide +kernel
theorem dX9_best_57 : decode cX9_best 57 = .ok (.invokevirtual 200, 3) := by decide +kernel
theorem dX9_best_60 : decode cX9_best 60 = .ok (.ireturn, 1) := by decide +kernel
theorem dX9_layRow_0 : decode cX9_layRow 0 = .ok (.iload_n 1, 1) := by decide +kernel
theorem dX9_layRow_1 : decode cX9_layRow 1 = .ok (.istore_n 2, 1) := by decide +kernel
theorem dX9_layRow_2 : decode cX9_layRow 2 = .ok (.aload_n 0, 1) := by decide +kernel
theorem dX9_layRow_3 : decode cX9_layRow 3 = .ok (.getfield 19, 3) := by decide +kernel
theorem dX9_layRow_6 : decode cX9_layRow 6 = .ok (.iconst 2, 1) := by decide +kernel
theorem dX9_layRow_7 : decode cX9_layRow 7 = .ok (.iaload, 1) := by decide +kernel
theorem dX9_layRow_8 : decode cX9_layRow 8 = .ok (.iconst 1, 1) := by decide +kernel
theorem dX9_layRow_9 : decode cX9_layRow 9 = .ok (.isub, 1) := by decide +kernel
theorem dX9_layRow_10 : decode cX9_layRow 10 = .ok (.istore_n 3, 1) := by decide +kernel
theorem dX9_layRow_11 : decode cX9_layRow 11 = .ok (.iload_n 3, 1) := by decide +kernel
theorem dX9_layRow_12 : decode cX9_layRow 12 = .ok (.ifCond .lt 24, 3) := by decide +kernel
theorem dX9_layRow_15 : decode cX9_layRow 15 = .ok (.aload_n 0, 1) := by decide +kernel
theorem dX9_layRow_16 : decode cX9_layRow 16 = .ok (.getfield 31, 3) := by decide +kernel
theorem dX9_layRow_19 : decode cX9_layRow 19 = .ok (.iload_n 3, 1) := by decide +kernel
theorem dX9_layRow_20 : decode cX9_layRow 20 = .ok (.iload_n 2, 1) := by decide +kernel
theorem dX9_layRow_21 : decode cX9_layRow 21 = .ok (.bipush 6, 2) := by decide +kernel
theorem dX9_layRow_23 : decode cX9_layRow 23 = .ok (.irem, 1) := by decide +kernel
theorem dX9_layRow_24 : decode cX9_layRow 24 = .ok (.iastore, 1) := by decide +kernel
theorem dX9_layRow_25 : decode cX9_layRow 25 = .ok (.iload_n 2, 1) := by decide +kernel
theorem dX9_layRow_26 : decode cX9_layRow 26 = .ok (.bipush 6, 2) := by decide +kernel
theorem dX9_layRow_28 : decode cX9_layRow 28 = .ok (.idiv, 1) := by decide +kernel
theorem dX9_layRow_29 : decode cX9_layRow 29 = .ok (.istore_n 2, 1) := by decide +kernel
theorem dX9_layRow_30 : decode cX9_layRow 30 = .ok (.iinc 3 (-1), 3) := by decide +kernel
theorem dX9_layRow_33 : decode cX9_layRow 33 = .ok (.goto (-22), 3) := by decide +kernel
theorem dX9_layRow_36 : decode cX9_layRow 36 = .ok (.return_, 1) := by decide +kernel
theorem dX9_rests_0 : decode cX9_rests 0 = .ok (.aload_n 0, 1) := by decide +kernel
theorem dX9_rests_1 : decode cX9_rests 1 = .ok (.iconst 0, 1) := by decide +kernel
theorem dX9_rests_2 : decode cX9_rests 2 = .ok (.putfield 44, 3) := by decide +kernel
theorem dX9_rests_5 : decode cX9_rests 5 = .ok (.aload_n 0, 1) := by decide +kernel
theorem dX9_rests_6 : decode cX9_rests 6 = .ok (.iload_n 1, 1) := by decide +kernel
theorem dX9_rests_7 : decode cX9_rests 7 = .ok (.invokevirtual 210, 3) := by decide +kernel
theorem dX9_rests_10 : decode cX9_rests 10 = .ok (.ifCond .eq 23, 3) := by decide +kernel
theorem dX9_rests_13 : decode cX9_rests 13 = .ok (.iload_n 2, 1) := by decide +kernel
theorem dX9_rests_14 : decode cX9_rests 14 = .ok (.i2l, 1) := by decide +kernel
theorem dX9_rests_15 : decode cX9_rests 15 = .ok (.ldc2_w 232, 3) := by decide +kernel
theorem dX9_rests_18 : decode cX9_rests 18 = .ok (.aload_n 0, 1) := by decide +kernel
theorem dX9_rests_19 : decode cX9_rests 19 = .ok (.getfield 19, 3) := by decide +kernel
theorem dX9_rests_22 : decode cX9_rests 22 = .ok (.iconst 2, 1) := by decide +kernel
theorem dX9_rests_23 : decode cX9_rests 23 = .ok (.iaload, 1) := by decide +kernel
theorem dX9_rests_24 : decode cX9_rests 24 = .ok (.iconst 1, 1) := by decide +kernel
theorem dX9_rests_25 : decode cX9_rests 25 = .ok (.isub, 1) := by decide +kernel
theorem dX9_rests_26 : decode cX9_rests 26 = .ok (.i2l, 1) := by decide +kernel
theorem dX9_rests_27 : decode cX9_rests 27 = .ok (.invokestatic 54, 3) := by decide +kernel
theorem dX9_rests_30 : decode cX9_rests 30 = .ok (.ifCond .ne 6, 3) := by decide +kernel
theorem dX9_rests_33 : decode cX9_rests 33 = .ok (.ldc 64, 2) := by decide +kernel
theorem dX9_rests_35 : decode cX9_rests 35 = .ok (.ireturn, 1) := by decide +kernel
theorem dX9_rests_36 : decode cX9_rests 36 = .ok (.iconst 1, 1) := by decide +kernel
theorem dX9_rests_37 : decode cX9_rests 37 = .ok (.istore_n 3, 1) := by decide +kernel
theorem dX9_rests_38 : decode cX9_rests 38 = .ok (.iconst 0, 1) := by decide +kernel
theorem dX9_rests_39 : decode cX9_rests 39 = .ok (.istore 4, 2) := by decide +kernel
theorem dX9_rests_41 : decode cX9_rests 41 = .ok (.iload 4, 2) := by decide +kernel
theorem dX9_rests_43 : decode cX9_rests 43 = .ok (.aload_n 0, 1) := by decide +kernel
theorem dX9_rests_44 : decode cX9_rests 44 = .ok (.getfield 19, 3) := by decide +kernel
theorem dX9_rests_47 : decode cX9_rests 47 = .ok (.iconst 2, 1) := by decide +kernel
theorem dX9_rests_48 : decode cX9_rests 48 = .ok (.iaload, 1) := by decide +kernel
theorem dX9_rests_49 : decode cX9_rests 49 = .ok (.if_icmp .ge 14, 3) := by decide +kernel
theorem dX9_rests_52 : decode cX9_rests 52 = .ok (.iload_n 3, 1) := by decide +kernel
theorem dX9_rests_53 : decode cX9_rests 53 = .ok (.bipush 6, 2) := by decide +kernel
theorem dX9_rests_55 : decode cX9_rests 55 = .ok (.imul, 1) := by decide +kernel
theorem dX9_rests_56 : decode cX9_rests 56 = .ok (.istore_n 3, 1) := by decide +kernel
theorem dX9_rests_57 : decode cX9_rests 57 = .ok (.iinc 4 1, 3) := by decide +kernel
theorem dX9_rests_60 : decode cX9_rests 60 = .ok (.goto (-19), 3) := by decide +kernel
theorem dX9_rests_63 : decode cX9_rests 63 = .ok (.iconst 0, 1) := by decide +kernel
theorem dX9_rests_64 : decode cX9_rests 64 = .ok (.istore 4, 2) := by decide +kernel
theorem dX9_rests_66 : decode cX9_rests 66 = .ok (.ldc 80, 2) := by decide +kernel
theorem dX9_rests_68 : decode cX9_rests 68 = .ok (.istore 5, 2) := by decide +kernel
theorem dX9_rests_70 : decode cX9_rests 70 = .ok (.iconst 0, 1) := by decide +kernel
theorem dX9_rests_71 : decode cX9_rests 71 = .ok (.istore 6, 2) := by decide +kernel
theorem dX9_rests_73 : decode cX9_rests 73 = .ok (.iload 6, 2) := by decide +kernel
theorem dX9_rests_75 : decode cX9_rests 75 = .ok (.iload_n 3, 1) := by decide +kernel
theorem dX9_rests_76 : decode cX9_rests 76 = .ok (.if_icmp .ge 48, 3) := by decide +kernel
theorem dX9_rests_79 : decode cX9_rests 79 = .ok (.aload_n 0, 1) := by decide +kernel
theorem dX9_rests_80 : decode cX9_rests 80 = .ok (.iload 6, 2) := by decide +kernel
theorem dX9_rests_82 : decode cX9_rests 82 = .ok (.invokevirtual 234, 3) := by decide +kernel
theorem dX9_rests_85 : decode cX9_rests 85 = .ok (.aload_n 0, 1) := by decide +kernel
theorem dX9_rests_86 : decode cX9_rests 86 = .ok (.aload_n 0, 1) := by decide +kernel
theorem dX9_rests_87 : decode cX9_rests 87 = .ok (.getfield 19, 3) := by decide +kernel
theorem dX9_rests_90 : decode cX9_rests 90 = .ok (.iconst 0, 1) := by decide +kernel
theorem dX9_rests_91 : decode cX9_rests 91 = .ok (.iaload, 1) := by decide +kernel
theorem dX9_rests_92 : decode cX9_rests 92 = .ok (.iload_n 1, 1) := by decide +kernel
theorem dX9_rests_93 : decode cX9_rests 93 = .ok (.invokevirtual 237, 3) := by decide +kernel
theorem dX9_rests_96 : decode cX9_rests 96 = .ok (.ifCond .eq 22, 3) := by decide +kernel
theorem dX9_rests_99 : decode cX9_rests 99 = .ok (.iinc 4 1, 3) := by decide +kernel
theorem dX9_rests_102 : decode cX9_rests 102 = .ok (.iload 5, 2) := by decide +kernel
theorem dX9_rests_104 : decode cX9_rests 104 = .ok (.ldc 80, 2) := by decide +kernel
theorem dX9_rests_106 : decode cX9_rests 106 = .ok (.if_icmp .ne 8, 3) := by decide +kernel
theorem dX9_rests_109 : decode cX9_rests 109 = .ok (.iload 6, 2) := by decide +kernel
theorem dX9_rests_111 : decode cX9_rests 111 = .ok (.goto 5, 3) := by decide +kernel
theorem dX9_rests_114 : decode cX9_rests 114 = .ok (.iload 5, 2) := by decide +kernel
theorem dX9_rests_116 : decode cX9_rests 116 = .ok (.istore 5, 2) := by decide +kernel
theorem dX9_rests_118 : decode cX9_rests 118 = .ok (.iinc 6 1, 3) := by decide +kernel
theorem dX9_rests_121 : decode cX9_rests 121 = .ok (.goto (-48), 3) := by decide +kernel
theorem dX9_rests_124 : decode cX9_rests 124 = .ok (.iload_n 2, 1) := by decide +kernel
theorem dX9_rests_125 : decode cX9_rests 125 = .ok (.ifCond .lt 10, 3) := by decide +kernel
theorem dX9_rests_128 : decode cX9_rests 128 = .ok (.iload 5, 2) := by decide +kernel
theorem dX9_rests_130 : decode cX9_rests 130 = .ok (.ldc 80, 2) := by decide +kernel
theorem dX9_rests_132 : decode cX9_rests 132 = .ok (.if_icmp .ne 15, 3) := by decide +kernel
theorem dX9_rests_135 : decode cX9_rests 135 = .ok (.iload_n 2, 1) := by decide +kernel
theorem dX9_rests_136 : decode cX9_rests 136 = .ok (.ifCond .ge 8, 3) := by decide +kernel
theorem dX9_rests_139 : decode cX9_rests 139 = .ok (.iload 4, 2) := by decide +kernel
theorem dX9_rests_141 : decode cX9_rests 141 = .ok (.goto 5, 3) := by decide +kernel
theorem dX9_rests_144 : decode cX9_rests 144 = .ok (.ldc 80, 2) := by decide +kernel
theorem dX9_rests_146 : decode cX9_rests 146 = .ok (.ireturn, 1) := by decide +kernel
theorem dX9_rests_147 : decode cX9_rests 147 = .ok (.aload_n 0, 1) := by decide +kernel
theorem dX9_rests_148 : decode cX9_rests 148 = .ok (.iload 5, 2) := by decide +kernel
theorem dX9_rests_150 : decode cX9_rests 150 = .ok (.invokevirtual 234, 3) := by decide +kernel
theorem dX9_rests_153 : decode cX9_rests 153 = .ok (.aload_n 0, 1) := by decide +kernel
theorem dX9_rests_154 : decode cX9_rests 154 = .ok (.getfield 31, 3) := by decide +kernel
theorem dX9_rests_157 : decode cX9_rests 157 = .ok (.iload_n 2, 1) := by decide +kernel
theorem dX9_rests_158 : decode cX9_rests 158 = .ok (.iaload, 1) := by decide +kernel
theorem dX9_rests_159 : decode cX9_rests 159 = .ok (.ireturn, 1) := by decide +kernel
theorem dX9_rounds_0 : decode cX9_rounds 0 = .ok (.aload_n 0, 1) := by decide +kernel
theorem dX9_rounds_1 : decode cX9_rounds 1 = .ok (.iconst 0, 1) := by decide +kernel
theorem dX9_rounds_2 : decode cX9_rounds 2 = .ok (.putfield 44, 3) := by decide +kernel
theorem dX9_rounds_5 : decode cX9_rounds 5 = .ok (.aload_n 0, 1) := by decide +kernel
theorem dX9_rounds_6 : decode cX9_rounds 6 = .ok (.iload_n 1, 1) := by decide +kernel
theorem dX9_rounds_7 : decode cX9_rounds 7 = .ok (.invokevirtual 210, 3) := by decide +kernel
theorem dX9_rounds_10 : decode cX9_rounds 10 = .ok (.ifCond .eq 30, 3) := by decide +kernel
theorem dX9_rounds_13 : decode cX9_rounds 13 = .ok (.iload_n 2, 1) := by decide +kernel
theorem dX9_rounds_14 : decode cX9_rounds 14 = .ok (.invokestatic 58, 3) := by decide +kernel
theorem dX9_rounds_17 : decode cX9_rounds 17 = .ok (.ifCond .eq 23, 3) := by decide +kernel
theorem dX9_rounds_20 : decode cX9_rounds 20 = .ok (.iload_n 3, 1) := by decide +kernel
theorem dX9_rounds_21 : decode cX9_rounds 21 = .ok (.i2l, 1) := by decide +kernel
theorem dX9_rounds_22 : decode cX9_rounds 22 = .ok (.ldc2_w 232, 3) := by decide +kernel
theorem dX9_rounds_25 : decode cX9_rounds 25 = .ok (.aload_n 0, 1) := by decide +kernel
theorem dX9_rounds_26 : decode cX9_rounds 26 = .ok (.getfield 19, 3) := by decide +kernel
theorem dX9_rounds_29 : decode cX9_rounds 29 = .ok (.iconst 2, 1) := by decide +kernel
theorem dX9_rounds_30 : decode cX9_rounds 30 = .ok (.iaload, 1) := by decide +kernel
theorem dX9_rounds_31 : decode cX9_rounds 31 = .ok (.iconst 1, 1) := by decide +kernel
theorem dX9_rounds_32 : decode cX9_rounds 32 = .ok (.isub, 1) := by decide +kernel
theorem dX9_rounds_33 : decode cX9_rounds 33 = .ok (.i2l, 1) := by decide +kernel
theorem dX9_rounds_34 : decode cX9_rounds 34 = .ok (.invokestatic 54, 3) := by decide +kernel
theorem dX9_rounds_37 : decode cX9_rounds 37 = .ok (.ifCond .ne 6, 3) := by decide +kernel
theorem dX9_rounds_40 : decode cX9_rounds 40 = .ok (.ldc 64, 2) := by decide +kernel
theorem dX9_rounds_42 : decode cX9_rounds 42 = .ok (.ireturn, 1) := by decide +kernel
theorem dX9_rounds_43 : decode cX9_rounds 43 = .ok (.aload_n 0, 1) := by decide +kernel
theorem dX9_rounds_44 : decode cX9_rounds 44 = .ok (.iload_n 2, 1) := by decide +kernel
theorem dX9_rounds_45 : decode cX9_rounds 45 = .ok (.invokevirtual 217, 3) := by decide +kernel
theorem dX9_rounds_48 : decode cX9_rounds 48 = .ok (.istore 4, 2) := by decide +kernel
theorem dX9_rounds_50 : decode cX9_rounds 50 = .ok (.iload 4, 2) := by decide +kernel
theorem dX9_rounds_52 : decode cX9_rounds 52 = .ok (.ifCond .ge 6, 3) := by decide +kernel
theorem dX9_rounds_55 : decode cX9_rounds 55 = .ok (.iload 4, 2) := by decide +kernel
theorem dX9_rounds_57 : decode cX9_rounds 57 = .ok (.ireturn, 1) := by decide +kernel
theorem dX9_rounds_58 : decode cX9_rounds 58 = .ok (.ldc 80, 2) := by decide +kernel
theorem dX9_rounds_60 : decode cX9_rounds 60 = .ok (.istore 5, 2) := by decide +kernel
theorem dX9_rounds_62 : decode cX9_rounds 62 = .ok (.iconst 1, 1) := by decide +kernel
theorem dX9_rounds_63 : decode cX9_rounds 63 = .ok (.istore 6, 2) := by decide +kernel
theorem dX9_rounds_65 : decode cX9_rounds 65 = .ok (.iload 6, 2) := by decide +kernel
theorem dX9_rounds_67 : decode cX9_rounds 67 = .ok (.bipush 20, 2) := by decide +kernel
theorem dX9_rounds_69 : decode cX9_rounds 69 = .ok (.if_icmp .gt 101, 3) := by decide +kernel
theorem dX9_rounds_72 : decode cX9_rounds 72 = .ok (.iload 5, 2) := by decide +kernel
theorem dX9_rounds_74 : decode cX9_rounds 74 = .ok (.ldc 80, 2) := by decide +kernel
theorem dX9_rounds_76 : decode cX9_rounds 76 = .ok (.if_icmp .ne 94, 3) := by decide +kernel
theorem dX9_rounds_79 : decode cX9_rounds 79 = .ok (.iconst 1, 1) := by decide +kernel
theorem dX9_rounds_80 : decode cX9_rounds 80 = .ok (.istore 7, 2) := by decide +kernel
theorem dX9_rounds_82 : decode cX9_rounds 82 = .ok (.iconst 0, 1) := by decide +kernel
theorem dX9_rounds_83 : decode cX9_rounds 83 = .ok (.istore 8, 2) := by decide +kernel
theorem dX9_rounds_85 : decode cX9_rounds 85 = .ok (.iload 8, 2) := by decide +kernel
theorem dX9_rounds_87 : decode cX9_rounds 87 = .ok (.aload_n 0, 1) := by decide +kernel
theorem dX9_rounds_88 : decode cX9_rounds 88 = .ok (.getfield 19, 3) := by decide +kernel
theorem dX9_rounds_91 : decode cX9_rounds 91 = .ok (.iconst 2, 1) := by decide +kernel
theorem dX9_rounds_92 : decode cX9_rounds 92 = .ok (.iaload, 1) := by decide +kernel
theorem dX9_rounds_93 : decode cX9_rounds 93 = .ok (.if_icmp .ge 57, 3) := by decide +kernel
theorem dX9_rounds_96 : decode cX9_rounds 96 = .ok (.aload_n 0, 1) := by decide +kernel
theorem dX9_rounds_97 : decode cX9_rounds 97 = .ok (.aload_n 0, 1) := by decide +kernel
theorem dX9_rounds_98 : decode cX9_rounds 98 = .ok (.getfield 19, 3) := by decide +kernel
theorem dX9_rounds_101 : decode cX9_rounds 101 = .ok (.iconst 0, 1) := by decide +kernel
theorem dX9_rounds_102 : decode cX9_rounds 102 = .ok (.iaload, 1) := by decide +kernel
theorem dX9_rounds_103 : decode cX9_rounds 103 = .ok (.iload_n 1, 1) := by decide +kernel
theorem dX9_rounds_104 : decode cX9_rounds 104 = .ok (.iload 8, 2) := by decide +kernel
theorem dX9_rounds_106 : decode cX9_rounds 106 = .ok (.invokevirtual 200, 3) := by decide +kernel
theorem dX9_rounds_109 : decode cX9_rounds 109 = .ok (.istore 9, 2) := by decide +kernel
theorem dX9_rounds_111 : decode cX9_rounds 111 = .ok (.iload 7, 2) := by decide +kernel
theorem dX9_rounds_113 : decode cX9_rounds 113 = .ok (.ifCond .eq 19, 3) := by decide +kernel
theorem dX9_rounds_116 : decode cX9_rounds 116 = .ok (.iload 9, 2) := by decide +kernel
theorem dX9_rounds_118 : decode cX9_rounds 118 = .ok (.aload_n 0, 1) := by decide +kernel
theorem dX9_rounds_119 : decode cX9_rounds 119 = .ok (.getfield 31, 3) := by decide +kernel
theorem dX9_rounds_122 : decode cX9_rounds 122 = .ok (.iload 8, 2) := by decide +kernel
theorem dX9_rounds_124 : decode cX9_rounds 124 = .ok (.iaload, 1) := by decide +kernel
theorem dX9_rounds_125 : decode cX9_rounds 125 = .ok (.if_icmp .ne 7, 3) := by decide +kernel
theorem dX9_rounds_128 : decode cX9_rounds 128 = .ok (.iconst 1, 1) := by decide +kernel
theorem dX9_rounds_129 : decode cX9_rounds 129 = .ok (.goto 4, 3) := by decide +kernel
theorem dX9_rounds_132 : decode cX9_rounds 132 = .ok (.iconst 0, 1) := by decide +kernel
theorem dX9_rounds_133 : decode cX9_rounds 133 = .ok (.istore 7, 2) := by decide +kernel
theorem dX9_rounds_135 : decode cX9_rounds 135 = .ok (.aload_n 0, 1) := by decide +kernel
theorem dX9_rounds_136 : decode cX9_rounds 136 = .ok (.getfield 31, 3) := by decide +kernel
theorem dX9_rounds_139 : decode cX9_rounds 139 = .ok (.iload 8, 2) := by decide +kernel
theorem dX9_rounds_141 : decode cX9_rounds 141 = .ok (.iload 9, 2) := by decide +kernel
theorem dX9_rounds_143 : decode cX9_rounds 143 = .ok (.iastore, 1) := by decide +kernel
theorem dX9_rounds_144 : decode cX9_rounds 144 = .ok (.iinc 8 1, 3) := by decide +kernel
theorem dX9_rounds_147 : decode cX9_rounds 147 = .ok (.goto (-62), 3) := by decide +kernel
theorem dX9_rounds_150 : decode cX9_rounds 150 = .ok (.iload 7, 2) := by decide +kernel
theorem dX9_rounds_152 : decode cX9_rounds 152 = .ok (.ifCond .eq 8, 3) := by decide +kernel
theorem dX9_rounds_155 : decode cX9_rounds 155 = .ok (.iload 6, 2) := by decide +kernel
theorem dX9_rounds_157 : decode cX9_rounds 157 = .ok (.goto 5, 3) := by decide +kernel
theorem dX9_rounds_160 : decode cX9_rounds 160 = .ok (.ldc 80, 2) := by decide +kernel
theorem dX9_rounds_162 : decode cX9_rounds 162 = .ok (.istore 5, 2) := by decide +kernel
theorem dX9_rounds_164 : decode cX9_rounds 164 = .ok (.iinc 6 1, 3) := by decide +kernel
theorem dX9_rounds_167 : decode cX9_rounds 167 = .ok (.goto (-102), 3) := by decide +kernel
theorem dX9_rounds_170 : decode cX9_rounds 170 = .ok (.iload_n 3, 1) := by decide +kernel
theorem dX9_rounds_171 : decode cX9_rounds 171 = .ok (.ifCond .ge 8, 3) := by decide +kernel
theorem dX9_rounds_174 : decode cX9_rounds 174 = .ok (.iload 5, 2) := by decide +kernel
theorem dX9_rounds_176 : decode cX9_rounds 176 = .ok (.goto 9, 3) := by decide +kernel
theorem dX9_rounds_179 : decode cX9_rounds 179 = .ok (.aload_n 0, 1) := by decide +kernel
theorem dX9_rounds_180 : decode cX9_rounds 180 = .ok (.getfield 31, 3) := by decide +kernel
theorem dX9_rounds_183 : decode cX9_rounds 183 = .ok (.iload_n 3, 1) := by decide +kernel
theorem dX9_rounds_184 : decode cX9_rounds 184 = .ok (.iaload, 1) := by decide +kernel
theorem dX9_rounds_185 : decode cX9_rounds 185 = .ok (.ireturn, 1) := by decide +kernel
theorem dX9_extreme_0 : decode cX9_extreme 0 = .ok (.iconst 0, 1) := by decide +kernel
theorem dX9_extreme_1 : decode cX9_extreme 1 = .ok (.istore_n 3, 1) := by decide +kernel
theorem dX9_extreme_2 : decode cX9_extreme 2 = .ok (.iconst 1, 1) := by decide +kernel
theorem dX9_extreme_3 : decode cX9_extreme 3 = .ok (.istore 4, 2) := by decide +kernel
theorem dX9_extreme_5 : decode cX9_extreme 5 = .ok (.iload 4, 2) := by decide +kernel
theorem dX9_extreme_7 : decode cX9_extreme 7 = .ok (.aload_n 0, 1) := by decide +kernel
theorem dX9_extreme_8 : decode cX9_extreme 8 = .ok (.getfield 19, 3) := by decide +kernel
theorem dX9_extreme_11 : decode cX9_extreme 11 = .ok (.iconst 2, 1) := by decide +kernel
theorem dX9_extreme_12 : decode cX9_extreme 12 = .ok (.iaload, 1) := by decide +kernel
theorem dX9_extreme_13 : decode cX9_extreme 13 = .ok (.if_icmp .ge 36, 3) := by decide +kernel
theorem dX9_extreme_16 : decode cX9_extreme 16 = .ok (.iload_n 2, 1) := by decide +kernel
theorem dX9_extreme_17 : decode cX9_extreme 17 = .ok (.aload_n 0, 1) := by decide +kernel
theorem dX9_extreme_18 : decode cX9_extreme 18 = .ok (.iload_n 1, 1) := by decide +kernel
theorem dX9_extreme_19 : decode cX9_extreme 19 = .ok (.iload 4, 2) := by decide +kernel
theorem dX9_extreme_21 : decode cX9_extreme 21 = .ok (.invokevirtual 179, 3) := by decide +kernel
theorem dX9_extreme_24 : decode cX9_extreme 24 = .ok (.imul, 1) := by decide +kernel
theorem dX9_extreme_25 : decode cX9_extreme 25 = .ok (.iload_n 2, 1) := by decide +kernel
theorem dX9_extreme_26 : decode cX9_extreme 26 = .ok (.aload_n 0, 1) := by decide +kernel
theorem dX9_extreme_27 : decode cX9_extreme 27 = .ok (.iload_n 1, 1) := by decide +kernel
theorem dX9_extreme_28 : decode cX9_extreme 28 = .ok (.iload_n 3, 1) := by decide +kernel
theorem dX9_extreme_29 : decode cX9_extreme 29 = .ok (.invokevirtual 179, 3) := by decide +kernel
theorem dX9_extreme_32 : decode cX9_extreme 32 = .ok (.imul, 1) := by decide +kernel
theorem dX9_extreme_33 : decode cX9_extreme 33 = .ok (.if_icmp .ge 8, 3) := by decide +kernel
theorem dX9_extreme_36 : decode cX9_extreme 36 = .ok (.iload 4, 2) := by decide +kernel
theorem dX9_extreme_38 : decode cX9_extreme 38 = .ok (.goto 4, 3) := by decide +kernel
theorem dX9_extreme_41 : decode cX9_extreme 41 = .ok (.iload_n 3, 1) := by decide +kernel
theorem dX9_extreme_42 : decode cX9_extreme 42 = .ok (.istore_n 3, 1) := by decide +kernel
theorem dX9_extreme_43 : decode cX9_extreme 43 = .ok (.iinc 4 1, 3) := by decide +kernel
theorem dX9_extreme_46 : decode cX9_extreme 46 = .ok (.goto (-41), 3) := by decide +kernel
theorem dX9_extreme_49 : decode cX9_extreme 49 = .ok (.iload_n 3, 1) := by decide +kernel
theorem dX9_extreme_50 : decode cX9_extreme 50 = .ok (.ireturn, 1) := by decide +kernel
theorem dX9_least_0 : decode cX9_least 0 = .ok (.aload_n 0, 1) := by decide +kernel
theorem dX9_least_1 : decode cX9_least 1 = .ok (.iconst 0, 1) := by decide +kernel
theorem dX9_least_2 : decode cX9_least 2 = .ok (.putfield 44, 3) := by decide +kernel
theorem dX9_least_5 : decode cX9_least 5 = .ok (.aload_n 0, 1) := by decide +kernel
theorem dX9_least_6 : decode cX9_least 6 = .ok (.iload_n 1, 1) := by decide +kernel
theorem dX9_least_7 : decode cX9_least 7 = .ok (.invokevirtual 210, 3) := by decide +kernel
theorem dX9_least_10 : decode cX9_least 10 = .ok (.ifCond .eq 13, 3) := by decide +kernel
theorem dX9_least_13 : decode cX9_least 13 = .ok (.iload_n 2, 1) := by decide +kernel
theorem dX9_least_14 : decode cX9_least 14 = .ok (.i2l, 1) := by decide +kernel
theorem dX9_least_15 : decode cX9_least 15 = .ok (.lconst 0, 1) := by decide +kernel
theorem dX9_least_16 : decode cX9_least 16 = .ok (.lconst 1, 1) := by decide +kernel
theorem dX9_least_17 : decode cX9_least 17 = .ok (.invokestatic 54, 3) := by decide +kernel
theorem dX9_least_20 : decode cX9_least 20 = .ok (.ifCond .ne 6, 3) := by decide +kernel
theorem dX9_least_23 : decode cX9_least 23 = .ok (.ldc 64, 2) := by decide +kernel
theorem dX9_least_25 : decode cX9_least 25 = .ok (.ireturn, 1) := by decide +kernel
theorem dX9_least_26 : decode cX9_least 26 = .ok (.aload_n 0, 1) := by decide +kernel
theorem dX9_least_27 : decode cX9_least 27 = .ok (.iload_n 1, 1) := by decide +kernel
theorem dX9_least_28 : decode cX9_least 28 = .ok (.iload_n 2, 1) := by decide +kernel
theorem dX9_least_29 : decode cX9_least 29 = .ok (.ifCond .ne 7, 3) := by decide +kernel
theorem dX9_least_32 : decode cX9_least 32 = .ok (.iconst 1, 1) := by decide +kernel
theorem dX9_least_33 : decode cX9_least 33 = .ok (.goto 4, 3) := by decide +kernel
theorem dX9_least_36 : decode cX9_least 36 = .ok (.iconst (-1), 1) := by decide +kernel
theorem dX9_least_37 : decode cX9_least 37 = .ok (.invokevirtual 241, 3) := by decide +kernel
theorem dX9_least_40 : decode cX9_least 40 = .ok (.ireturn, 1) := by decide +kernel
theorem dX9_lost_0 : decode cX9_lost 0 = .ok (.aload_n 0, 1) := by decide +kernel
theorem dX9_lost_1 : decode cX9_lost 1 = .ok (.iconst 0, 1) := by decide +kernel
theorem dX9_lost_2 : decode cX9_lost 2 = .ok (.putfield 44, 3) := by decide +kernel
theorem dX9_lost_5 : decode cX9_lost 5 = .ok (.aload_n 0, 1) := by decide +kernel
theorem dX9_lost_6 : decode cX9_lost 6 = .ok (.iload_n 1, 1) := by decide +kernel
theorem dX9_lost_7 : decode cX9_lost 7 = .ok (.invokevirtual 210, 3) := by decide +kernel
theorem dX9_lost_10 : decode cX9_lost 10 = .ok (.ifCond .eq 20, 3) := by decide +kernel
theorem dX9_lost_13 : decode cX9_lost 13 = .ok (.iload_n 2, 1) := by decide +kernel
theorem dX9_lost_14 : decode cX9_lost 14 = .ok (.invokestatic 58, 3) := by decide +kernel
theorem dX9_lost_17 : decode cX9_lost 17 = .ok (.ifCond .eq 13, 3) := by decide +kernel
theorem dX9_lost_20 : decode cX9_lost 20 = .ok (.iload_n 3, 1) := by decide +kernel
theorem dX9_lost_21 : decode cX9_lost 21 = .ok (.i2l, 1) := by decide +kernel
theorem dX9_lost_22 : decode cX9_lost 22 = .ok (.lconst 0, 1) := by decide +kernel
theorem dX9_lost_23 : decode cX9_lost 23 = .ok (.lconst 1, 1) := by decide +kernel
theorem dX9_lost_24 : decode cX9_lost 24 = .ok (.invokestatic 54, 3) := by decide +kernel
theorem dX9_lost_27 : decode cX9_lost 27 = .ok (.ifCond .ne 6, 3) := by decide +kernel
theorem dX9_lost_30 : decode cX9_lost 30 = .ok (.ldc 64, 2) := by decide +kernel
theorem dX9_lost_32 : decode cX9_lost 32 = .ok (.ireturn, 1) := by decide +kernel
theorem dX9_lost_33 : decode cX9_lost 33 = .ok (.aload_n 0, 1) := by decide +kernel
theorem dX9_lost_34 : decode cX9_lost 34 = .ok (.iload_n 2, 1) := by decide +kernel
theorem dX9_lost_35 : decode cX9_lost 35 = .ok (.invokevirtual 217, 3) := by decide +kernel
theorem dX9_lost_38 : decode cX9_lost 38 = .ok (.istore 4, 2) := by decide +kernel
theorem dX9_lost_40 : decode cX9_lost 40 = .ok (.iload 4, 2) := by decide +kernel
theorem dX9_lost_42 : decode cX9_lost 42 = .ok (.ifCond .ge 6, 3) := by decide +kernel
theorem dX9_lost_45 : decode cX9_lost 45 = .ok (.iload 4, 2) := by decide +kernel
theorem dX9_lost_47 : decode cX9_lost 47 = .ok (.ireturn, 1) := by decide +kernel
theorem dX9_lost_48 : decode cX9_lost 48 = .ok (.aload_n 0, 1) := by decide +kernel
theorem dX9_lost_49 : decode cX9_lost 49 = .ok (.ldc 80, 2) := by decide +kernel
theorem dX9_lost_51 : decode cX9_lost 51 = .ok (.invokevirtual 187, 3) := by decide +kernel
theorem dX9_lost_54 : decode cX9_lost 54 = .ok (.istore 5, 2) := by decide +kernel
theorem dX9_lost_56 : decode cX9_lost 56 = .ok (.iconst 0, 1) := by decide +kernel
theorem dX9_lost_57 : decode cX9_lost 57 = .ok (.istore 6, 2) := by decide +kernel
theorem dX9_lost_59 : decode cX9_lost 59 = .ok (.iconst 0, 1) := by decide +kernel
theorem dX9_lost_60 : decode cX9_lost 60 = .ok (.istore 7, 2) := by decide +kernel
theorem dX9_lost_62 : decode cX9_lost 62 = .ok (.iload 7, 2) := by decide +kernel
theorem dX9_lost_64 : decode cX9_lost 64 = .ok (.aload_n 0, 1) := by decide +kernel
theorem dX9_lost_65 : decode cX9_lost 65 = .ok (.getfield 19, 3) := by decide +kernel
theorem dX9_lost_68 : decode cX9_lost 68 = .ok (.iconst 2, 1) := by decide +kernel
theorem dX9_lost_69 : decode cX9_lost 69 = .ok (.iaload, 1) := by decide +kernel
theorem dX9_lost_70 : decode cX9_lost 70 = .ok (.if_icmp .ge 37, 3) := by decide +kernel
theorem dX9_lost_73 : decode cX9_lost 73 = .ok (.iload 6, 2) := by decide +kernel
theorem dX9_lost_75 : decode cX9_lost 75 = .ok (.aload_n 0, 1) := by decide +kernel
theorem dX9_lost_76 : decode cX9_lost 76 = .ok (.getfield 31, 3) := by decide +kernel
theorem dX9_lost_79 : decode cX9_lost 79 = .ok (.iload 7, 2) := by decide +kernel
theorem dX9_lost_81 : decode cX9_lost 81 = .ok (.iaload, 1) := by decide +kernel
theorem dX9_lost_82 : decode cX9_lost 82 = .ok (.iload 5, 2) := by decide +kernel
theorem dX9_lost_84 : decode cX9_lost 84 = .ok (.if_icmp .ne 13, 3) := by decide +kernel
theorem dX9_lost_87 : decode cX9_lost 87 = .ok (.aload_n 0, 1) := by decide +kernel
theorem dX9_lost_88 : decode cX9_lost 88 = .ok (.iload_n 1, 1) := by decide +kernel
theorem dX9_lost_89 : decode cX9_lost 89 = .ok (.iload 7, 2) := by decide +kernel
theorem dX9_lost_91 : decode cX9_lost 91 = .ok (.invokevirtual 179, 3) := by decide +kernel
theorem dX9_lost_94 : decode cX9_lost 94 = .ok (.goto 4, 3) := by decide +kernel
theorem dX9_lost_97 : decode cX9_lost 97 = .ok (.iconst 0, 1) := by decide +kernel
theorem dX9_lost_98 : decode cX9_lost 98 = .ok (.iadd, 1) := by decide +kernel
theorem dX9_lost_99 : decode cX9_lost 99 = .ok (.istore 6, 2) := by decide +kernel
theorem dX9_lost_101 : decode cX9_lost 101 = .ok (.iinc 7 1, 3) := by decide +kernel
theorem dX9_lost_104 : decode cX9_lost 104 = .ok (.goto (-42), 3) := by decide +kernel
theorem dX9_lost_107 : decode cX9_lost 107 = .ok (.bipush 12, 2) := by decide +kernel
theorem dX9_lost_109 : decode cX9_lost 109 = .ok (.aload_n 0, 1) := by decide +kernel
theorem dX9_lost_110 : decode cX9_lost 110 = .ok (.iload_n 1, 1) := by decide +kernel
theorem dX9_lost_111 : decode cX9_lost 111 = .ok (.aload_n 0, 1) := by decide +kernel
theorem dX9_lost_112 : decode cX9_lost 112 = .ok (.iload_n 1, 1) := by decide +kernel
theorem dX9_lost_113 : decode cX9_lost 113 = .ok (.iconst (-1), 1) := by decide +kernel
theorem dX9_lost_114 : decode cX9_lost 114 = .ok (.invokevirtual 241, 3) := by decide +kernel
theorem dX9_lost_117 : decode cX9_lost 117 = .ok (.invokevirtual 179, 3) := by decide +kernel
theorem dX9_lost_120 : decode cX9_lost 120 = .ok (.imul, 1) := by decide +kernel
theorem dX9_lost_121 : decode cX9_lost 121 = .ok (.iload 6, 2) := by decide +kernel
theorem dX9_lost_123 : decode cX9_lost 123 = .ok (.bipush 12, 2) := by decide +kernel
theorem dX9_lost_125 : decode cX9_lost 125 = .ok (.aload_n 0, 1) := by decide +kernel
theorem dX9_lost_126 : decode cX9_lost 126 = .ok (.invokevirtual 194, 3) := by decide +kernel
theorem dX9_lost_129 : decode cX9_lost 129 = .ok (.idiv, 1) := by decide +kernel
theorem dX9_lost_130 : decode cX9_lost 130 = .ok (.imul, 1) := by decide +kernel
theorem dX9_lost_131 : decode cX9_lost 131 = .ok (.isub, 1) := by decide +kernel
theorem dX9_lost_132 : decode cX9_lost 132 = .ok (.iload_n 3, 1) := by decide +kernel
theorem dX9_lost_133 : decode cX9_lost 133 = .ok (.invokestatic 229, 3) := by decide +kernel
theorem dX9_lost_136 : decode cX9_lost 136 = .ok (.ireturn, 1) := by decide +kernel
theorem dX9_honest_0 : decode cX9_honest 0 = .ok (.aload_n 0, 1) := by decide +kernel
theorem dX9_honest_1 : decode cX9_honest 1 = .ok (.iconst 0, 1) := by decide +kernel
theorem dX9_honest_2 : decode cX9_honest 2 = .ok (.putfield 44, 3) := by decide +kernel
theorem dX9_honest_5 : decode cX9_honest 5 = .ok (.aload_n 0, 1) := by decide +kernel
theorem dX9_honest_6 : decode cX9_honest 6 = .ok (.iload_n 1, 1) := by decide +kernel
theorem dX9_honest_7 : decode cX9_honest 7 = .ok (.invokevirtual 210, 3) := by decide +kernel
theorem dX9_honest_10 : decode cX9_honest 10 = .ok (.ifCond .eq 13, 3) := by decide +kernel
theorem dX9_honest_13 : decode cX9_honest 13 = .ok (.iload_n 2, 1) := by decide +kernel
theorem dX9_honest_14 : decode cX9_honest 14 = .ok (.i2l, 1) := by decide +kernel
theorem dX9_honest_15 : decode cX9_honest 15 = .ok (.lconst 0, 1) := by decide +kernel
theorem dX9_honest_16 : decode cX9_honest 16 = .ok (.lconst 1, 1) := by decide +kernel
theorem dX9_honest_17 : decode cX9_honest 17 = .ok (.invokestatic 54, 3) := by decide +kernel
theorem dX9_honest_20 : decode cX9_honest 20 = .ok (.ifCond .ne 6, 3) := by decide +kernel
theorem dX9_honest_23 : decode cX9_honest 23 = .ok (.ldc 64, 2) := by decide +kernel
theorem dX9_honest_25 : decode cX9_honest 25 = .ok (.ireturn, 1) := by decide +kernel
theorem dX9_honest_26 : decode cX9_honest 26 = .ok (.aload_n 0, 1) := by decide +kernel
theorem dX9_honest_27 : decode cX9_honest 27 = .ok (.iload_n 1, 1) := by decide +kernel
theorem dX9_honest_28 : decode cX9_honest 28 = .ok (.invokevirtual 223, 3) := by decide +kernel
theorem dX9_honest_31 : decode cX9_honest 31 = .ok (.iload_n 2, 1) := by decide +kernel
theorem dX9_honest_32 : decode cX9_honest 32 = .ok (.ifCond .ne 23, 3) := by decide +kernel
theorem dX9_honest_35 : decode cX9_honest 35 = .ok (.aload_n 0, 1) := by decide +kernel
theorem dX9_honest_36 : decode cX9_honest 36 = .ok (.aload_n 0, 1) := by decide +kernel
theorem dX9_honest_37 : decode cX9_honest 37 = .ok (.getfield 19, 3) := by decide +kernel
theorem dX9_honest_40 : decode cX9_honest 40 = .ok (.iconst 0, 1) := by decide +kernel
theorem dX9_honest_41 : decode cX9_honest 41 = .ok (.iaload, 1) := by decide +kernel
theorem dX9_honest_42 : decode cX9_honest 42 = .ok (.iload_n 1, 1) := by decide +kernel
theorem dX9_honest_43 : decode cX9_honest 43 = .ok (.invokevirtual 237, 3) := by decide +kernel
theorem dX9_honest_46 : decode cX9_honest 46 = .ok (.ifCond .eq 7, 3) := by decide +kernel
theorem dX9_honest_49 : decode cX9_honest 49 = .ok (.iconst 1, 1) := by decide +kernel
theorem dX9_honest_50 : decode cX9_honest 50 = .ok (.goto 4, 3) := by decide +kernel
theorem dX9_honest_53 : decode cX9_honest 53 = .ok (.iconst 0, 1) := by decide +kernel
theorem dX9_honest_54 : decode cX9_honest 54 = .ok (.ireturn, 1) := by decide +kernel
theorem dX9_honest_55 : decode cX9_honest 55 = .ok (.iconst 0, 1) := by decide +kernel
theorem dX9_honest_56 : decode cX9_honest 56 = .ok (.istore_n 3, 1) := by decide +kernel
theorem dX9_honest_57 : decode cX9_honest 57 = .ok (.iconst 0, 1) := by decide +kernel
theorem dX9_honest_58 : decode cX9_honest 58 = .ok (.istore 4, 2) := by decide +kernel
theorem dX9_honest_60 : decode cX9_honest 60 = .ok (.iload 4, 2) := by decide +kernel
theorem dX9_honest_62 : decode cX9_honest 62 = .ok (.iconst 4, 1) := by decide +kernel
theorem dX9_honest_63 : decode cX9_honest 63 = .ok (.if_icmp .ge 30, 3) := by decide +kernel
theorem dX9_honest_66 : decode cX9_honest 66 = .ok (.iload_n 3, 1) := by decide +kernel
theorem dX9_honest_67 : decode cX9_honest 67 = .ok (.aload_n 0, 1) := by decide +kernel
theorem dX9_honest_68 : decode cX9_honest 68 = .ok (.iload 4, 2) := by decide +kernel
theorem dX9_honest_70 : decode cX9_honest 70 = .ok (.iload_n 1, 1) := by decide +kernel
theorem dX9_honest_71 : decode cX9_honest 71 = .ok (.invokevirtual 237, 3) := by decide +kernel
theorem dX9_honest_74 : decode cX9_honest 74 = .ok (.ifCond .eq 10, 3) := by decide +kernel
theorem dX9_honest_77 : decode cX9_honest 77 = .ok (.iconst 1, 1) := by decide +kernel
theorem dX9_honest_78 : decode cX9_honest 78 = .ok (.iload 4, 2) := by decide +kernel
theorem dX9_honest_80 : decode cX9_honest 80 = .ok (.ishl, 1) := by decide +kernel
theorem dX9_honest_81 : decode cX9_honest 81 = .ok (.goto 4, 3) := by decide +kernel
theorem dX9_honest_84 : decode cX9_honest 84 = .ok (.iconst 0, 1) := by decide +kernel
theorem dX9_honest_85 : decode cX9_honest 85 = .ok (.ior, 1) := by decide +kernel
theorem dX9_honest_86 : decode cX9_honest 86 = .ok (.istore_n 3, 1) := by decide +kernel
theorem dX9_honest_87 : decode cX9_honest 87 = .ok (.iinc 4 1, 3) := by decide +kernel
theorem dX9_honest_90 : decode cX9_honest 90 = .ok (.goto (-30), 3) := by decide +kernel
theorem dX9_honest_93 : decode cX9_honest 93 = .ok (.iload_n 3, 1) := by decide +kernel
theorem dX9_honest_94 : decode cX9_honest 94 = .ok (.ireturn, 1) := by decide +kernel
theorem dX9_ore_0 : decode cX9_ore 0 = .ok (.aload_n 0, 1) := by decide +kernel
theorem dX9_ore_1 : decode cX9_ore 1 = .ok (.iconst 0, 1) := by decide +kernel
theorem dX9_ore_2 : decode cX9_ore 2 = .ok (.putfield 44, 3) := by decide +kernel
theorem dX9_ore_5 : decode cX9_ore 5 = .ok (.aload_n 0, 1) := by decide +kernel
theorem dX9_ore_6 : decode cX9_ore 6 = .ok (.iload_n 1, 1) := by decide +kernel
theorem dX9_ore_7 : decode cX9_ore 7 = .ok (.invokevirtual 210, 3) := by decide +kernel
theorem dX9_ore_10 : decode cX9_ore 10 = .ok (.ifCond .eq 10, 3) := by decide +kernel
theorem dX9_ore_13 : decode cX9_ore 13 = .ok (.iload_n 2, 1) := by decide +kernel
theorem dX9_ore_14 : decode cX9_ore 14 = .ok (.invokestatic 58, 3) := by decide +kernel
theorem dX9_ore_17 : decode cX9_ore 17 = .ok (.ifCond .ne 6, 3) := by decide +kernel
theorem dX9_ore_20 : decode cX9_ore 20 = .ok (.ldc 64, 2) := by decide +kernel
theorem dX9_ore_22 : decode cX9_ore 22 = .ok (.ireturn, 1) := by decide +kernel
theorem dX9_ore_23 : decode cX9_ore 23 = .ok (.aload_n 0, 1) := by decide +kernel
theorem dX9_ore_24 : decode cX9_ore 24 = .ok (.iload_n 2, 1) := by decide +kernel
theorem dX9_ore_25 : decode cX9_ore 25 = .ok (.invokevirtual 217, 3) := by decide +kernel
theorem dX9_ore_28 : decode cX9_ore 28 = .ok (.istore_n 3, 1) := by decide +kernel
theorem dX9_ore_29 : decode cX9_ore 29 = .ok (.iload_n 3, 1) := by decide +kernel
theorem dX9_ore_30 : decode cX9_ore 30 = .ok (.ifCond .ge 5, 3) := by decide +kernel
theorem dX9_ore_33 : decode cX9_ore 33 = .ok (.iload_n 3, 1) := by decide +kernel
theorem dX9_ore_34 : decode cX9_ore 34 = .ok (.ireturn, 1) := by decide +kernel
theorem dX9_ore_35 : decode cX9_ore 35 = .ok (.iconst 0, 1) := by decide +kernel
theorem dX9_ore_36 : decode cX9_ore 36 = .ok (.istore 4, 2) := by decide +kernel
theorem dX9_ore_38 : decode cX9_ore 38 = .ok (.iconst 0, 1) := by decide +kernel
theorem dX9_ore_39 : decode cX9_ore 39 = .ok (.istore 5, 2) := by decide +kernel
theorem dX9_ore_41 : decode cX9_ore 41 = .ok (.iload 5, 2) := by decide +kernel
theorem dX9_ore_43 : decode cX9_ore 43 = .ok (.aload_n 0, 1) := by decide +kernel
theorem dX9_ore_44 : decode cX9_ore 44 = .ok (.getfield 19, 3) := by decide +kernel
theorem dX9_ore_47 : decode cX9_ore 47 = .ok (.iconst 2, 1) := by decide +kernel
theorem dX9_ore_48 : decode cX9_ore 48 = .ok (.iaload, 1) := by decide +kernel
theorem dX9_ore_49 : decode cX9_ore 49 = .ok (.if_icmp .ge 39, 3) := by decide +kernel
theorem dX9_ore_52 : decode cX9_ore 52 = .ok (.iload 4, 2) := by decide +kernel
theorem dX9_ore_54 : decode cX9_ore 54 = .ok (.aload_n 0, 1) := by decide +kernel
theorem dX9_ore_55 : decode cX9_ore 55 = .ok (.getfield 31, 3) := by decide +kernel
theorem dX9_ore_58 : decode cX9_ore 58 = .ok (.iload 5, 2) := by decide +kernel
theorem dX9_ore_60 : decode cX9_ore 60 = .ok (.iaload, 1) := by decide +kernel
theorem dX9_ore_61 : decode cX9_ore 61 = .ok (.aload_n 0, 1) := by decide +kernel
theorem dX9_ore_62 : decode cX9_ore 62 = .ok (.iload_n 1, 1) := by decide +kernel
theorem dX9_ore_63 : decode cX9_ore 63 = .ok (.iload 5, 2) := by decide +kernel
theorem dX9_ore_65 : decode cX9_ore 65 = .ok (.invokevirtual 182, 3) := by decide +kernel
theorem dX9_ore_68 : decode cX9_ore 68 = .ok (.if_icmp .ge 10, 3) := by decide +kernel
theorem dX9_ore_71 : decode cX9_ore 71 = .ok (.iconst 1, 1) := by decide +kernel
theorem dX9_ore_72 : decode cX9_ore 72 = .ok (.iload 5, 2) := by decide +kernel
theorem dX9_ore_74 : decode cX9_ore 74 = .ok (.ishl, 1) := by decide +kernel
theorem dX9_ore_75 : decode cX9_ore 75 = .ok (.goto 4, 3) := by decide +kernel
theorem dX9_ore_78 : decode cX9_ore 78 = .ok (.iconst 0, 1) := by decide +kernel
theorem dX9_ore_79 : decode cX9_ore 79 = .ok (.ior, 1) := by decide +kernel
theorem dX9_ore_80 : decode cX9_ore 80 = .ok (.istore 4, 2) := by decide +kernel
theorem dX9_ore_82 : decode cX9_ore 82 = .ok (.iinc 5 1, 3) := by decide +kernel
theorem dX9_ore_85 : decode cX9_ore 85 = .ok (.goto (-44), 3) := by decide +kernel
theorem dX9_ore_88 : decode cX9_ore 88 = .ok (.iload 4, 2) := by decide +kernel
theorem dX9_ore_90 : decode cX9_ore 90 = .ok (.ireturn, 1) := by decide +kernel
theorem dX9_image_0 : decode cX9_image 0 = .ok (.aload_n 0, 1) := by decide +kernel
theorem dX9_image_1 : decode cX9_image 1 = .ok (.iconst 0, 1) := by decide +kernel
theorem dX9_image_2 : decode cX9_image 2 = .ok (.putfield 44, 3) := by decide +kernel
theorem dX9_image_5 : decode cX9_image 5 = .ok (.iload_n 1, 1) := by decide +kernel
theorem dX9_image_6 : decode cX9_image 6 = .ok (.i2l, 1) := by decide +kernel
theorem dX9_image_7 : decode cX9_image 7 = .ok (.lconst 0, 1) := by decide +kernel
theorem dX9_image_8 : decode cX9_image 8 = .ok (.lconst 1, 1) := by decide +kernel
theorem dX9_image_9 : decode cX9_image 9 = .ok (.invokestatic 54, 3) := by decide +kernel
theorem dX9_image_12 : decode cX9_image 12 = .ok (.ifCond .ne 6, 3) := by decide +kernel
theorem dX9_image_15 : decode cX9_image 15 = .ok (.ldc 64, 2) := by decide +kernel
theorem dX9_image_17 : decode cX9_image 17 = .ok (.ireturn, 1) := by decide +kernel
theorem dX9_image_18 : decode cX9_image 18 = .ok (.aload_n 0, 1) := by decide +kernel
theorem dX9_image_19 : decode cX9_image 19 = .ok (.invokevirtual 244, 3) := by decide +kernel
theorem dX9_image_22 : decode cX9_image 22 = .ok (.ifCond .ne 6, 3) := by decide +kernel
theorem dX9_image_25 : decode cX9_image 25 = .ok (.ldc 216, 2) := by decide +kernel
theorem dX9_image_27 : decode cX9_image 27 = .ok (.ireturn, 1) := by decide +kernel
theorem dX9_image_28 : decode cX9_image 28 = .ok (.iconst 0, 1) := by decide +kernel
theorem dX9_image_29 : decode cX9_image 29 = .ok (.istore_n 2, 1) := by decide +kernel
theorem dX9_image_30 : decode cX9_image 30 = .ok (.iload_n 2, 1) := by decide +kernel
theorem dX9_image_31 : decode cX9_image 31 = .ok (.bipush 42, 2) := by decide +kernel
theorem dX9_image_33 : decode cX9_image 33 = .ok (.if_icmp .ge 26, 3) := by decide +kernel
theorem dX9_image_36 : decode cX9_image 36 = .ok (.aload_n 0, 1) := by decide +kernel
theorem dX9_image_37 : decode cX9_image 37 = .ok (.getfield 38, 3) := by decide +kernel
theorem dX9_image_40 : decode cX9_image 40 = .ok (.bipush 42, 2) := by decide +kernel
theorem dX9_image_42 : decode cX9_image 42 = .ok (.iload_n 1, 1) := by decide +kernel
theorem dX9_image_43 : decode cX9_image 43 = .ok (.imul, 1) := by decide +kernel
theorem dX9_image_44 : decode cX9_image 44 = .ok (.iload_n 2, 1) := by decide +kernel
theorem dX9_image_45 : decode cX9_image 45 = .ok (.iadd, 1) := by decide +kernel
theorem dX9_image_46 : decode cX9_image 46 = .ok (.aload_n 0, 1) := by decide +kernel
theorem dX9_image_47 : decode cX9_image 47 = .ok (.getfield 19, 3) := by decide +kernel
theorem dX9_image_50 : decode cX9_image 50 = .ok (.iload_n 2, 1) := by decide +kernel
theorem dX9_image_51 : decode cX9_image 51 = .ok (.iaload, 1) := by decide +kernel
theorem dX9_image_52 : decode cX9_image 52 = .ok (.iastore, 1) := by decide +kernel
theorem dX9_image_53 : decode cX9_image 53 = .ok (.iinc 2 1, 3) := by decide +kernel
theorem dX9_image_56 : decode cX9_image 56 = .ok (.goto (-26), 3) := by decide +kernel
theorem dX9_image_59 : decode cX9_image 59 = .ok (.aload_n 0, 1) := by decide +kernel
theorem dX9_image_60 : decode cX9_image 60 = .ok (.getfield 34, 3) := by decide +kernel
theorem dX9_image_63 : decode cX9_image 63 = .ok (.iload_n 1, 1) := by decide +kernel
theorem dX9_image_64 : decode cX9_image 64 = .ok (.iconst 1, 1) := by decide +kernel
theorem dX9_image_65 : decode cX9_image 65 = .ok (.bastore, 1) := by decide +kernel
theorem dX9_image_66 : decode cX9_image 66 = .ok (.iconst 1, 1) := by decide +kernel
theorem dX9_image_67 : decode cX9_image 67 = .ok (.ireturn, 1) := by decide +kernel
theorem dX9_restore_0 : decode cX9_restore 0 = .ok (.aload_n 0, 1) := by decide +kernel
theorem dX9_restore_1 : decode cX9_restore 1 = .ok (.iconst 0, 1) := by decide +kernel
theorem dX9_restore_2 : decode cX9_restore 2 = .ok (.putfield 44, 3) := by decide +kernel
theorem dX9_restore_5 : decode cX9_restore 5 = .ok (.iload_n 1, 1) := by decide +kernel
theorem dX9_restore_6 : decode cX9_restore 6 = .ok (.i2l, 1) := by decide +kernel
theorem dX9_restore_7 : decode cX9_restore 7 = .ok (.lconst 0, 1) := by decide +kernel
theorem dX9_restore_8 : decode cX9_restore 8 = .ok (.lconst 1, 1) := by decide +kernel
theorem dX9_restore_9 : decode cX9_restore 9 = .ok (.invokestatic 54, 3) := by decide +kernel
theorem dX9_restore_12 : decode cX9_restore 12 = .ok (.ifCond .ne 6, 3) := by decide +kernel
theorem dX9_restore_15 : decode cX9_restore 15 = .ok (.ldc 64, 2) := by decide +kernel
theorem dX9_restore_17 : decode cX9_restore 17 = .ok (.ireturn, 1) := by decide +kernel
theorem dX9_restore_18 : decode cX9_restore 18 = .ok (.aload_n 0, 1) := by decide +kernel
theorem dX9_restore_19 : decode cX9_restore 19 = .ok (.getfield 34, 3) := by decide +kernel
theorem dX9_restore_22 : decode cX9_restore 22 = .ok (.iload_n 1, 1) := by decide +kernel
theorem dX9_restore_23 : decode cX9_restore 23 = .ok (.baload, 1) := by decide +kernel
theorem dX9_restore_24 : decode cX9_restore 24 = .ok (.ifCond .ne 6, 3) := by decide +kernel
theorem dX9_restore_27 : decode cX9_restore 27 = .ok (.ldc 216, 2) := by decide +kernel
theorem dX9_restore_29 : decode cX9_restore 29 = .ok (.ireturn, 1) := by decide +kernel
theorem dX9_restore_30 : decode cX9_restore 30 = .ok (.iconst 0, 1) := by decide +kernel
theorem dX9_restore_31 : decode cX9_restore 31 = .ok (.istore_n 2, 1) := by decide +kernel
theorem dX9_restore_32 : decode cX9_restore 32 = .ok (.iload_n 2, 1) := by decide +kernel
theorem dX9_restore_33 : decode cX9_restore 33 = .ok (.bipush 42, 2) := by decide +kernel
theorem dX9_restore_35 : decode cX9_restore 35 = .ok (.if_icmp .ge 26, 3) := by decide +kernel
theorem dX9_restore_38 : decode cX9_restore 38 = .ok (.aload_n 0, 1) := by decide +kernel
theorem dX9_restore_39 : decode cX9_restore 39 = .ok (.getfield 19, 3) := by decide +kernel
theorem dX9_restore_42 : decode cX9_restore 42 = .ok (.iload_n 2, 1) := by decide +kernel
theorem dX9_restore_43 : decode cX9_restore 43 = .ok (.aload_n 0, 1) := by decide +kernel
theorem dX9_restore_44 : decode cX9_restore 44 = .ok (.getfield 38, 3) := by decide +kernel
theorem dX9_restore_47 : decode cX9_restore 47 = .ok (.bipush 42, 2) := by decide +kernel
theorem dX9_restore_49 : decode cX9_restore 49 = .ok (.iload_n 1, 1) := by decide +kernel
theorem dX9_restore_50 : decode cX9_restore 50 = .ok (.imul, 1) := by decide +kernel
theorem dX9_restore_51 : decode cX9_restore 51 = .ok (.iload_n 2, 1) := by decide +kernel
theorem dX9_restore_52 : decode cX9_restore 52 = .ok (.iadd, 1) := by decide +kernel
theorem dX9_restore_53 : decode cX9_restore 53 = .ok (.iaload, 1) := by decide +kernel
theorem dX9_restore_54 : decode cX9_restore 54 = .ok (.iastore, 1) := by decide +kernel
theorem dX9_restore_55 : decode cX9_restore 55 = .ok (.iinc 2 1, 3) := by decide +kernel
theorem dX9_restore_58 : decode cX9_restore 58 = .ok (.goto (-26), 3) := by decide +kernel
theorem dX9_restore_61 : decode cX9_restore 61 = .ok (.aload_n 0, 1) := by decide +kernel
theorem dX9_restore_62 : decode cX9_restore 62 = .ok (.iconst 0, 1) := by decide +kernel
theorem dX9_restore_63 : decode cX9_restore 63 = .ok (.putfield 171, 3) := by decide +kernel
theorem dX9_restore_66 : decode cX9_restore 66 = .ok (.iconst 1, 1) := by decide +kernel
theorem dX9_restore_67 : decode cX9_restore 67 = .ok (.ireturn, 1) := by decide +kernel
theorem dX9_isOf_0 : decode cX9_isOf 0 = .ok (.iload_n 1, 1) := by decide +kernel
theorem dX9_isOf_1 : decode cX9_isOf 1 = .ok (.ifCond .eq 28, 3) := by decide +kernel
theorem dX9_isOf_4 : decode cX9_isOf 4 = .ok (.iload_n 0, 1) := by decide +kernel
theorem dX9_isOf_5 : decode cX9_isOf 5 = .ok (.iload_n 1, 1) := by decide +kernel
theorem dX9_isOf_6 : decode cX9_isOf 6 = .ok (.if_icmp .eq 23, 3) := by decide +kernel
theorem dX9_isOf_9 : decode cX9_isOf 9 = .ok (.iload_n 1, 1) := by decide +kernel
theorem dX9_isOf_10 : decode cX9_isOf 10 = .ok (.iconst 1, 1) := by decide +kernel
theorem dX9_isOf_11 : decode cX9_isOf 11 = .ok (.if_icmp .ne 8, 3) := by decide +kernel
theorem dX9_isOf_14 : decode cX9_isOf 14 = .ok (.iload_n 0, 1) := by decide +kernel
theorem dX9_isOf_15 : decode cX9_isOf 15 = .ok (.iconst 4, 1) := by decide +kernel
theorem dX9_isOf_16 : decode cX9_isOf 16 = .ok (.if_icmp .lt 13, 3) := by decide +kernel
theorem dX9_isOf_19 : decode cX9_isOf 19 = .ok (.iload_n 1, 1) := by decide +kernel
theorem dX9_isOf_20 : decode cX9_isOf 20 = .ok (.iconst 4, 1) := by decide +kernel
theorem dX9_isOf_21 : decode cX9_isOf 21 = .ok (.if_icmp .ne 12, 3) := by decide +kernel
theorem dX9_isOf_24 : decode cX9_isOf 24 = .ok (.iload_n 0, 1) := by decide +kernel
theorem dX9_isOf_25 : decode cX9_isOf 25 = .ok (.iconst 5, 1) := by decide +kernel
theorem dX9_isOf_26 : decode cX9_isOf 26 = .ok (.if_icmp .ne 7, 3) := by decide +kernel
theorem dX9_isOf_29 : decode cX9_isOf 29 = .ok (.iconst 1, 1) := by decide +kernel
theorem dX9_isOf_30 : decode cX9_isOf 30 = .ok (.goto 4, 3) := by decide +kernel
theorem dX9_isOf_33 : decode cX9_isOf 33 = .ok (.iconst 0, 1) := by decide +kernel
theorem dX9_isOf_34 : decode cX9_isOf 34 = .ok (.ireturn, 1) := by decide +kernel
theorem dX9_kind_0 : decode cX9_kind 0 = .ok (.aload_n 0, 1) := by decide +kernel
theorem dX9_kind_1 : decode cX9_kind 1 = .ok (.iconst 0, 1) := by decide +kernel
theorem dX9_kind_2 : decode cX9_kind 2 = .ok (.putfield 44, 3) := by decide +kernel
theorem dX9_kind_5 : decode cX9_kind 5 = .ok (.aload_n 0, 1) := by decide +kernel
theorem dX9_kind_6 : decode cX9_kind 6 = .ok (.iload_n 1, 1) := by decide +kernel
theorem dX9_kind_7 : decode cX9_kind 7 = .ok (.invokevirtual 226, 3) := by decide +kernel
theorem dX9_kind_10 : decode cX9_kind 10 = .ok (.ifCond .eq 14, 3) := by decide +kernel
theorem dX9_kind_13 : decode cX9_kind 13 = .ok (.aload_n 0, 1) := by decide +kernel
theorem dX9_kind_14 : decode cX9_kind 14 = .ok (.getfield 19, 3) := by decide +kernel
theorem dX9_kind_17 : decode cX9_kind 17 = .ok (.iconst 4, 1) := by decide +kernel
theorem dX9_kind_18 : decode cX9_kind 18 = .ok (.iload_n 1, 1) := by decide +kernel
theorem dX9_kind_19 : decode cX9_kind 19 = .ok (.iadd, 1) := by decide +kernel
theorem dX9_kind_20 : decode cX9_kind 20 = .ok (.iaload, 1) := by decide +kernel
theorem dX9_kind_21 : decode cX9_kind 21 = .ok (.goto 5, 3) := by decide +kernel
theorem dX9_kind_24 : decode cX9_kind 24 = .ok (.ldc 64, 2) := by decide +kernel
theorem dX9_kind_26 : decode cX9_kind 26 = .ok (.ireturn, 1) := by decide +kernel
theorem dX9_as_0 : decode cX9_as 0 = .ok (.aload_n 0, 1) := by decide +kernel
theorem dX9_as_1 : decode cX9_as 1 = .ok (.iconst 0, 1) := by decide +kernel
theorem dX9_as_2 : decode cX9_as 2 = .ok (.putfield 44, 3) := by decide +kernel
theorem dX9_as_5 : decode cX9_as 5 = .ok (.aload_n 0, 1) := by decide +kernel
theorem dX9_as_6 : decode cX9_as 6 = .ok (.iload_n 1, 1) := by decide +kernel
theorem dX9_as_7 : decode cX9_as 7 = .ok (.invokevirtual 226, 3) := by decide +kernel
theorem dX9_as_10 : decode cX9_as 10 = .ok (.ifCond .eq 15, 3) := by decide +kernel
theorem dX9_as_13 : decode cX9_as 13 = .ok (.iload_n 2, 1) := by decide +kernel
theorem dX9_as_14 : decode cX9_as 14 = .ok (.i2l, 1) := by decide +kernel
theorem dX9_as_15 : decode cX9_as 15 = .ok (.lconst 0, 1) := by decide +kernel
theorem dX9_as_16 : decode cX9_as 16 = .ok (.ldc2_w 185, 3) := by decide +kernel
theorem dX9_as_19 : decode cX9_as 19 = .ok (.invokestatic 54, 3) := by decide +kernel
theorem dX9_as_22 : decode cX9_as 22 = .ok (.ifCond .ne 6, 3) := by decide +kernel
theorem dX9_as_25 : decode cX9_as 25 = .ok (.ldc 64, 2) := by decide +kernel
theorem dX9_as_27 : decode cX9_as 27 = .ok (.ireturn, 1) := by decide +kernel
theorem dX9_as_28 : decode cX9_as 28 = .ok (.aload_n 0, 1) := by decide +kernel
theorem dX9_as_29 : decode cX9_as 29 = .ok (.iconst 0, 1) := by decide +kernel
theorem dX9_as_30 : decode cX9_as 30 = .ok (.putfield 48, 3) := by decide +kernel
theorem dX9_as_33 : decode cX9_as 33 = .ok (.aload_n 0, 1) := by decide +kernel
theorem dX9_as_34 : decode cX9_as 34 = .ok (.getfield 19, 3) := by decide +kernel
theorem dX9_as_37 : decode cX9_as 37 = .ok (.iconst 4, 1) := by decide +kernel
theorem dX9_as_38 : decode cX9_as 38 = .ok (.iload_n 1, 1) := by decide +kernel
theorem dX9_as_39 : decode cX9_as 39 = .ok (.iadd, 1) := by decide +kernel
theorem dX9_as_40 : decode cX9_as 40 = .ok (.iaload, 1) := by decide +kernel
theorem dX9_as_41 : decode cX9_as 41 = .ok (.iload_n 2, 1) := by decide +kernel
theorem dX9_as_42 : decode cX9_as 42 = .ok (.invokestatic 248, 3) := by decide +kernel
theorem dX9_as_45 : decode cX9_as 45 = .ok (.ifCond .eq 7, 3) := by decide +kernel
theorem dX9_as_48 : decode cX9_as 48 = .ok (.iload_n 1, 1) := by decide +kernel
theorem dX9_as_49 : decode cX9_as 49 = .ok (.goto 8, 3) := by decide +kernel
theorem dX9_as_52 : decode cX9_as 52 = .ok (.aload_n 0, 1) := by decide +kernel
theorem dX9_as_53 : decode cX9_as 53 = .ok (.iconst 3, 1) := by decide +kernel
theorem dX9_as_54 : decode cX9_as 54 = .ok (.invokevirtual 65, 3) := by decide +kernel
theorem dX9_as_57 : decode cX9_as 57 = .ok (.ireturn, 1) := by decide +kernel
theorem dX9_began_0 : decode cX9_began 0 = .ok (.aload_n 0, 1) := by decide +kernel
theorem dX9_began_1 : decode cX9_began 1 = .ok (.getfield 251, 3) := by decide +kernel
theorem dX9_began_4 : decode cX9_began 4 = .ok (.bipush 16, 2) := by decide +kernel
theorem dX9_began_6 : decode cX9_began 6 = .ok (.if_icmp .ge 23, 3) := by decide +kernel
theorem dX9_began_9 : decode cX9_began 9 = .ok (.aload_n 0, 1) := by decide +kernel
theorem dX9_began_10 : decode cX9_began 10 = .ok (.getfield 41, 3) := by decide +kernel
theorem dX9_began_13 : decode cX9_began 13 = .ok (.aload_n 0, 1) := by decide +kernel
theorem dX9_began_14 : decode cX9_began 14 = .ok (.getfield 251, 3) := by decide +kernel
theorem dX9_began_17 : decode cX9_began 17 = .ok (.iload_n 1, 1) := by decide +kernel
theorem dX9_began_18 : decode cX9_began 18 = .ok (.iastore, 1) := by decide +kernel
theorem dX9_began_19 : decode cX9_began 19 = .ok (.aload_n 0, 1) := by decide +kernel
theorem dX9_began_20 : decode cX9_began 20 = .ok (.dup, 1) := by decide +kernel
theorem dX9_began_21 : decode cX9_began 21 = .ok (.getfield 251, 3) := by decide +kernel
theorem dX9_began_24 : decode cX9_began 24 = .ok (.iconst 1, 1) := by decide +kernel
theorem dX9_began_25 : decode cX9_began 25 = .ok (.iadd, 1) := by decide +kernel
theorem dX9_began_26 : decode cX9_began 26 = .ok (.putfield 251, 3) := by decide +kernel
theorem dX9_began_29 : decode cX9_began 29 = .ok (.return_, 1) := by decide +kernel
theorem dX9_plainSize_0 : decode cX9_plainSize 0 = .ok (.aload_n 0, 1) := by decide +kernel
theorem dX9_plainSize_1 : decode cX9_plainSize 1 = .ok (.bipush 10, 2) := by decide +kernel
theorem dX9_plainSize_3 : decode cX9_plainSize 3 = .ok (.invokevirtual 254, 3) := by decide +kernel
theorem dX9_plainSize_6 : decode cX9_plainSize 6 = .ok (.aload_n 0, 1) := by decide +kernel
theorem dX9_plainSize_7 : decode cX9_plainSize 7 = .ok (.getfield 19, 3) := by decide +kernel
theorem dX9_plainSize_10 : decode cX9_plainSize 10 = .ok (.bipush 8, 2) := by decide +kernel
theorem dX9_plainSize_12 : decode cX9_plainSize 12 = .ok (.iload_n 1, 1) := by decide +kernel
theorem dX9_plainSize_13 : decode cX9_plainSize 13 = .ok (.iadd, 1) := by decide +kernel
theorem dX9_plainSize_14 : decode cX9_plainSize 14 = .ok (.iaload, 1) := by decide +kernel
theorem dX9_plainSize_15 : decode cX9_plainSize 15 = .ok (.ireturn, 1) := by decide +kernel
theorem dX9_richSize_0 : decode cX9_richSize 0 = .ok (.aload_n 0, 1) := by decide +kernel
theorem dX9_richSize_1 : decode cX9_richSize 1 = .ok (.getfield 19, 3) := by decide +kernel
theorem dX9_richSize_4 : decode cX9_richSize 4 = .ok (.iconst 4, 1) := by decide +kernel
theorem dX9_richSize_5 : decode cX9_richSize 5 = .ok (.iload_n 1, 1) := by decide +kernel
theorem dX9_richSize_6 : decode cX9_richSize 6 = .ok (.iadd, 1) := by decide +kernel
theorem dX9_richSize_7 : decode cX9_richSize 7 = .ok (.iaload, 1) := by decide +kernel
theorem dX9_richSize_8 : decode cX9_richSize 8 = .ok (.iconst 5, 1) := by decide +kernel
theorem dX9_richSize_9 : decode cX9_richSize 9 = .ok (.if_icmp .ne 9, 3) := by decide +kernel
theorem dX9_richSize_12 : decode cX9_richSize 12 = .ok (.aload_n 0, 1) := by decide +kernel
theorem dX9_richSize_13 : decode cX9_richSize 13 = .ok (.bipush 14, 2) := by decide +kernel
theorem dX9_richSize_15 : decode cX9_richSize 15 = .ok (.invokevirtual 254, 3) := by decide +kernel
theorem dX9_richSize_18 : decode cX9_richSize 18 = .ok (.aload_n 0, 1) := by decide +kernel
theorem dX9_richSize_19 : decode cX9_richSize 19 = .ok (.bipush 13, 2) := by decide +kernel
theorem dX9_richSize_21 : decode cX9_richSize 21 = .ok (.invokevirtual 254, 3) := by decide +kernel
theorem dX9_richSize_24 : decode cX9_richSize 24 = .ok (.aload_n 0, 1) := by decide +kernel
theorem dX9_richSize_25 : decode cX9_richSize 25 = .ok (.iload_n 1, 1) := by decide +kernel
theorem dX9_richSize_26 : decode cX9_richSize 26 = .ok (.invokevirtual 257, 3) := by decide +kernel
theorem dX9_richSize_29 : decode cX9_richSize 29 = .ok (.bipush 100, 2) := by decide +kernel
theorem dX9_richSize_31 : decode cX9_richSize 31 = .ok (.isub, 1) := by decide +kernel
theorem dX9_richSize_32 : decode cX9_richSize 32 = .ok (.istore_n 2, 1) := by decide +kernel
theorem dX9_richSize_33 : decode cX9_richSize 33 = .ok (.aload_n 0, 1) := by decide +kernel
theorem dX9_richSize_34 : decode cX9_richSize 34 = .ok (.getfield 19, 3) := by decide +kernel
theorem dX9_richSize_37 : decode cX9_richSize 37 = .ok (.iconst 4, 1) := by decide +kernel
theorem dX9_richSize_38 : decode cX9_richSize 38 = .ok (.iload_n 1, 1) := by decide +kernel
theorem dX9_richSize_39 : decode cX9_richSize 39 = .ok (.iadd, 1) := by decide +kernel
theorem dX9_richSize_40 : decode cX9_richSize 40 = .ok (.iaload, 1) := by decide +kernel
theorem dX9_richSize_41 : decode cX9_richSize 41 = .ok (.iconst 5, 1) := by decide +kernel
theorem dX9_richSize_42 : decode cX9_richSize 42 = .ok (.if_icmp .ne 9, 3) := by decide +kernel
theorem dX9_richSize_45 : decode cX9_richSize 45 = .ok (.iconst 2, 1) := by decide +kernel
theorem dX9_richSize_46 : decode cX9_richSize 46 = .ok (.iload_n 2, 1) := by decide +kernel
theorem dX9_richSize_47 : decode cX9_richSize 47 = .ok (.imul, 1) := by decide +kernel
theorem dX9_richSize_48 : decode cX9_richSize 48 = .ok (.goto 4, 3) := by decide +kernel
theorem dX9_richSize_51 : decode cX9_richSize 51 = .ok (.iload_n 2, 1) := by decide +kernel
theorem dX9_richSize_52 : decode cX9_richSize 52 = .ok (.ireturn, 1) := by decide +kernel
theorem dX9_thingsOf_0 : decode cX9_thingsOf 0 = .ok (.iconst 0, 1) := by decide +kernel
theorem dX9_thingsOf_1 : decode cX9_thingsOf 1 = .ok (.istore_n 2, 1) := by decide +kernel
theorem dX9_thingsOf_2 : decode cX9_thingsOf 2 = .ok (.iconst 0, 1) := by decide +kernel
theorem dX9_thingsOf_3 : decode cX9_thingsOf 3 = .ok (.istore_n 3, 1) := by decide +kernel
theorem dX9_thingsOf_4 : decode cX9_thingsOf 4 = .ok (.iload_n 3, 1) := by decide +kernel
theorem dX9_thingsOf_5 : decode cX9_thingsOf 5 = .ok (.aload_n 0, 1) := by decide +kernel
theorem dX9_thingsOf_6 : decode cX9_thingsOf 6 = .ok (.getfield 19, 3) := by decide +kernel
theorem dX9_thingsOf_9 : decode cX9_thingsOf 9 = .ok (.iconst 3, 1) := by decide +kernel
theorem dX9_thingsOf_10 : decode cX9_thingsOf 10 = .ok (.iaload, 1) := by decide +kernel
theorem dX9_thingsOf_11 : decode cX9_thingsOf 11 = .ok (.if_icmp .ge 27, 3) := by decide +kernel
theorem dX9_thingsOf_14 : decode cX9_thingsOf 14 = .ok (.iload_n 2, 1) := by decide +kernel
theorem dX9_thingsOf_15 : decode cX9_thingsOf 15 = .ok (.aload_n 0, 1) := by decide +kernel
theorem dX9_thingsOf_16 : decode cX9_thingsOf 16 = .ok (.iload_n 3, 1) := by decide +kernel
theorem dX9_thingsOf_17 : decode cX9_thingsOf 17 = .ok (.iconst 4, 1) := by decide +kernel
theorem dX9_thingsOf_18 : decode cX9_thingsOf 18 = .ok (.invokevirtual 176, 3) := by decide +kernel
theorem dX9_thingsOf_21 : decode cX9_thingsOf 21 = .ok (.iload_n 1, 1) := by decide +kernel
theorem dX9_thingsOf_22 : decode cX9_thingsOf 22 = .ok (.if_icmp .ne 7, 3) := by decide +kernel
theorem dX9_thingsOf_25 : decode cX9_thingsOf 25 = .ok (.iconst 1, 1) := by decide +kernel
theorem dX9_thingsOf_26 : decode cX9_thingsOf 26 = .ok (.goto 4, 3) := by decide +kernel
theorem dX9_thingsOf_29 : decode cX9_thingsOf 29 = .ok (.iconst 0, 1) := by decide +kernel
theorem dX9_thingsOf_30 : decode cX9_thingsOf 30 = .ok (.iadd, 1) := by decide +kernel
theorem dX9_thingsOf_31 : decode cX9_thingsOf 31 = .ok (.istore_n 2, 1) := by decide +kernel
theorem dX9_thingsOf_32 : decode cX9_thingsOf 32 = .ok (.iinc 3 1, 3) := by decide +kernel
theorem dX9_thingsOf_35 : decode cX9_thingsOf 35 = .ok (.goto (-31), 3) := by decide +kernel
theorem dX9_thingsOf_38 : decode cX9_thingsOf 38 = .ok (.iload_n 2, 1) := by decide +kernel
theorem dX9_thingsOf_39 : decode cX9_thingsOf 39 = .ok (.ireturn, 1) := by decide +kernel
theorem dX9_markOf_0 : decode cX9_markOf 0 = .ok (.aload_n 0, 1) := by decide +kernel
theorem dX9_markOf_1 : decode cX9_markOf 1 = .ok (.getfield 19, 3) := by decide +kernel
theorem dX9_markOf_4 : decode cX9_markOf 4 = .ok (.iconst 4, 1) := by decide +kernel
theorem dX9_markOf_5 : decode cX9_markOf 5 = .ok (.iload_n 1, 1) := by decide +kernel
theorem dX9_markOf_6 : decode cX9_markOf 6 = .ok (.iadd, 1) := by decide +kernel
theorem dX9_markOf_7 : decode cX9_markOf 7 = .ok (.iaload, 1) := by decide +kernel
theorem dX9_markOf_8 : decode cX9_markOf 8 = .ok (.istore_n 2, 1) := by decide +kernel
theorem dX9_markOf_9 : decode cX9_markOf 9 = .ok (.iload_n 2, 1) := by decide +kernel
theorem dX9_markOf_10 : decode cX9_markOf 10 = .ok (.iconst 4, 1) := by decide +kernel
theorem dX9_markOf_11 : decode cX9_markOf 11 = .ok (.if_icmp .lt 23, 3) := by decide +kernel
theorem dX9_markOf_14 : decode cX9_markOf 14 = .ok (.aload_n 0, 1) := by decide +kernel
theorem dX9_markOf_15 : decode cX9_markOf 15 = .ok (.bipush 23, 2) := by decide +kernel
theorem dX9_markOf_17 : decode cX9_markOf 17 = .ok (.invokevirtual 254, 3) := by decide +kernel
theorem dX9_markOf_20 : decode cX9_markOf 20 = .ok (.aload_n 0, 1) := by decide +kernel
theorem dX9_markOf_21 : decode cX9_markOf 21 = .ok (.bipush 20, 2) := by decide +kernel
theorem dX9_markOf_23 : decode cX9_markOf 23 = .ok (.invokevirtual 254, 3) := by decide +kernel
theorem dX9_markOf_26 : decode cX9_markOf 26 = .ok (.iload_n 1, 1) := by decide +kernel
theorem dX9_markOf_27 : decode cX9_markOf 27 = .ok (.aload_n 0, 1) := by decide +kernel
theorem dX9_markOf_28 : decode cX9_markOf 28 = .ok (.iload_n 1, 1) := by decide +kernel
theorem dX9_markOf_29 : decode cX9_markOf 29 = .ok (.invokevirtual 260, 3) := by decide +kernel
theorem dX9_markOf_32 : decode cX9_markOf 32 = .ok (.isub, 1) := by decide +kernel
theorem dX9_markOf_33 : decode cX9_markOf 33 = .ok (.ireturn, 1) := by decide +kernel
theorem dX9_markOf_34 : decode cX9_markOf 34 = .ok (.iload_n 2, 1) := by decide +kernel
theorem dX9_markOf_35 : decode cX9_markOf 35 = .ok (.iconst 1, 1) := by decide +kernel
theorem dX9_markOf_36 : decode cX9_markOf 36 = .ok (.if_icmp .eq 19, 3) := by decide +kernel
theorem dX9_markOf_39 : decode cX9_markOf 39 = .ok (.aload_n 0, 1) := by decide +kernel
theorem dX9_markOf_40 : decode cX9_markOf 40 = .ok (.iload_n 2, 1) := by decide +kernel
theorem dX9_markOf_41 : decode cX9_markOf 41 = .ok (.iconst 3, 1) := by decide +kernel
theorem dX9_markOf_42 : decode cX9_markOf 42 = .ok (.if_icmp .ne 8, 3) := by decide +kernel
theorem dX9_markOf_45 : decode cX9_markOf 45 = .ok (.bipush 22, 2) := by decide +kernel
theorem dX9_markOf_47 : decode cX9_markOf 47 = .ok (.goto 5, 3) := by decide +kernel
theorem dX9_markOf_50 : decode cX9_markOf 50 = .ok (.bipush 24, 2) := by decide +kernel
theorem dX9_markOf_52 : decode cX9_markOf 52 = .ok (.invokevirtual 254, 3) := by decide +kernel
theorem dX9_markOf_55 : decode cX9_markOf 55 = .ok (.aload_n 0, 1) := by decide +kernel
theorem dX9_markOf_56 : decode cX9_markOf 56 = .ok (.bipush 21, 2) := by decide +kernel
theorem dX9_markOf_58 : decode cX9_markOf 58 = .ok (.invokevirtual 254, 3) := by decide +kernel
theorem dX9_markOf_61 : decode cX9_markOf 61 = .ok (.aload_n 0, 1) := by decide +kernel
theorem dX9_markOf_62 : decode cX9_markOf 62 = .ok (.bipush 20, 2) := by decide +kernel
theorem dX9_markOf_64 : decode cX9_markOf 64 = .ok (.invokevirtual 254, 3) := by decide +kernel
theorem dX9_markOf_67 : decode cX9_markOf 67 = .ok (.iload_n 1, 1) := by decide +kernel
theorem dX9_markOf_68 : decode cX9_markOf 68 = .ok (.aload_n 0, 1) := by decide +kernel
theorem dX9_markOf_69 : decode cX9_markOf 69 = .ok (.iload_n 1, 1) := by decide +kernel
theorem dX9_markOf_70 : decode cX9_markOf 70 = .ok (.invokevirtual 263, 3) := by decide +kernel
theorem dX9_markOf_73 : decode cX9_markOf 73 = .ok (.iadd, 1) := by decide +kernel
theorem dX9_markOf_74 : decode cX9_markOf 74 = .ok (.istore_n 3, 1) := by decide +kernel
theorem dX9_markOf_75 : decode cX9_markOf 75 = .ok (.iload_n 2, 1) := by decide +kernel
theorem dX9_markOf_76 : decode cX9_markOf 76 = .ok (.iconst 1, 1) := by decide +kernel
theorem dX9_markOf_77 : decode cX9_markOf 77 = .ok (.if_icmp .ne 7, 3) := by decide +kernel
theorem dX9_markOf_80 : decode cX9_markOf 80 = .ok (.iload_n 3, 1) := by decide +kernel
theorem dX9_markOf_81 : decode cX9_markOf 81 = .ok (.goto 19, 3) := by decide +kernel
theorem dX9_markOf_84 : decode cX9_markOf 84 = .ok (.iload_n 2, 1) := by decide +kernel
theorem dX9_markOf_85 : decode cX9_markOf 85 = .ok (.iconst 3, 1) := by decide +kernel
theorem dX9_markOf_86 : decode cX9_markOf 86 = .ok (.if_icmp .ne 11, 3) := by decide +kernel
theorem dX9_markOf_89 : decode cX9_markOf 89 = .ok (.iload_n 3, 1) := by decide +kernel
theorem dX9_markOf_90 : decode cX9_markOf 90 = .ok (.sipush 1000, 3) := by decide +kernel
theorem dX9_markOf_93 : decode cX9_markOf 93 = .ok (.isub, 1) := by decide +kernel
theorem dX9_markOf_94 : decode cX9_markOf 94 = .ok (.goto 6, 3) := by decide +kernel
theorem dX9_markOf_97 : decode cX9_markOf 97 = .ok (.iconst 2, 1) := by decide +kernel
theorem dX9_markOf_98 : decode cX9_markOf 98 = .ok (.iload_n 3, 1) := by decide +kernel
theorem dX9_markOf_99 : decode cX9_markOf 99 = .ok (.imul, 1) := by decide +kernel
theorem dX9_markOf_100 : decode cX9_markOf 100 = .ok (.ireturn, 1) := by decide +kernel
theorem dX9_sizeOf_0 : decode cX9_sizeOf 0 = .ok (.aload_n 0, 1) := by decide +kernel
theorem dX9_sizeOf_1 : decode cX9_sizeOf 1 = .ok (.getfield 19, 3) := by decide +kernel
theorem dX9_sizeOf_4 : decode cX9_sizeOf 4 = .ok (.iconst 4, 1) := by decide +kernel
theorem dX9_sizeOf_5 : decode cX9_sizeOf 5 = .ok (.iload_n 1, 1) := by decide +kernel
theorem dX9_sizeOf_6 : decode cX9_sizeOf 6 = .ok (.iadd, 1) := by decide +kernel
theorem dX9_sizeOf_7 : decode cX9_sizeOf 7 = .ok (.iaload, 1) := by decide +kernel
theorem dX9_sizeOf_8 : decode cX9_sizeOf 8 = .ok (.istore_n 2, 1) := by decide +kernel
theorem dX9_sizeOf_9 : decode cX9_sizeOf 9 = .ok (.iload_n 2, 1) := by decide +kernel
theorem dX9_sizeOf_10 : decode cX9_sizeOf 10 = .ok (.iconst 4, 1) := by decide +kernel
theorem dX9_sizeOf_11 : decode cX9_sizeOf 11 = .ok (.if_icmp .lt 9, 3) := by decide +kernel
theorem dX9_sizeOf_14 : decode cX9_sizeOf 14 = .ok (.aload_n 0, 1) := by decide +kernel
theorem dX9_sizeOf_15 : decode cX9_sizeOf 15 = .ok (.iload_n 1, 1) := by decide +kernel
theorem dX9_sizeOf_16 : decode cX9_sizeOf 16 = .ok (.invokevirtual 260, 3) := by decide +kernel
theorem dX9_sizeOf_19 : decode cX9_sizeOf 19 = .ok (.ireturn, 1) := by decide +kernel
theorem dX9_sizeOf_20 : decode cX9_sizeOf 20 = .ok (.iload_n 2, 1) := by decide +kernel
theorem dX9_sizeOf_21 : decode cX9_sizeOf 21 = .ok (.iconst 2, 1) := by decide +kernel
theorem dX9_sizeOf_22 : decode cX9_sizeOf 22 = .ok (.if_icmp .ne 9, 3) := by decide +kernel
theorem dX9_sizeOf_25 : decode cX9_sizeOf 25 = .ok (.aload_n 0, 1) := by decide +kernel
theorem dX9_sizeOf_26 : decode cX9_sizeOf 26 = .ok (.bipush 12, 2) := by decide +kernel
theorem dX9_sizeOf_28 : decode cX9_sizeOf 28 = .ok (.invokevirtual 254, 3) := by decide +kernel
theorem dX9_sizeOf_31 : decode cX9_sizeOf 31 = .ok (.aload_n 0, 1) := by decide +kernel
theorem dX9_sizeOf_32 : decode cX9_sizeOf 32 = .ok (.bipush 11, 2) := by decide +kernel
theorem dX9_sizeOf_34 : decode cX9_sizeOf 34 = .ok (.invokevirtual 254, 3) := by decide +kernel
theorem dX9_sizeOf_37 : decode cX9_sizeOf 37 = .ok (.aload_n 0, 1) := by decide +kernel
theorem dX9_sizeOf_38 : decode cX9_sizeOf 38 = .ok (.iload_n 1, 1) := by decide +kernel
theorem dX9_sizeOf_39 : decode cX9_sizeOf 39 = .ok (.invokevirtual 257, 3) := by decide +kernel
theorem dX9_sizeOf_42 : decode cX9_sizeOf 42 = .ok (.istore_n 3, 1) := by decide +kernel
theorem dX9_sizeOf_43 : decode cX9_sizeOf 43 = .ok (.iload_n 3, 1) := by decide +kernel
theorem dX9_sizeOf_44 : decode cX9_sizeOf 44 = .ok (.aload_n 0, 1) := by decide +kernel
theorem dX9_sizeOf_45 : decode cX9_sizeOf 45 = .ok (.iload_n 1, 1) := by decide +kernel
theorem dX9_sizeOf_46 : decode cX9_sizeOf 46 = .ok (.invokevirtual 266, 3) := by decide +kernel
theorem dX9_sizeOf_49 : decode cX9_sizeOf 49 = .ok (.iadd, 1) := by decide +kernel
theorem dX9_sizeOf_50 : decode cX9_sizeOf 50 = .ok (.istore_n 3, 1) := by decide +kernel
theorem dX9_sizeOf_51 : decode cX9_sizeOf 51 = .ok (.iload_n 2, 1) := by decide +kernel
theorem dX9_sizeOf_52 : decode cX9_sizeOf 52 = .ok (.iconst 2, 1) := by decide +kernel
theorem dX9_sizeOf_53 : decode cX9_sizeOf 53 = .ok (.if_icmp .ne 8, 3) := by decide +kernel
theorem dX9_sizeOf_56 : decode cX9_sizeOf 56 = .ok (.iload_n 3, 1) := by decide +kernel
theorem dX9_sizeOf_57 : decode cX9_sizeOf 57 = .ok (.ineg, 1) := by decide +kernel
theorem dX9_sizeOf_58 : decode cX9_sizeOf 58 = .ok (.goto 4, 3) := by decide +kernel
theorem dX9_sizeOf_61 : decode cX9_sizeOf 61 = .ok (.iload_n 3, 1) := by decide +kernel
theorem dX9_sizeOf_62 : decode cX9_sizeOf 62 = .ok (.ireturn, 1) := by decide +kernel
theorem dX9_ask_0 : decode cX9_ask 0 = .ok (.aload_n 0, 1) := by decide +kernel
theorem dX9_ask_1 : decode cX9_ask 1 = .ok (.iconst 0, 1) := by decide +kernel
theorem dX9_ask_2 : decode cX9_ask 2 = .ok (.putfield 44, 3) := by decide +kernel
theorem dX9_ask_5 : decode cX9_ask 5 = .ok (.aload_n 0, 1) := by decide +kernel
theorem dX9_ask_6 : decode cX9_ask 6 = .ok (.iload_n 1, 1) := by decide +kernel
theorem dX9_ask_7 : decode cX9_ask 7 = .ok (.invokevirtual 226, 3) := by decide +kernel
theorem dX9_ask_10 : decode cX9_ask 10 = .ok (.ifCond .eq 13, 3) := by decide +kernel
theorem dX9_ask_13 : decode cX9_ask 13 = .ok (.iload_n 2, 1) := by decide +kernel
theorem dX9_ask_14 : decode cX9_ask 14 = .ok (.i2l, 1) := by decide +kernel
theorem dX9_ask_15 : decode cX9_ask 15 = .ok (.lconst 0, 1) := by decide +kernel
theorem dX9_ask_16 : decode cX9_ask 16 = .ok (.lconst 1, 1) := by decide +kernel
theorem dX9_ask_17 : decode cX9_ask 17 = .ok (.invokestatic 54, 3) := by decide +kernel
theorem dX9_ask_20 : decode cX9_ask 20 = .ok (.ifCond .ne 6, 3) := by decide +kernel
theorem dX9_ask_23 : decode cX9_ask 23 = .ok (.ldc 64, 2) := by decide +kernel
theorem dX9_ask_25 : decode cX9_ask 25 = .ok (.ireturn, 1) := by decide +kernel
theorem dX9_ask_26 : decode cX9_ask 26 = .ok (.aload_n 0, 1) := by decide +kernel
theorem dX9_ask_27 : decode cX9_ask 27 = .ok (.iconst 0, 1) := by decide +kernel
theorem dX9_ask_28 : decode cX9_ask 28 = .ok (.putfield 251, 3) := by decide +kernel
theorem dX9_ask_31 : decode cX9_ask 31 = .ok (.iload_n 2, 1) := by decide +kernel
theorem dX9_ask_32 : decode cX9_ask 32 = .ok (.ifCond .ne 11, 3) := by decide +kernel
theorem dX9_ask_35 : decode cX9_ask 35 = .ok (.aload_n 0, 1) := by decide +kernel
theorem dX9_ask_36 : decode cX9_ask 36 = .ok (.iload_n 1, 1) := by decide +kernel
theorem dX9_ask_37 : decode cX9_ask 37 = .ok (.invokevirtual 269, 3) := by decide +kernel
theorem dX9_ask_40 : decode cX9_ask 40 = .ok (.goto 8, 3) := by decide +kernel
theorem dX9_ask_43 : decode cX9_ask 43 = .ok (.aload_n 0, 1) := by decide +kernel
theorem dX9_ask_44 : decode cX9_ask 44 = .ok (.iload_n 1, 1) := by decide +kernel
theorem dX9_ask_45 : decode cX9_ask 45 = .ok (.invokevirtual 266, 3) := by decide +kernel
theorem dX9_ask_48 : decode cX9_ask 48 = .ok (.ireturn, 1) := by decide +kernel
theorem dX9_trace_0 : decode cX9_trace 0 = .ok (.aload_n 0, 1) := by decide +kernel
theorem dX9_trace_1 : decode cX9_trace 1 = .ok (.iconst 0, 1) := by decide +kernel
theorem dX9_trace_2 : decode cX9_trace 2 = .ok (.putfield 44, 3) := by decide +kernel
theorem dX9_trace_5 : decode cX9_trace 5 = .ok (.iload_n 1, 1) := by decide +kernel
theorem dX9_trace_6 : decode cX9_trace 6 = .ok (.i2l, 1) := by decide +kernel
theorem dX9_trace_7 : decode cX9_trace 7 = .ok (.lconst 0, 1) := by decide +kernel
theorem dX9_trace_8 : decode cX9_trace 8 = .ok (.aload_n 0, 1) := by decide +kernel
theorem dX9_trace_9 : decode cX9_trace 9 = .ok (.getfield 251, 3) := by decide +kernel
theorem dX9_trace_12 : decode cX9_trace 12 = .ok (.iconst 1, 1) := by decide +kernel
theorem dX9_trace_13 : decode cX9_trace 13 = .ok (.isub, 1) := by decide +kernel
theorem dX9_trace_14 : decode cX9_trace 14 = .ok (.i2l, 1) := by decide +kernel
theorem dX9_trace_15 : decode cX9_trace 15 = .ok (.invokestatic 54, 3) := by decide +kernel
theorem dX9_trace_18 : decode cX9_trace 18 = .ok (.ifCond .eq 12, 3) := by decide +kernel
theorem dX9_trace_21 : decode cX9_trace 21 = .ok (.aload_n 0, 1) := by decide +kernel
theorem dX9_trace_22 : decode cX9_trace 22 = .ok (.getfield 41, 3) := by decide +kernel
theorem dX9_trace_25 : decode cX9_trace 25 = .ok (.iload_n 1, 1) := by decide +kernel
theorem dX9_trace_26 : decode cX9_trace 26 = .ok (.iaload, 1) := by decide +kernel
theorem dX9_trace_27 : decode cX9_trace 27 = .ok (.goto 5, 3) := by decide +kernel
theorem dX9_trace_30 : decode cX9_trace 30 = .ok (.ldc 80, 2) := by decide +kernel
theorem dX9_trace_32 : decode cX9_trace 32 = .ok (.ireturn, 1) := by decide +kernel
theorem dX9_count_0 : decode cX9_count 0 = .ok (.aload_n 0, 1) := by decide +kernel
theorem dX9_count_1 : decode cX9_count 1 = .ok (.iconst 0, 1) := by decide +kernel
theorem dX9_count_2 : decode cX9_count 2 = .ok (.putfield 44, 3) := by decide +kernel
theorem dX9_count_5 : decode cX9_count 5 = .ok (.iconst 0, 1) := by decide +kernel
theorem dX9_count_6 : decode cX9_count 6 = .ok (.istore_n 2, 1) := by decide +kernel
theorem dX9_count_7 : decode cX9_count 7 = .ok (.iload_n 1, 1) := by decide +kernel
theorem dX9_count_8 : decode cX9_count 8 = .ok (.tableswitch 158 0 7 #[48, 81, 88, 95, 134, 139, 146, 153], 48) := by decide +kernel
theorem dX9_count_56 : decode cX9_count 56 = .ok (.iconst 0, 1) := by decide +kernel
theorem dX9_count_57 : decode cX9_count 57 = .ok (.istore_n 3, 1) := by decide +kernel
theorem dX9_count_58 : decode cX9_count 58 = .ok (.iload_n 3, 1) := by decide +kernel
theorem dX9_count_59 : decode cX9_count 59 = .ok (.bipush 8, 2) := by decide +kernel
theorem dX9_count_61 : decode cX9_count 61 = .ok (.if_icmp .ge 26, 3) := by decide +kernel
theorem dX9_count_64 : decode cX9_count 64 = .ok (.iload_n 2, 1) := by decide +kernel
theorem dX9_count_65 : decode cX9_count 65 = .ok (.aload_n 0, 1) := by decide +kernel
theorem dX9_count_66 : decode cX9_count 66 = .ok (.getfield 7, 3) := by decide +kernel
theorem dX9_count_69 : decode cX9_count 69 = .ok (.iload_n 3, 1) := by decide +kernel
theorem dX9_count_70 : decode cX9_count 70 = .ok (.iaload, 1) := by decide +kernel
theorem dX9_count_71 : decode cX9_count 71 = .ok (.ifCond .lt 7, 3) := by decide +kernel
theorem dX9_count_74 : decode cX9_count 74 = .ok (.iconst 1, 1) := by decide +kernel
theorem dX9_count_75 : decode cX9_count 75 = .ok (.goto 4, 3) := by decide +kernel
theorem dX9_count_78 : decode cX9_count 78 = .ok (.iconst 0, 1) := by decide +kernel
theorem dX9_count_79 : decode cX9_count 79 = .ok (.iadd, 1) := by decide +kernel
theorem dX9_count_80 : decode cX9_count 80 = .ok (.istore_n 2, 1) := by decide +kernel
theorem dX9_count_81 : decode cX9_count 81 = .ok (.iinc 3 1, 3) := by decide +kernel
theorem dX9_count_84 : decode cX9_count 84 = .ok (.goto (-26), 3) := by decide +kernel
theorem dX9_count_87 : decode cX9_count 87 = .ok (.iload_n 2, 1) := by decide +kernel
theorem dX9_count_88 : decode cX9_count 88 = .ok (.ireturn, 1) := by decide +kernel
theorem dX9_count_89 : decode cX9_count 89 = .ok (.aload_n 0, 1) := by decide +kernel
theorem dX9_count_90 : decode cX9_count 90 = .ok (.getfield 19, 3) := by decide +kernel
theorem dX9_count_93 : decode cX9_count 93 = .ok (.iconst 2, 1) := by decide +kernel
theorem dX9_count_94 : decode cX9_count 94 = .ok (.iaload, 1) := by decide +kernel
theorem dX9_count_95 : decode cX9_count 95 = .ok (.ireturn, 1) := by decide +kernel
theorem dX9_count_96 : decode cX9_count 96 = .ok (.aload_n 0, 1) := by decide +kernel
theorem dX9_count_97 : decode cX9_count 97 = .ok (.getfield 19, 3) := by decide +kernel
theorem dX9_count_100 : decode cX9_count 100 = .ok (.iconst 3, 1) := by decide +kernel
theorem dX9_count_101 : decode cX9_count 101 = .ok (.iaload, 1) := by decide +kernel
theorem dX9_count_102 : decode cX9_count 102 = .ok (.ireturn, 1) := by decide +kernel
theorem dX9_count_103 : decode cX9_count 103 = .ok (.iconst 0, 1) := by decide +kernel
theorem dX9_count_104 : decode cX9_count 104 = .ok (.istore_n 3, 1) := by decide +kernel
theorem dX9_count_105 : decode cX9_count 105 = .ok (.iload_n 3, 1) := by decide +kernel
theorem dX9_count_106 : decode cX9_count 106 = .ok (.aload_n 0, 1) := by decide +kernel
theorem dX9_count_107 : decode cX9_count 107 = .ok (.getfield 19, 3) := by decide +kernel
theorem dX9_count_110 : decode cX9_count 110 = .ok (.iconst 3, 1) := by decide +kernel
theorem dX9_count_111 : decode cX9_count 111 = .ok (.iaload, 1) := by decide +kernel
theorem dX9_count_112 : decode cX9_count 112 = .ok (.if_icmp .ge 28, 3) := by decide +kernel
theorem dX9_count_115 : decode cX9_count 115 = .ok (.iload_n 2, 1) := by decide +kernel
theorem dX9_count_116 : decode cX9_count 116 = .ok (.aload_n 0, 1) := by decide +kernel
theorem dX9_count_117 : decode cX9_count 117 = .ok (.iload_n 3, 1) := by decide +kernel
theorem dX9_count_118 : decode cX9_count 118 = .ok (.iconst 4, 1) := by decide +kernel
theorem dX9_count_119 : decode cX9_count 119 = .ok (.invokevirtual 176, 3) := by decide +kernel
theorem dX9_count_122 : decode cX9_count 122 = .ok (.ldc 80, 2) := by decide +kernel
theorem dX9_count_124 : decode cX9_count 124 = .ok (.if_icmp .eq 7, 3) := by decide +kernel
theorem dX9_count_127 : decode cX9_count 127 = .ok (.iconst 1, 1) := by decide +kernel
theorem dX9_count_128 : decode cX9_count 128 = .ok (.goto 4, 3) := by decide +kernel
theorem dX9_count_131 : decode cX9_count 131 = .ok (.iconst 0, 1) := by decide +kernel
theorem dX9_count_132 : decode cX9_count 132 = .ok (.iadd, 1) := by decide +kernel
theorem dX9_count_133 : decode cX9_count 133 = .ok (.istore_n 2, 1) := by decide +kernel
theorem dX9_count_134 : decode cX9_count 134 = .ok (.iinc 3 1, 3) := by decide +kernel
theorem dX9_count_137 : decode cX9_count 137 = .ok (.goto (-32), 3) := by decide +kernel
theorem dX9_count_140 : decode cX9_count 140 = .ok (.iload_n 2, 1) := by decide +kernel
theorem dX9_count_141 : decode cX9_count 141 = .ok (.ireturn, 1) := by decide +kernel
theorem dX9_count_142 : decode cX9_count 142 = .ok (.aload_n 0, 1) := by decide +kernel
theorem dX9_count_143 : decode cX9_count 143 = .ok (.getfield 171, 3) := by decide +kernel
theorem dX9_count_146 : decode cX9_count 146 = .ok (.ireturn, 1) := by decide +kernel
theorem dX9_count_147 : decode cX9_count 147 = .ok (.aload_n 0, 1) := by decide +kernel
theorem dX9_count_148 : decode cX9_count 148 = .ok (.getfield 19, 3) := by decide +kernel
theorem dX9_count_151 : decode cX9_count 151 = .ok (.iconst 0, 1) := by decide +kernel
theorem dX9_count_152 : decode cX9_count 152 = .ok (.iaload, 1) := by decide +kernel
theorem dX9_count_153 : decode cX9_count 153 = .ok (.ireturn, 1) := by decide +kernel
theorem dX9_count_154 : decode cX9_count 154 = .ok (.aload_n 0, 1) := by decide +kernel
theorem dX9_count_155 : decode cX9_count 155 = .ok (.getfield 19, 3) := by decide +kernel
theorem dX9_count_158 : decode cX9_count 158 = .ok (.iconst 1, 1) := by decide +kernel
theorem dX9_count_159 : decode cX9_count 159 = .ok (.iaload, 1) := by decide +kernel
theorem dX9_count_160 : decode cX9_count 160 = .ok (.ireturn, 1) := by decide +kernel
theorem dX9_count_161 : decode cX9_count 161 = .ok (.aload_n 0, 1) := by decide +kernel
theorem dX9_count_162 : decode cX9_count 162 = .ok (.getfield 71, 3) := by decide +kernel
theorem dX9_count_165 : decode cX9_count 165 = .ok (.ireturn, 1) := by decide +kernel
theorem dX9_count_166 : decode cX9_count 166 = .ok (.ldc 64, 2) := by decide +kernel
theorem dX9_count_168 : decode cX9_count 168 = .ok (.ireturn, 1) := by decide +kernel
theorem dX9_status_0 : decode cX9_status 0 = .ok (.aload_n 0, 1) := by decide +kernel
theorem dX9_status_1 : decode cX9_status 1 = .ok (.iconst 0, 1) := by decide +kernel
theorem dX9_status_2 : decode cX9_status 2 = .ok (.putfield 44, 3) := by decide +kernel
theorem dX9_status_5 : decode cX9_status 5 = .ok (.aload_n 0, 1) := by decide +kernel
theorem dX9_status_6 : decode cX9_status 6 = .ok (.getfield 48, 3) := by decide +kernel
theorem dX9_status_9 : decode cX9_status 9 = .ok (.ireturn, 1) := by decide +kernel
