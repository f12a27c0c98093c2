theorem dX8_init_0 : decode cX8_init 0 = .ok (.aload_n 0, 1) := by decide +kernel
theorem dX8_init_1 : decode cX8_init 1 = .ok (.invokespecial 1, 3) := by decide +kernel
theorem dX8_init_4 : decode cX8_init 4 = .ok (.aload_n 0, 1) := by decide +kernel
theorem dX8_init_5 : decode cX8_init 5 = .ok (.bipush 8, 2) := by decide +kernel
theorem dX8_init_7 : decode cX8_init 7 = .ok (.anewarray 9, 3) := by decide +kernel
theorem dX8_init_10 : decode cX8_init 10 = .ok (.putfield 11, 3) := by decide +kernel
theorem dX8_init_13 : decode cX8_init 13 = .ok (.iconst 0, 1) := by decide +kernel
theorem dX8_init_14 : decode cX8_init 14 = .ok (.istore_n 1, 1) := by decide +kernel
theorem dX8_init_15 : decode cX8_init 15 = .ok (.iload_n 1, 1) := by decide +kernel
theorem dX8_init_16 : decode cX8_init 16 = .ok (.bipush 8, 2) := by decide +kernel
theorem dX8_init_18 : decode cX8_init 18 = .ok (.if_icmp .ge 22, 3) := by decide +kernel
theorem dX8_init_21 : decode cX8_init 21 = .ok (.aload_n 0, 1) := by decide +kernel
theorem dX8_init_22 : decode cX8_init 22 = .ok (.getfield 11, 3) := by decide +kernel
theorem dX8_init_25 : decode cX8_init 25 = .ok (.iload_n 1, 1) := by decide +kernel
theorem dX8_init_26 : decode cX8_init 26 = .ok (.new 9, 3) := by decide +kernel
theorem dX8_init_29 : decode cX8_init 29 = .ok (.dup, 1) := by decide +kernel
theorem dX8_init_30 : decode cX8_init 30 = .ok (.invokespecial 15, 3) := by decide +kernel
theorem dX8_init_33 : decode cX8_init 33 = .ok (.aastore, 1) := by decide +kernel
theorem dX8_init_34 : decode cX8_init 34 = .ok (.iinc 1 1, 3) := by decide +kernel
theorem dX8_init_37 : decode cX8_init 37 = .ok (.goto (-22), 3) := by decide +kernel
theorem dX8_init_40 : decode cX8_init 40 = .ok (.aload_n 0, 1) := by decide +kernel
theorem dX8_init_41 : decode cX8_init 41 = .ok (.iconst 2, 1) := by decide +kernel
theorem dX8_init_42 : decode cX8_init 42 = .ok (.anewarray 16, 3) := by decide +kernel
theorem dX8_init_45 : decode cX8_init 45 = .ok (.putfield 18, 3) := by decide +kernel
theorem dX8_init_48 : decode cX8_init 48 = .ok (.iconst 0, 1) := by decide +kernel
theorem dX8_init_49 : decode cX8_init 49 = .ok (.istore_n 1, 1) := by decide +kernel
theorem dX8_init_50 : decode cX8_init 50 = .ok (.iload_n 1, 1) := by decide +kernel
theorem dX8_init_51 : decode cX8_init 51 = .ok (.iconst 2, 1) := by decide +kernel
theorem dX8_init_52 : decode cX8_init 52 = .ok (.if_icmp .ge 22, 3) := by decide +kernel
theorem dX8_init_55 : decode cX8_init 55 = .ok (.aload_n 0, 1) := by decide +kernel
theorem dX8_init_56 : decode cX8_init 56 = .ok (.getfield 18, 3) := by decide +kernel
theorem dX8_init_59 : decode cX8_init 59 = .ok (.iload_n 1, 1) := by decide +kernel
theorem dX8_init_60 : decode cX8_init 60 = .ok (.new 16, 3) := by decide +kernel
theorem dX8_init_63 : decode cX8_init 63 = .ok (.dup, 1) := by decide +kernel
theorem dX8_init_64 : decode cX8_init 64 = .ok (.invokespecial 22, 3) := by decide +kernel
theorem dX8_init_67 : decode cX8_init 67 = .ok (.aastore, 1) := by decide +kernel
theorem dX8_init_68 : decode cX8_init 68 = .ok (.iinc 1 1, 3) := by decide +kernel
theorem dX8_init_71 : decode cX8_init 71 = .ok (.goto (-21), 3) := by decide +kernel
theorem dX8_init_74 : decode cX8_init 74 = .ok (.aload_n 0, 1) := by decide +kernel
theorem dX8_init_75 : decode cX8_init 75 = .ok (.new 23, 3) := by decide +kernel
theorem dX8_init_78 : decode cX8_init 78 = .ok (.dup, 1) := by decide +kernel
theorem dX8_init_79 : decode cX8_init 79 = .ok (.invokespecial 25, 3) := by decide +kernel
theorem dX8_init_82 : decode cX8_init 82 = .ok (.putfield 26, 3) := by decide +kernel
theorem dX8_init_85 : decode cX8_init 85 = .ok (.aload_n 0, 1) := by decide +kernel
theorem dX8_init_86 : decode cX8_init 86 = .ok (.new 30, 3) := by decide +kernel
theorem dX8_init_89 : decode cX8_init 89 = .ok (.dup, 1) := by decide +kernel
theorem dX8_init_90 : decode cX8_init 90 = .ok (.invokespecial 32, 3) := by decide +kernel
theorem dX8_init_93 : decode cX8_init 93 = .ok (.putfield 33, 3) := by decide +kernel
theorem dX8_init_96 : decode cX8_init 96 = .ok (.aload_n 0, 1) := by decide +kernel
theorem dX8_init_97 : decode cX8_init 97 = .ok (.new 37, 3) := by decide +kernel
theorem dX8_init_100 : decode cX8_init 100 = .ok (.dup, 1) := by decide +kernel
theorem dX8_init_101 : decode cX8_init 101 = .ok (.invokespecial 39, 3) := by decide +kernel
theorem dX8_init_104 : decode cX8_init 104 = .ok (.putfield 40, 3) := by decide +kernel
theorem dX8_init_107 : decode cX8_init 107 = .ok (.aload_n 0, 1) := by decide +kernel
theorem dX8_init_108 : decode cX8_init 108 = .ok (.new 44, 3) := by decide +kernel
theorem dX8_init_111 : decode cX8_init 111 = .ok (.dup, 1) := by decide +kernel
theorem dX8_init_112 : decode cX8_init 112 = .ok (.invokespecial 46, 3) := by decide +kernel
theorem dX8_init_115 : decode cX8_init 115 = .ok (.putfield 47, 3) := by decide +kernel
theorem dX8_init_118 : decode cX8_init 118 = .ok (.aload_n 0, 1) := by decide +kernel
theorem dX8_init_119 : decode cX8_init 119 = .ok (.new 51, 3) := by decide +kernel
theorem dX8_init_122 : decode cX8_init 122 = .ok (.dup, 1) := by decide +kernel
theorem dX8_init_123 : decode cX8_init 123 = .ok (.invokespecial 53, 3) := by decide +kernel
theorem dX8_init_126 : decode cX8_init 126 = .ok (.putfield 54, 3) := by decide +kernel
theorem dX8_init_129 : decode cX8_init 129 = .ok (.aload_n 0, 1) := by decide +kernel
theorem dX8_init_130 : decode cX8_init 130 = .ok (.new 58, 3) := by decide +kernel
theorem dX8_init_133 : decode cX8_init 133 = .ok (.dup, 1) := by decide +kernel
theorem dX8_init_134 : decode cX8_init 134 = .ok (.invokespecial 60, 3) := by decide +kernel
theorem dX8_init_137 : decode cX8_init 137 = .ok (.putfield 61, 3) := by decide +kernel
theorem dX8_init_140 : decode cX8_init 140 = .ok (.aload_n 0, 1) := by decide +kernel
theorem dX8_init_141 : decode cX8_init 141 = .ok (.new 16, 3) := by decide +kernel
theorem dX8_init_144 : decode cX8_init 144 = .ok (.dup, 1) := by decide +kernel
theorem dX8_init_145 : decode cX8_init 145 = .ok (.invokespecial 22, 3) := by decide +kernel
theorem dX8_init_148 : decode cX8_init 148 = .ok (.putfield 65, 3) := by decide +kernel
theorem dX8_init_151 : decode cX8_init 151 = .ok (.aload_n 0, 1) := by decide +kernel
theorem dX8_init_152 : decode cX8_init 152 = .ok (.new 16, 3) := by decide +kernel
theorem dX8_init_155 : decode cX8_init 155 = .ok (.dup, 1) := by decide +kernel
theorem dX8_init_156 : decode cX8_init 156 = .ok (.invokespecial 22, 3) := by decide +kernel
theorem dX8_init_159 : decode cX8_init 159 = .ok (.putfield 69, 3) := by decide +kernel
theorem dX8_init_162 : decode cX8_init 162 = .ok (.return_, 1) := by decide +kernel
theorem dX8_row_0 : decode cX8_row 0 = .ok (.aload_n 0, 1) := by decide +kernel
theorem dX8_row_1 : decode cX8_row 1 = .ok (.iload_n 1, 1) := by decide +kernel
theorem dX8_row_2 : decode cX8_row 2 = .ok (.invokevirtual 72, 3) := by decide +kernel
theorem dX8_row_5 : decode cX8_row 5 = .ok (.ifCond .eq 18, 3) := by decide +kernel
theorem dX8_row_8 : decode cX8_row 8 = .ok (.iload_n 2, 1) := by decide +kernel
theorem dX8_row_9 : decode cX8_row 9 = .ok (.ifCond .lt 14, 3) := by decide +kernel
theorem dX8_row_12 : decode cX8_row 12 = .ok (.iload_n 2, 1) := by decide +kernel
theorem dX8_row_13 : decode cX8_row 13 = .ok (.iconst 3, 1) := by decide +kernel
theorem dX8_row_14 : decode cX8_row 14 = .ok (.if_icmp .ge 9, 3) := by decide +kernel
theorem dX8_row_17 : decode cX8_row 17 = .ok (.iload_n 3, 1) := by decide +kernel
theorem dX8_row_18 : decode cX8_row 18 = .ok (.bipush 40, 2) := by decide +kernel
theorem dX8_row_20 : decode cX8_row 20 = .ok (.if_icmp .le 6, 3) := by decide +kernel
theorem dX8_row_23 : decode cX8_row 23 = .ok (.ldc 76, 2) := by decide +kernel
theorem dX8_row_25 : decode cX8_row 25 = .ok (.ireturn, 1) := by decide +kernel
theorem dX8_row_26 : decode cX8_row 26 = .ok (.iload_n 3, 1) := by decide +kernel
theorem dX8_row_27 : decode cX8_row 27 = .ok (.ifCond .ge 9, 3) := by decide +kernel
theorem dX8_row_30 : decode cX8_row 30 = .ok (.aload_n 0, 1) := by decide +kernel
theorem dX8_row_31 : decode cX8_row 31 = .ok (.iconst 4, 1) := by decide +kernel
theorem dX8_row_32 : decode cX8_row 32 = .ok (.invokevirtual 77, 3) := by decide +kernel
theorem dX8_row_35 : decode cX8_row 35 = .ok (.ireturn, 1) := by decide +kernel
theorem dX8_row_36 : decode cX8_row 36 = .ok (.aload_n 0, 1) := by decide +kernel
theorem dX8_row_37 : decode cX8_row 37 = .ok (.getfield 11, 3) := by decide +kernel
theorem dX8_row_40 : decode cX8_row 40 = .ok (.iload_n 1, 1) := by decide +kernel
theorem dX8_row_41 : decode cX8_row 41 = .ok (.aaload, 1) := by decide +kernel
theorem dX8_row_42 : decode cX8_row 42 = .ok (.iload_n 2, 1) := by decide +kernel
theorem dX8_row_43 : decode cX8_row 43 = .ok (.iload_n 3, 1) := by decide +kernel
theorem dX8_row_44 : decode cX8_row 44 = .ok (.invokevirtual 81, 3) := by decide +kernel
theorem dX8_row_47 : decode cX8_row 47 = .ok (.aload_n 0, 1) := by decide +kernel
theorem dX8_row_48 : decode cX8_row 48 = .ok (.iload_n 3, 1) := by decide +kernel
theorem dX8_row_49 : decode cX8_row 49 = .ok (.invokevirtual 85, 3) := by decide +kernel
theorem dX8_row_52 : decode cX8_row 52 = .ok (.ireturn, 1) := by decide +kernel
theorem dX8_set_0 : decode cX8_set 0 = .ok (.aload_n 0, 1) := by decide +kernel
theorem dX8_set_1 : decode cX8_set 1 = .ok (.iload_n 1, 1) := by decide +kernel
theorem dX8_set_2 : decode cX8_set 2 = .ok (.invokevirtual 72, 3) := by decide +kernel
theorem dX8_set_5 : decode cX8_set 5 = .ok (.ifCond .ne 6, 3) := by decide +kernel
theorem dX8_set_8 : decode cX8_set 8 = .ok (.ldc 76, 2) := by decide +kernel
theorem dX8_set_10 : decode cX8_set 10 = .ok (.ireturn, 1) := by decide +kernel
theorem dX8_set_11 : decode cX8_set 11 = .ok (.aload_n 0, 1) := by decide +kernel
theorem dX8_set_12 : decode cX8_set 12 = .ok (.getfield 11, 3) := by decide +kernel
theorem dX8_set_15 : decode cX8_set 15 = .ok (.iload_n 1, 1) := by decide +kernel
theorem dX8_set_16 : decode cX8_set 16 = .ok (.aaload, 1) := by decide +kernel
theorem dX8_set_17 : decode cX8_set 17 = .ok (.astore 4, 2) := by decide +kernel
theorem dX8_set_19 : decode cX8_set 19 = .ok (.aload 4, 2) := by decide +kernel
theorem dX8_set_21 : decode cX8_set 21 = .ok (.getfield 88, 3) := by decide +kernel
theorem dX8_set_24 : decode cX8_set 24 = .ok (.ifCond .eq 9, 3) := by decide +kernel
theorem dX8_set_27 : decode cX8_set 27 = .ok (.aload_n 0, 1) := by decide +kernel
theorem dX8_set_28 : decode cX8_set 28 = .ok (.iconst 1, 1) := by decide +kernel
theorem dX8_set_29 : decode cX8_set 29 = .ok (.invokevirtual 77, 3) := by decide +kernel
theorem dX8_set_32 : decode cX8_set 32 = .ok (.ireturn, 1) := by decide +kernel
theorem dX8_set_33 : decode cX8_set 33 = .ok (.iload_n 2, 1) := by decide +kernel
theorem dX8_set_34 : decode cX8_set 34 = .ok (.ifCond .lt 12, 3) := by decide +kernel
theorem dX8_set_37 : decode cX8_set 37 = .ok (.iload_n 2, 1) := by decide +kernel
theorem dX8_set_38 : decode cX8_set 38 = .ok (.aload 4, 2) := by decide +kernel
theorem dX8_set_40 : decode cX8_set 40 = .ok (.getfield 92, 3) := by decide +kernel
theorem dX8_set_43 : decode cX8_set 43 = .ok (.if_icmp .lt 9, 3) := by decide +kernel
theorem dX8_set_46 : decode cX8_set 46 = .ok (.aload_n 0, 1) := by decide +kernel
theorem dX8_set_47 : decode cX8_set 47 = .ok (.iconst 2, 1) := by decide +kernel
theorem dX8_set_48 : decode cX8_set 48 = .ok (.invokevirtual 77, 3) := by decide +kernel
theorem dX8_set_51 : decode cX8_set 51 = .ok (.ireturn, 1) := by decide +kernel
theorem dX8_set_52 : decode cX8_set 52 = .ok (.aload_n 0, 1) := by decide +kernel
theorem dX8_set_53 : decode cX8_set 53 = .ok (.aload 4, 2) := by decide +kernel
theorem dX8_set_55 : decode cX8_set 55 = .ok (.iload_n 2, 1) := by decide +kernel
theorem dX8_set_56 : decode cX8_set 56 = .ok (.iload_n 3, 1) := by decide +kernel
theorem dX8_set_57 : decode cX8_set 57 = .ok (.invokevirtual 96, 3) := by decide +kernel
theorem dX8_set_60 : decode cX8_set 60 = .ok (.invokevirtual 85, 3) := by decide +kernel
theorem dX8_set_63 : decode cX8_set 63 = .ok (.ireturn, 1) := by decide +kernel
theorem dX8_copy_0 : decode cX8_copy 0 = .ok (.aload_n 0, 1) := by decide +kernel
theorem dX8_copy_1 : decode cX8_copy 1 = .ok (.iload_n 1, 1) := by decide +kernel
theorem dX8_copy_2 : decode cX8_copy 2 = .ok (.invokevirtual 72, 3) := by decide +kernel
theorem dX8_copy_5 : decode cX8_copy 5 = .ok (.ifCond .eq 11, 3) := by decide +kernel
theorem dX8_copy_8 : decode cX8_copy 8 = .ok (.aload_n 0, 1) := by decide +kernel
theorem dX8_copy_9 : decode cX8_copy 9 = .ok (.iload_n 3, 1) := by decide +kernel
theorem dX8_copy_10 : decode cX8_copy 10 = .ok (.invokevirtual 72, 3) := by decide +kernel
theorem dX8_copy_13 : decode cX8_copy 13 = .ok (.ifCond .ne 6, 3) := by decide +kernel
theorem dX8_copy_16 : decode cX8_copy 16 = .ok (.ldc 76, 2) := by decide +kernel
theorem dX8_copy_18 : decode cX8_copy 18 = .ok (.ireturn, 1) := by decide +kernel
theorem dX8_copy_19 : decode cX8_copy 19 = .ok (.aload_n 0, 1) := by decide +kernel
theorem dX8_copy_20 : decode cX8_copy 20 = .ok (.getfield 11, 3) := by decide +kernel
theorem dX8_copy_23 : decode cX8_copy 23 = .ok (.iload_n 1, 1) := by decide +kernel
theorem dX8_copy_24 : decode cX8_copy 24 = .ok (.aaload, 1) := by decide +kernel
theorem dX8_copy_25 : decode cX8_copy 25 = .ok (.astore 6, 2) := by decide +kernel
theorem dX8_copy_27 : decode cX8_copy 27 = .ok (.aload_n 0, 1) := by decide +kernel
theorem dX8_copy_28 : decode cX8_copy 28 = .ok (.getfield 11, 3) := by decide +kernel
theorem dX8_copy_31 : decode cX8_copy 31 = .ok (.iload_n 3, 1) := by decide +kernel
theorem dX8_copy_32 : decode cX8_copy 32 = .ok (.aaload, 1) := by decide +kernel
theorem dX8_copy_33 : decode cX8_copy 33 = .ok (.astore 7, 2) := by decide +kernel
theorem dX8_copy_35 : decode cX8_copy 35 = .ok (.aload 6, 2) := by decide +kernel
theorem dX8_copy_37 : decode cX8_copy 37 = .ok (.getfield 88, 3) := by decide +kernel
theorem dX8_copy_40 : decode cX8_copy 40 = .ok (.ifCond .ne 11, 3) := by decide +kernel
theorem dX8_copy_43 : decode cX8_copy 43 = .ok (.aload 7, 2) := by decide +kernel
theorem dX8_copy_45 : decode cX8_copy 45 = .ok (.getfield 88, 3) := by decide +kernel
theorem dX8_copy_48 : decode cX8_copy 48 = .ok (.ifCond .eq 9, 3) := by decide +kernel
theorem dX8_copy_51 : decode cX8_copy 51 = .ok (.aload_n 0, 1) := by decide +kernel
theorem dX8_copy_52 : decode cX8_copy 52 = .ok (.iconst 1, 1) := by decide +kernel
theorem dX8_copy_53 : decode cX8_copy 53 = .ok (.invokevirtual 77, 3) := by decide +kernel
theorem dX8_copy_56 : decode cX8_copy 56 = .ok (.ireturn, 1) := by decide +kernel
theorem dX8_copy_57 : decode cX8_copy 57 = .ok (.aload 6, 2) := by decide +kernel
theorem dX8_copy_59 : decode cX8_copy 59 = .ok (.getfield 100, 3) := by decide +kernel
theorem dX8_copy_62 : decode cX8_copy 62 = .ok (.aload 7, 2) := by decide +kernel
theorem dX8_copy_64 : decode cX8_copy 64 = .ok (.getfield 100, 3) := by decide +kernel
theorem dX8_copy_67 : decode cX8_copy 67 = .ok (.if_icmp .eq 9, 3) := by decide +kernel
theorem dX8_copy_70 : decode cX8_copy 70 = .ok (.aload_n 0, 1) := by decide +kernel
theorem dX8_copy_71 : decode cX8_copy 71 = .ok (.iconst 5, 1) := by decide +kernel
theorem dX8_copy_72 : decode cX8_copy 72 = .ok (.invokevirtual 77, 3) := by decide +kernel
theorem dX8_copy_75 : decode cX8_copy 75 = .ok (.ireturn, 1) := by decide +kernel
theorem dX8_copy_76 : decode cX8_copy 76 = .ok (.aload 6, 2) := by decide +kernel
theorem dX8_copy_78 : decode cX8_copy 78 = .ok (.iload_n 2, 1) := by decide +kernel
theorem dX8_copy_79 : decode cX8_copy 79 = .ok (.iload 5, 2) := by decide +kernel
theorem dX8_copy_81 : decode cX8_copy 81 = .ok (.invokevirtual 103, 3) := by decide +kernel
theorem dX8_copy_84 : decode cX8_copy 84 = .ok (.ifCond .eq 15, 3) := by decide +kernel
theorem dX8_copy_87 : decode cX8_copy 87 = .ok (.aload 7, 2) := by decide +kernel
theorem dX8_copy_89 : decode cX8_copy 89 = .ok (.iload 4, 2) := by decide +kernel
theorem dX8_copy_91 : decode cX8_copy 91 = .ok (.iload 5, 2) := by decide +kernel
theorem dX8_copy_93 : decode cX8_copy 93 = .ok (.invokevirtual 103, 3) := by decide +kernel
theorem dX8_copy_96 : decode cX8_copy 96 = .ok (.ifCond .ne 9, 3) := by decide +kernel
theorem dX8_copy_99 : decode cX8_copy 99 = .ok (.aload_n 0, 1) := by decide +kernel
theorem dX8_copy_100 : decode cX8_copy 100 = .ok (.iconst 2, 1) := by decide +kernel
theorem dX8_copy_101 : decode cX8_copy 101 = .ok (.invokevirtual 77, 3) := by decide +kernel
theorem dX8_copy_104 : decode cX8_copy 104 = .ok (.ireturn, 1) := by decide +kernel
theorem dX8_copy_105 : decode cX8_copy 105 = .ok (.aload 6, 2) := by decide +kernel
theorem dX8_copy_107 : decode cX8_copy 107 = .ok (.getfield 107, 3) := by decide +kernel
theorem dX8_copy_110 : decode cX8_copy 110 = .ok (.iload_n 2, 1) := by decide +kernel
theorem dX8_copy_111 : decode cX8_copy 111 = .ok (.aload 7, 2) := by decide +kernel
theorem dX8_copy_113 : decode cX8_copy 113 = .ok (.getfield 107, 3) := by decide +kernel
theorem dX8_copy_116 : decode cX8_copy 116 = .ok (.iload 4, 2) := by decide +kernel
theorem dX8_copy_118 : decode cX8_copy 118 = .ok (.iload 5, 2) := by decide +kernel
theorem dX8_copy_120 : decode cX8_copy 120 = .ok (.invokestatic 111, 3) := by decide +kernel
theorem dX8_copy_123 : decode cX8_copy 123 = .ok (.aload_n 0, 1) := by decide +kernel
theorem dX8_copy_124 : decode cX8_copy 124 = .ok (.iload 5, 2) := by decide +kernel
theorem dX8_copy_126 : decode cX8_copy 126 = .ok (.invokevirtual 85, 3) := by decide +kernel
theorem dX8_copy_129 : decode cX8_copy 129 = .ok (.ireturn, 1) := by decide +kernel
theorem dX8_drop_0 : decode cX8_drop 0 = .ok (.aload_n 0, 1) := by decide +kernel
theorem dX8_drop_1 : decode cX8_drop 1 = .ok (.iload_n 1, 1) := by decide +kernel
theorem dX8_drop_2 : decode cX8_drop 2 = .ok (.invokevirtual 72, 3) := by decide +kernel
theorem dX8_drop_5 : decode cX8_drop 5 = .ok (.ifCond .ne 6, 3) := by decide +kernel
theorem dX8_drop_8 : decode cX8_drop 8 = .ok (.ldc 76, 2) := by decide +kernel
theorem dX8_drop_10 : decode cX8_drop 10 = .ok (.ireturn, 1) := by decide +kernel
theorem dX8_drop_11 : decode cX8_drop 11 = .ok (.aload_n 0, 1) := by decide +kernel
theorem dX8_drop_12 : decode cX8_drop 12 = .ok (.getfield 11, 3) := by decide +kernel
theorem dX8_drop_15 : decode cX8_drop 15 = .ok (.iload_n 1, 1) := by decide +kernel
theorem dX8_drop_16 : decode cX8_drop 16 = .ok (.aaload, 1) := by decide +kernel
theorem dX8_drop_17 : decode cX8_drop 17 = .ok (.astore_n 2, 1) := by decide +kernel
theorem dX8_drop_18 : decode cX8_drop 18 = .ok (.aload_n 2, 1) := by decide +kernel
theorem dX8_drop_19 : decode cX8_drop 19 = .ok (.getfield 88, 3) := by decide +kernel
theorem dX8_drop_22 : decode cX8_drop 22 = .ok (.ifCond .eq 9, 3) := by decide +kernel
theorem dX8_drop_25 : decode cX8_drop 25 = .ok (.aload_n 0, 1) := by decide +kernel
theorem dX8_drop_26 : decode cX8_drop 26 = .ok (.iconst 1, 1) := by decide +kernel
theorem dX8_drop_27 : decode cX8_drop 27 = .ok (.invokevirtual 77, 3) := by decide +kernel
theorem dX8_drop_30 : decode cX8_drop 30 = .ok (.ireturn, 1) := by decide +kernel
theorem dX8_drop_31 : decode cX8_drop 31 = .ok (.aload_n 2, 1) := by decide +kernel
theorem dX8_drop_32 : decode cX8_drop 32 = .ok (.iconst 1, 1) := by decide +kernel
theorem dX8_drop_33 : decode cX8_drop 33 = .ok (.putfield 88, 3) := by decide +kernel
theorem dX8_drop_36 : decode cX8_drop 36 = .ok (.aload_n 0, 1) := by decide +kernel
theorem dX8_drop_37 : decode cX8_drop 37 = .ok (.aload_n 2, 1) := by decide +kernel
theorem dX8_drop_38 : decode cX8_drop 38 = .ok (.getfield 92, 3) := by decide +kernel
theorem dX8_drop_41 : decode cX8_drop 41 = .ok (.invokevirtual 85, 3) := by decide +kernel
theorem dX8_drop_44 : decode cX8_drop 44 = .ok (.ireturn, 1) := by decide +kernel
theorem dX8_feed_0 : decode cX8_feed 0 = .ok (.iload_n 3, 1) := by decide +kernel
theorem dX8_feed_1 : decode cX8_feed 1 = .ok (.iconst 1, 1) := by decide +kernel
theorem dX8_feed_2 : decode cX8_feed 2 = .ok (.if_icmp .lt 9, 3) := by decide +kernel
theorem dX8_feed_5 : decode cX8_feed 5 = .ok (.iload_n 3, 1) := by decide +kernel
theorem dX8_feed_6 : decode cX8_feed 6 = .ok (.bipush 8, 2) := by decide +kernel
theorem dX8_feed_8 : decode cX8_feed 8 = .ok (.if_icmp .le 6, 3) := by decide +kernel
theorem dX8_feed_11 : decode cX8_feed 11 = .ok (.ldc 76, 2) := by decide +kernel
theorem dX8_feed_13 : decode cX8_feed 13 = .ok (.ireturn, 1) := by decide +kernel
theorem dX8_feed_14 : decode cX8_feed 14 = .ok (.aload_n 0, 1) := by decide +kernel
theorem dX8_feed_15 : decode cX8_feed 15 = .ok (.getfield 26, 3) := by decide +kernel
theorem dX8_feed_18 : decode cX8_feed 18 = .ok (.iload_n 3, 1) := by decide +kernel
theorem dX8_feed_19 : decode cX8_feed 19 = .ok (.invokevirtual 117, 3) := by decide +kernel
theorem dX8_feed_22 : decode cX8_feed 22 = .ok (.ifCond .ne 6, 3) := by decide +kernel
theorem dX8_feed_25 : decode cX8_feed 25 = .ok (.ldc 120, 2) := by decide +kernel
theorem dX8_feed_27 : decode cX8_feed 27 = .ok (.ireturn, 1) := by decide +kernel
theorem dX8_feed_28 : decode cX8_feed 28 = .ok (.aload_n 0, 1) := by decide +kernel
theorem dX8_feed_29 : decode cX8_feed 29 = .ok (.getfield 26, 3) := by decide +kernel
theorem dX8_feed_32 : decode cX8_feed 32 = .ok (.lload_n 1, 1) := by decide +kernel
theorem dX8_feed_33 : decode cX8_feed 33 = .ok (.iload_n 3, 1) := by decide +kernel
theorem dX8_feed_34 : decode cX8_feed 34 = .ok (.invokevirtual 121, 3) := by decide +kernel
theorem dX8_feed_37 : decode cX8_feed 37 = .ok (.aload_n 0, 1) := by decide +kernel
theorem dX8_feed_38 : decode cX8_feed 38 = .ok (.getfield 26, 3) := by decide +kernel
theorem dX8_feed_41 : decode cX8_feed 41 = .ok (.getfield 125, 3) := by decide +kernel
theorem dX8_feed_44 : decode cX8_feed 44 = .ok (.ireturn, 1) := by decide +kernel
theorem dX8_town_0 : decode cX8_town 0 = .ok (.aload_n 0, 1) := by decide +kernel
theorem dX8_town_1 : decode cX8_town 1 = .ok (.getfield 26, 3) := by decide +kernel
theorem dX8_town_4 : decode cX8_town 4 = .ok (.aload_n 0, 1) := by decide +kernel
theorem dX8_town_5 : decode cX8_town 5 = .ok (.getfield 69, 3) := by decide +kernel
theorem dX8_town_8 : decode cX8_town 8 = .ok (.invokevirtual 128, 3) := by decide +kernel
theorem dX8_town_11 : decode cX8_town 11 = .ok (.istore_n 1, 1) := by decide +kernel
theorem dX8_town_12 : decode cX8_town 12 = .ok (.aload_n 0, 1) := by decide +kernel
theorem dX8_town_13 : decode cX8_town 13 = .ok (.getfield 26, 3) := by decide +kernel
theorem dX8_town_16 : decode cX8_town 16 = .ok (.iconst 0, 1) := by decide +kernel
theorem dX8_town_17 : decode cX8_town 17 = .ok (.putfield 125, 3) := by decide +kernel
theorem dX8_town_20 : decode cX8_town 20 = .ok (.iload_n 1, 1) := by decide +kernel
theorem dX8_town_21 : decode cX8_town 21 = .ok (.ifCond .ne 25, 3) := by decide +kernel
theorem dX8_town_24 : decode cX8_town 24 = .ok (.aload_n 0, 1) := by decide +kernel
theorem dX8_town_25 : decode cX8_town 25 = .ok (.aload_n 0, 1) := by decide +kernel
theorem dX8_town_26 : decode cX8_town 26 = .ok (.getfield 26, 3) := by decide +kernel
theorem dX8_town_29 : decode cX8_town 29 = .ok (.getfield 132, 3) := by decide +kernel
theorem dX8_town_32 : decode cX8_town 32 = .ok (.putfield 135, 3) := by decide +kernel
theorem dX8_town_35 : decode cX8_town 35 = .ok (.ldc 138, 2) := by decide +kernel
theorem dX8_town_37 : decode cX8_town 37 = .ok (.aload_n 0, 1) := by decide +kernel
theorem dX8_town_38 : decode cX8_town 38 = .ok (.getfield 26, 3) := by decide +kernel
theorem dX8_town_41 : decode cX8_town 41 = .ok (.getfield 139, 3) := by decide +kernel
theorem dX8_town_44 : decode cX8_town 44 = .ok (.isub, 1) := by decide +kernel
theorem dX8_town_45 : decode cX8_town 45 = .ok (.ireturn, 1) := by decide +kernel
theorem dX8_town_46 : decode cX8_town 46 = .ok (.aload_n 0, 1) := by decide +kernel
theorem dX8_town_47 : decode cX8_town 47 = .ok (.getfield 65, 3) := by decide +kernel
theorem dX8_town_50 : decode cX8_town 50 = .ok (.astore_n 2, 1) := by decide +kernel
theorem dX8_town_51 : decode cX8_town 51 = .ok (.aload_n 0, 1) := by decide +kernel
theorem dX8_town_52 : decode cX8_town 52 = .ok (.aload_n 0, 1) := by decide +kernel
theorem dX8_town_53 : decode cX8_town 53 = .ok (.getfield 69, 3) := by decide +kernel
theorem dX8_town_56 : decode cX8_town 56 = .ok (.putfield 65, 3) := by decide +kernel
theorem dX8_town_59 : decode cX8_town 59 = .ok (.aload_n 0, 1) := by decide +kernel
theorem dX8_town_60 : decode cX8_town 60 = .ok (.aload_n 2, 1) := by decide +kernel
theorem dX8_town_61 : decode cX8_town 61 = .ok (.putfield 69, 3) := by decide +kernel
theorem dX8_town_64 : decode cX8_town 64 = .ok (.aload_n 0, 1) := by decide +kernel
theorem dX8_town_65 : decode cX8_town 65 = .ok (.getfield 33, 3) := by decide +kernel
theorem dX8_town_68 : decode cX8_town 68 = .ok (.iconst 0, 1) := by decide +kernel
theorem dX8_town_69 : decode cX8_town 69 = .ok (.putfield 142, 3) := by decide +kernel
theorem dX8_town_72 : decode cX8_town 72 = .ok (.aload_n 0, 1) := by decide +kernel
theorem dX8_town_73 : decode cX8_town 73 = .ok (.getfield 65, 3) := by decide +kernel
theorem dX8_town_76 : decode cX8_town 76 = .ok (.getfield 145, 3) := by decide +kernel
theorem dX8_town_79 : decode cX8_town 79 = .ok (.ireturn, 1) := by decide +kernel
theorem dX8_fault_0 : decode cX8_fault 0 = .ok (.aload_n 0, 1) := by decide +kernel
theorem dX8_fault_1 : decode cX8_fault 1 = .ok (.getfield 135, 3) := by decide +kernel
theorem dX8_fault_4 : decode cX8_fault 4 = .ok (.ireturn, 1) := by decide +kernel
theorem dX8_give_0 : decode cX8_give 0 = .ok (.aload_n 0, 1) := by decide +kernel
theorem dX8_give_1 : decode cX8_give 1 = .ok (.iload_n 1, 1) := by decide +kernel
theorem dX8_give_2 : decode cX8_give 2 = .ok (.invokevirtual 148, 3) := by decide +kernel
theorem dX8_give_5 : decode cX8_give 5 = .ok (.ifCond .eq 18, 3) := by decide +kernel
theorem dX8_give_8 : decode cX8_give 8 = .ok (.aload_n 0, 1) := by decide +kernel
theorem dX8_give_9 : decode cX8_give 9 = .ok (.iload_n 2, 1) := by decide +kernel
theorem dX8_give_10 : decode cX8_give 10 = .ok (.invokevirtual 72, 3) := by decide +kernel
theorem dX8_give_13 : decode cX8_give 13 = .ok (.ifCond .eq 10, 3) := by decide +kernel
theorem dX8_give_16 : decode cX8_give 16 = .ok (.iload_n 3, 1) := by decide +kernel
theorem dX8_give_17 : decode cX8_give 17 = .ok (.invokestatic 151, 3) := by decide +kernel
theorem dX8_give_20 : decode cX8_give 20 = .ok (.ifCond .ne 6, 3) := by decide +kernel
theorem dX8_give_23 : decode cX8_give 23 = .ok (.ldc 76, 2) := by decide +kernel
theorem dX8_give_25 : decode cX8_give 25 = .ok (.ireturn, 1) := by decide +kernel
theorem dX8_give_26 : decode cX8_give 26 = .ok (.aload_n 0, 1) := by decide +kernel
theorem dX8_give_27 : decode cX8_give 27 = .ok (.getfield 65, 3) := by decide +kernel
theorem dX8_give_30 : decode cX8_give 30 = .ok (.getfield 154, 3) := by decide +kernel
theorem dX8_give_33 : decode cX8_give 33 = .ok (.iload_n 1, 1) := by decide +kernel
theorem dX8_give_34 : decode cX8_give 34 = .ok (.iaload, 1) := by decide +kernel
theorem dX8_give_35 : decode cX8_give 35 = .ok (.ldc 157, 2) := by decide +kernel
theorem dX8_give_37 : decode cX8_give 37 = .ok (.if_icmp .eq 6, 3) := by decide +kernel
theorem dX8_give_40 : decode cX8_give 40 = .ok (.ldc 158, 2) := by decide +kernel
theorem dX8_give_42 : decode cX8_give 42 = .ok (.ireturn, 1) := by decide +kernel
theorem dX8_give_43 : decode cX8_give 43 = .ok (.aload_n 0, 1) := by decide +kernel
theorem dX8_give_44 : decode cX8_give 44 = .ok (.iload_n 2, 1) := by decide +kernel
theorem dX8_give_45 : decode cX8_give 45 = .ok (.invokevirtual 159, 3) := by decide +kernel
theorem dX8_give_48 : decode cX8_give 48 = .ok (.istore 4, 2) := by decide +kernel
theorem dX8_give_50 : decode cX8_give 50 = .ok (.iload 4, 2) := by decide +kernel
theorem dX8_give_52 : decode cX8_give 52 = .ok (.ifCond .eq 8, 3) := by decide +kernel
theorem dX8_give_55 : decode cX8_give 55 = .ok (.iload 4, 2) := by decide +kernel
theorem dX8_give_57 : decode cX8_give 57 = .ok (.goto 9, 3) := by decide +kernel
theorem dX8_give_60 : decode cX8_give 60 = .ok (.aload_n 0, 1) := by decide +kernel
theorem dX8_give_61 : decode cX8_give 61 = .ok (.iload_n 1, 1) := by decide +kernel
theorem dX8_give_62 : decode cX8_give 62 = .ok (.iload_n 3, 1) := by decide +kernel
theorem dX8_give_63 : decode cX8_give 63 = .ok (.invokevirtual 162, 3) := by decide +kernel
theorem dX8_give_66 : decode cX8_give 66 = .ok (.ireturn, 1) := by decide +kernel
theorem dX8_offer_0 : decode cX8_offer 0 = .ok (.aload_n 0, 1) := by decide +kernel
theorem dX8_offer_1 : decode cX8_offer 1 = .ok (.iload_n 1, 1) := by decide +kernel
theorem dX8_offer_2 : decode cX8_offer 2 = .ok (.invokevirtual 148, 3) := by decide +kernel
theorem dX8_offer_5 : decode cX8_offer 5 = .ok (.ifCond .eq 10, 3) := by decide +kernel
theorem dX8_offer_8 : decode cX8_offer 8 = .ok (.iload_n 2, 1) := by decide +kernel
theorem dX8_offer_9 : decode cX8_offer 9 = .ok (.invokestatic 151, 3) := by decide +kernel
theorem dX8_offer_12 : decode cX8_offer 12 = .ok (.ifCond .ne 6, 3) := by decide +kernel
theorem dX8_offer_15 : decode cX8_offer 15 = .ok (.ldc 76, 2) := by decide +kernel
theorem dX8_offer_17 : decode cX8_offer 17 = .ok (.ireturn, 1) := by decide +kernel
theorem dX8_offer_18 : decode cX8_offer 18 = .ok (.aload_n 0, 1) := by decide +kernel
theorem dX8_offer_19 : decode cX8_offer 19 = .ok (.getfield 65, 3) := by decide +kernel
theorem dX8_offer_22 : decode cX8_offer 22 = .ok (.getfield 154, 3) := by decide +kernel
theorem dX8_offer_25 : decode cX8_offer 25 = .ok (.iload_n 1, 1) := by decide +kernel
theorem dX8_offer_26 : decode cX8_offer 26 = .ok (.iaload, 1) := by decide +kernel
theorem dX8_offer_27 : decode cX8_offer 27 = .ok (.ldc 157, 2) := by decide +kernel
theorem dX8_offer_29 : decode cX8_offer 29 = .ok (.if_icmp .eq 6, 3) := by decide +kernel
theorem dX8_offer_32 : decode cX8_offer 32 = .ok (.ldc 158, 2) := by decide +kernel
theorem dX8_offer_34 : decode cX8_offer 34 = .ok (.ireturn, 1) := by decide +kernel
theorem dX8_offer_35 : decode cX8_offer 35 = .ok (.aload_n 0, 1) := by decide +kernel
theorem dX8_offer_36 : decode cX8_offer 36 = .ok (.getfield 40, 3) := by decide +kernel
theorem dX8_offer_39 : decode cX8_offer 39 = .ok (.aload_n 0, 1) := by decide +kernel
theorem dX8_offer_40 : decode cX8_offer 40 = .ok (.getfield 65, 3) := by decide +kernel
theorem dX8_offer_43 : decode cX8_offer 43 = .ok (.iload_n 1, 1) := by decide +kernel
theorem dX8_offer_44 : decode cX8_offer 44 = .ok (.invokevirtual 165, 3) := by decide +kernel
theorem dX8_offer_47 : decode cX8_offer 47 = .ok (.aload_n 0, 1) := by decide +kernel
theorem dX8_offer_48 : decode cX8_offer 48 = .ok (.iload_n 1, 1) := by decide +kernel
theorem dX8_offer_49 : decode cX8_offer 49 = .ok (.iload_n 2, 1) := by decide +kernel
theorem dX8_offer_50 : decode cX8_offer 50 = .ok (.invokevirtual 162, 3) := by decide +kernel
theorem dX8_offer_53 : decode cX8_offer 53 = .ok (.ireturn, 1) := by decide +kernel
theorem dX8_back_0 : decode cX8_back 0 = .ok (.aload_n 0, 1) := by decide +kernel
theorem dX8_back_1 : decode cX8_back 1 = .ok (.iload_n 1, 1) := by decide +kernel
theorem dX8_back_2 : decode cX8_back 2 = .ok (.invokevirtual 148, 3) := by decide +kernel
theorem dX8_back_5 : decode cX8_back 5 = .ok (.ifCond .ne 6, 3) := by decide +kernel
theorem dX8_back_8 : decode cX8_back 8 = .ok (.ldc 76, 2) := by decide +kernel
theorem dX8_back_10 : decode cX8_back 10 = .ok (.ireturn, 1) := by decide +kernel
theorem dX8_back_11 : decode cX8_back 11 = .ok (.aload_n 0, 1) := by decide +kernel
theorem dX8_back_12 : decode cX8_back 12 = .ok (.getfield 65, 3) := by decide +kernel
theorem dX8_back_15 : decode cX8_back 15 = .ok (.getfield 154, 3) := by decide +kernel
theorem dX8_back_18 : decode cX8_back 18 = .ok (.iload_n 1, 1) := by decide +kernel
theorem dX8_back_19 : decode cX8_back 19 = .ok (.iaload, 1) := by decide +kernel
theorem dX8_back_20 : decode cX8_back 20 = .ok (.istore_n 2, 1) := by decide +kernel
theorem dX8_back_21 : decode cX8_back 21 = .ok (.iload_n 2, 1) := by decide +kernel
theorem dX8_back_22 : decode cX8_back 22 = .ok (.ldc 157, 2) := by decide +kernel
theorem dX8_back_24 : decode cX8_back 24 = .ok (.if_icmp .ne 6, 3) := by decide +kernel
theorem dX8_back_27 : decode cX8_back 27 = .ok (.ldc 158, 2) := by decide +kernel
theorem dX8_back_29 : decode cX8_back 29 = .ok (.ireturn, 1) := by decide +kernel
theorem dX8_back_30 : decode cX8_back 30 = .ok (.aload_n 0, 1) := by decide +kernel
theorem dX8_back_31 : decode cX8_back 31 = .ok (.getfield 33, 3) := by decide +kernel
theorem dX8_back_34 : decode cX8_back 34 = .ok (.aload_n 0, 1) := by decide +kernel
theorem dX8_back_35 : decode cX8_back 35 = .ok (.getfield 65, 3) := by decide +kernel
theorem dX8_back_38 : decode cX8_back 38 = .ok (.iload_n 1, 1) := by decide +kernel
theorem dX8_back_39 : decode cX8_back 39 = .ok (.invokevirtual 169, 3) := by decide +kernel
theorem dX8_back_42 : decode cX8_back 42 = .ok (.aload_n 0, 1) := by decide +kernel
theorem dX8_back_43 : decode cX8_back 43 = .ok (.getfield 65, 3) := by decide +kernel
theorem dX8_back_46 : decode cX8_back 46 = .ok (.getfield 154, 3) := by decide +kernel
theorem dX8_back_49 : decode cX8_back 49 = .ok (.iload_n 1, 1) := by decide +kernel
theorem dX8_back_50 : decode cX8_back 50 = .ok (.ldc 157, 2) := by decide +kernel
theorem dX8_back_52 : decode cX8_back 52 = .ok (.iastore, 1) := by decide +kernel
theorem dX8_back_53 : decode cX8_back 53 = .ok (.aload_n 0, 1) := by decide +kernel
theorem dX8_back_54 : decode cX8_back 54 = .ok (.getfield 65, 3) := by decide +kernel
theorem dX8_back_57 : decode cX8_back 57 = .ok (.getfield 172, 3) := by decide +kernel
theorem dX8_back_60 : decode cX8_back 60 = .ok (.iload_n 1, 1) := by decide +kernel
theorem dX8_back_61 : decode cX8_back 61 = .ok (.dup2, 1) := by decide +kernel
theorem dX8_back_62 : decode cX8_back 62 = .ok (.iaload, 1) := by decide +kernel
theorem dX8_back_63 : decode cX8_back 63 = .ok (.iconst 1, 1) := by decide +kernel
theorem dX8_back_64 : decode cX8_back 64 = .ok (.iadd, 1) := by decide +kernel
theorem dX8_back_65 : decode cX8_back 65 = .ok (.iastore, 1) := by decide +kernel
theorem dX8_back_66 : decode cX8_back 66 = .ok (.iload_n 2, 1) := by decide +kernel
theorem dX8_back_67 : decode cX8_back 67 = .ok (.ireturn, 1) := by decide +kernel
theorem dX8_undo_0 : decode cX8_undo 0 = .ok (.aload_n 0, 1) := by decide +kernel
theorem dX8_undo_1 : decode cX8_undo 1 = .ok (.getfield 33, 3) := by decide +kernel
theorem dX8_undo_4 : decode cX8_undo 4 = .ok (.getfield 142, 3) := by decide +kernel
theorem dX8_undo_7 : decode cX8_undo 7 = .ok (.ifCond .ne 6, 3) := by decide +kernel
theorem dX8_undo_10 : decode cX8_undo 10 = .ok (.ldc 158, 2) := by decide +kernel
theorem dX8_undo_12 : decode cX8_undo 12 = .ok (.ireturn, 1) := by decide +kernel
theorem dX8_undo_13 : decode cX8_undo 13 = .ok (.aload_n 0, 1) := by decide +kernel
theorem dX8_undo_14 : decode cX8_undo 14 = .ok (.getfield 33, 3) := by decide +kernel
theorem dX8_undo_17 : decode cX8_undo 17 = .ok (.aload_n 0, 1) := by decide +kernel
theorem dX8_undo_18 : decode cX8_undo 18 = .ok (.getfield 65, 3) := by decide +kernel
theorem dX8_undo_21 : decode cX8_undo 21 = .ok (.invokevirtual 175, 3) := by decide +kernel
theorem dX8_undo_24 : decode cX8_undo 24 = .ok (.aload_n 0, 1) := by decide +kernel
theorem dX8_undo_25 : decode cX8_undo 25 = .ok (.getfield 33, 3) := by decide +kernel
theorem dX8_undo_28 : decode cX8_undo 28 = .ok (.getfield 142, 3) := by decide +kernel
theorem dX8_undo_31 : decode cX8_undo 31 = .ok (.ireturn, 1) := by decide +kernel
theorem dX8_coin_0 : decode cX8_coin 0 = .ok (.aload_n 0, 1) := by decide +kernel
theorem dX8_coin_1 : decode cX8_coin 1 = .ok (.iload_n 1, 1) := by decide +kernel
theorem dX8_coin_2 : decode cX8_coin 2 = .ok (.invokevirtual 179, 3) := by decide +kernel
theorem dX8_coin_5 : decode cX8_coin 5 = .ok (.ifCond .eq 15, 3) := by decide +kernel
theorem dX8_coin_8 : decode cX8_coin 8 = .ok (.aload_n 0, 1) := by decide +kernel
theorem dX8_coin_9 : decode cX8_coin 9 = .ok (.getfield 65, 3) := by decide +kernel
theorem dX8_coin_12 : decode cX8_coin 12 = .ok (.getfield 182, 3) := by decide +kernel
theorem dX8_coin_15 : decode cX8_coin 15 = .ok (.iload_n 1, 1) := by decide +kernel
theorem dX8_coin_16 : decode cX8_coin 16 = .ok (.iaload, 1) := by decide +kernel
theorem dX8_coin_17 : decode cX8_coin 17 = .ok (.goto 5, 3) := by decide +kernel
theorem dX8_coin_20 : decode cX8_coin 20 = .ok (.ldc 76, 2) := by decide +kernel
theorem dX8_coin_22 : decode cX8_coin 22 = .ok (.ireturn, 1) := by decide +kernel
theorem dX8_thing_0 : decode cX8_thing 0 = .ok (.aload_n 0, 1) := by decide +kernel
theorem dX8_thing_1 : decode cX8_thing 1 = .ok (.iload_n 1, 1) := by decide +kernel
theorem dX8_thing_2 : decode cX8_thing 2 = .ok (.invokevirtual 148, 3) := by decide +kernel
theorem dX8_thing_5 : decode cX8_thing 5 = .ok (.ifCond .eq 10, 3) := by decide +kernel
theorem dX8_thing_8 : decode cX8_thing 8 = .ok (.iload_n 2, 1) := by decide +kernel
theorem dX8_thing_9 : decode cX8_thing 9 = .ok (.invokestatic 185, 3) := by decide +kernel
theorem dX8_thing_12 : decode cX8_thing 12 = .ok (.ifCond .ne 6, 3) := by decide +kernel
theorem dX8_thing_15 : decode cX8_thing 15 = .ok (.ldc 76, 2) := by decide +kernel
theorem dX8_thing_17 : decode cX8_thing 17 = .ok (.ireturn, 1) := by decide +kernel
theorem dX8_thing_18 : decode cX8_thing 18 = .ok (.iload_n 2, 1) := by decide +kernel
theorem dX8_thing_19 : decode cX8_thing 19 = .ok (.ifCond .ne 15, 3) := by decide +kernel
theorem dX8_thing_22 : decode cX8_thing 22 = .ok (.aload_n 0, 1) := by decide +kernel
theorem dX8_thing_23 : decode cX8_thing 23 = .ok (.getfield 65, 3) := by decide +kernel
theorem dX8_thing_26 : decode cX8_thing 26 = .ok (.getfield 154, 3) := by decide +kernel
theorem dX8_thing_29 : decode cX8_thing 29 = .ok (.iload_n 1, 1) := by decide +kernel
theorem dX8_thing_30 : decode cX8_thing 30 = .ok (.iaload, 1) := by decide +kernel
theorem dX8_thing_31 : decode cX8_thing 31 = .ok (.goto 12, 3) := by decide +kernel
theorem dX8_thing_34 : decode cX8_thing 34 = .ok (.aload_n 0, 1) := by decide +kernel
theorem dX8_thing_35 : decode cX8_thing 35 = .ok (.getfield 65, 3) := by decide +kernel
theorem dX8_thing_38 : decode cX8_thing 38 = .ok (.getfield 172, 3) := by decide +kernel
theorem dX8_thing_41 : decode cX8_thing 41 = .ok (.iload_n 1, 1) := by decide +kernel
theorem dX8_thing_42 : decode cX8_thing 42 = .ok (.iaload, 1) := by decide +kernel
theorem dX8_thing_43 : decode cX8_thing 43 = .ok (.ireturn, 1) := by decide +kernel
theorem dX8_worth_0 : decode cX8_worth 0 = .ok (.aload_n 0, 1) := by decide +kernel
theorem dX8_worth_1 : decode cX8_worth 1 = .ok (.iload_n 1, 1) := by decide +kernel
theorem dX8_worth_2 : decode cX8_worth 2 = .ok (.invokevirtual 148, 3) := by decide +kernel
theorem dX8_worth_5 : decode cX8_worth 5 = .ok (.ifCond .eq 18, 3) := by decide +kernel
theorem dX8_worth_8 : decode cX8_worth 8 = .ok (.aload_n 0, 1) := by decide +kernel
theorem dX8_worth_9 : decode cX8_worth 9 = .ok (.iload_n 2, 1) := by decide +kernel
theorem dX8_worth_10 : decode cX8_worth 10 = .ok (.invokevirtual 179, 3) := by decide +kernel
theorem dX8_worth_13 : decode cX8_worth 13 = .ok (.ifCond .eq 10, 3) := by decide +kernel
theorem dX8_worth_16 : decode cX8_worth 16 = .ok (.iload_n 3, 1) := by decide +kernel
theorem dX8_worth_17 : decode cX8_worth 17 = .ok (.invokestatic 185, 3) := by decide +kernel
theorem dX8_worth_20 : decode cX8_worth 20 = .ok (.ifCond .ne 6, 3) := by decide +kernel
theorem dX8_worth_23 : decode cX8_worth 23 = .ok (.ldc 76, 2) := by decide +kernel
theorem dX8_worth_25 : decode cX8_worth 25 = .ok (.ireturn, 1) := by decide +kernel
theorem dX8_worth_26 : decode cX8_worth 26 = .ok (.iload_n 3, 1) := by decide +kernel
theorem dX8_worth_27 : decode cX8_worth 27 = .ok (.ifCond .ne 15, 3) := by decide +kernel
theorem dX8_worth_30 : decode cX8_worth 30 = .ok (.aload_n 0, 1) := by decide +kernel
theorem dX8_worth_31 : decode cX8_worth 31 = .ok (.getfield 65, 3) := by decide +kernel
theorem dX8_worth_34 : decode cX8_worth 34 = .ok (.iload_n 1, 1) := by decide +kernel
theorem dX8_worth_35 : decode cX8_worth 35 = .ok (.iload_n 2, 1) := by decide +kernel
theorem dX8_worth_36 : decode cX8_worth 36 = .ok (.invokevirtual 188, 3) := by decide +kernel
theorem dX8_worth_39 : decode cX8_worth 39 = .ok (.goto 12, 3) := by decide +kernel
theorem dX8_worth_42 : decode cX8_worth 42 = .ok (.aload_n 0, 1) := by decide +kernel
theorem dX8_worth_43 : decode cX8_worth 43 = .ok (.getfield 65, 3) := by decide +kernel
theorem dX8_worth_46 : decode cX8_worth 46 = .ok (.iload_n 1, 1) := by decide +kernel
theorem dX8_worth_47 : decode cX8_worth 47 = .ok (.iload_n 2, 1) := by decide +kernel
theorem dX8_worth_48 : decode cX8_worth 48 = .ok (.invokevirtual 191, 3) := by decide +kernel
theorem dX8_worth_51 : decode cX8_worth 51 = .ok (.ireturn, 1) := by decide +kernel
theorem dX8_gain_0 : decode cX8_gain 0 = .ok (.aload_n 0, 1) := by decide +kernel
theorem dX8_gain_1 : decode cX8_gain 1 = .ok (.iload_n 1, 1) := by decide +kernel
theorem dX8_gain_2 : decode cX8_gain 2 = .ok (.invokevirtual 148, 3) := by decide +kernel
theorem dX8_gain_5 : decode cX8_gain 5 = .ok (.ifCond .eq 27, 3) := by decide +kernel
theorem dX8_gain_8 : decode cX8_gain 8 = .ok (.aload_n 0, 1) := by decide +kernel
theorem dX8_gain_9 : decode cX8_gain 9 = .ok (.iload_n 2, 1) := by decide +kernel
theorem dX8_gain_10 : decode cX8_gain 10 = .ok (.invokevirtual 72, 3) := by decide +kernel
theorem dX8_gain_13 : decode cX8_gain 13 = .ok (.ifCond .eq 19, 3) := by decide +kernel
theorem dX8_gain_16 : decode cX8_gain 16 = .ok (.aload_n 0, 1) := by decide +kernel
theorem dX8_gain_17 : decode cX8_gain 17 = .ok (.iload_n 3, 1) := by decide +kernel
theorem dX8_gain_18 : decode cX8_gain 18 = .ok (.invokevirtual 179, 3) := by decide +kernel
theorem dX8_gain_21 : decode cX8_gain 21 = .ok (.ifCond .eq 11, 3) := by decide +kernel
theorem dX8_gain_24 : decode cX8_gain 24 = .ok (.iload 4, 2) := by decide +kernel
theorem dX8_gain_26 : decode cX8_gain 26 = .ok (.invokestatic 185, 3) := by decide +kernel
theorem dX8_gain_29 : decode cX8_gain 29 = .ok (.ifCond .ne 6, 3) := by decide +kernel
theorem dX8_gain_32 : decode cX8_gain 32 = .ok (.ldc 76, 2) := by decide +kernel
theorem dX8_gain_34 : decode cX8_gain 34 = .ok (.ireturn, 1) := by decide +kernel
theorem dX8_gain_35 : decode cX8_gain 35 = .ok (.aload_n 0, 1) := by decide +kernel
theorem dX8_gain_36 : decode cX8_gain 36 = .ok (.iload_n 2, 1) := by decide +kernel
theorem dX8_gain_37 : decode cX8_gain 37 = .ok (.invokevirtual 159, 3) := by decide +kernel
theorem dX8_gain_40 : decode cX8_gain 40 = .ok (.istore 5, 2) := by decide +kernel
theorem dX8_gain_42 : decode cX8_gain 42 = .ok (.iload 5, 2) := by decide +kernel
theorem dX8_gain_44 : decode cX8_gain 44 = .ok (.ifCond .eq 6, 3) := by decide +kernel
theorem dX8_gain_47 : decode cX8_gain 47 = .ok (.iload 5, 2) := by decide +kernel
theorem dX8_gain_49 : decode cX8_gain 49 = .ok (.ireturn, 1) := by decide +kernel
theorem dX8_gain_50 : decode cX8_gain 50 = .ok (.aload_n 0, 1) := by decide +kernel
theorem dX8_gain_51 : decode cX8_gain 51 = .ok (.getfield 47, 3) := by decide +kernel
theorem dX8_gain_54 : decode cX8_gain 54 = .ok (.aload_n 0, 1) := by decide +kernel
theorem dX8_gain_55 : decode cX8_gain 55 = .ok (.getfield 65, 3) := by decide +kernel
theorem dX8_gain_58 : decode cX8_gain 58 = .ok (.iload_n 1, 1) := by decide +kernel
theorem dX8_gain_59 : decode cX8_gain 59 = .ok (.aload_n 0, 1) := by decide +kernel
theorem dX8_gain_60 : decode cX8_gain 60 = .ok (.getfield 40, 3) := by decide +kernel
theorem dX8_gain_63 : decode cX8_gain 63 = .ok (.iload_n 3, 1) := by decide +kernel
theorem dX8_gain_64 : decode cX8_gain 64 = .ok (.aload_n 0, 1) := by decide +kernel
theorem dX8_gain_65 : decode cX8_gain 65 = .ok (.getfield 65, 3) := by decide +kernel
theorem dX8_gain_68 : decode cX8_gain 68 = .ok (.getfield 194, 3) := by decide +kernel
theorem dX8_gain_71 : decode cX8_gain 71 = .ok (.invokevirtual 197, 3) := by decide +kernel
theorem dX8_gain_74 : decode cX8_gain 74 = .ok (.aload_n 0, 1) := by decide +kernel
theorem dX8_gain_75 : decode cX8_gain 75 = .ok (.getfield 47, 3) := by decide +kernel
theorem dX8_gain_78 : decode cX8_gain 78 = .ok (.aload_n 0, 1) := by decide +kernel
theorem dX8_gain_79 : decode cX8_gain 79 = .ok (.getfield 40, 3) := by decide +kernel
theorem dX8_gain_82 : decode cX8_gain 82 = .ok (.getfield 201, 3) := by decide +kernel
theorem dX8_gain_85 : decode cX8_gain 85 = .ok (.iload_n 3, 1) := by decide +kernel
theorem dX8_gain_86 : decode cX8_gain 86 = .ok (.iaload, 1) := by decide +kernel
theorem dX8_gain_87 : decode cX8_gain 87 = .ok (.invokevirtual 204, 3) := by decide +kernel
theorem dX8_gain_90 : decode cX8_gain 90 = .ok (.aload_n 0, 1) := by decide +kernel
theorem dX8_gain_91 : decode cX8_gain 91 = .ok (.getfield 47, 3) := by decide +kernel
theorem dX8_gain_94 : decode cX8_gain 94 = .ok (.getfield 207, 3) := by decide +kernel
theorem dX8_gain_97 : decode cX8_gain 97 = .ok (.iload 4, 2) := by decide +kernel
theorem dX8_gain_99 : decode cX8_gain 99 = .ok (.invokestatic 210, 3) := by decide +kernel
theorem dX8_gain_102 : decode cX8_gain 102 = .ok (.ireturn, 1) := by decide +kernel
theorem dX8_best_0 : decode cX8_best 0 = .ok (.aload_n 0, 1) := by decide +kernel
theorem dX8_best_1 : decode cX8_best 1 = .ok (.iload_n 1, 1) := by decide +kernel
theorem dX8_best_2 : decode cX8_best 2 = .ok (.invokevirtual 148, 3) := by decide +kernel
theorem dX8_best_5 : decode cX8_best 5 = .ok (.ifCond .eq 19, 3) := by decide +kernel
theorem dX8_best_8 : decode cX8_best 8 = .ok (.aload_n 0, 1) := by decide +kernel
theorem dX8_best_9 : decode cX8_best 9 = .ok (.iload_n 2, 1) := by decide +kernel
theorem dX8_best_10 : decode cX8_best 10 = .ok (.invokevirtual 72, 3) := by decide +kernel
theorem dX8_best_13 : decode cX8_best 13 = .ok (.ifCond .eq 11, 3) := by decide +kernel
theorem dX8_best_16 : decode cX8_best 16 = .ok (.aload_n 0, 1) := by decide +kernel
theorem dX8_best_17 : decode cX8_best 17 = .ok (.iload_n 3, 1) := by decide +kernel
theorem dX8_best_18 : decode cX8_best 18 = .ok (.invokevirtual 179, 3) := by decide +kernel
theorem dX8_best_21 : decode cX8_best 21 = .ok (.ifCond .ne 6, 3) := by decide +kernel
theorem dX8_best_24 : decode cX8_best 24 = .ok (.ldc 76, 2) := by decide +kernel
theorem dX8_best_26 : decode cX8_best 26 = .ok (.ireturn, 1) := by decide +kernel
theorem dX8_best_27 : decode cX8_best 27 = .ok (.aload_n 0, 1) := by decide +kernel
theorem dX8_best_28 : decode cX8_best 28 = .ok (.iload_n 2, 1) := by decide +kernel
theorem dX8_best_29 : decode cX8_best 29 = .ok (.invokevirtual 159, 3) := by decide +kernel
theorem dX8_best_32 : decode cX8_best 32 = .ok (.istore 4, 2) := by decide +kernel
theorem dX8_best_34 : decode cX8_best 34 = .ok (.iload 4, 2) := by decide +kernel
theorem dX8_best_36 : decode cX8_best 36 = .ok (.ifCond .eq 6, 3) := by decide +kernel
theorem dX8_best_39 : decode cX8_best 39 = .ok (.iload 4, 2) := by decide +kernel
theorem dX8_best_41 : decode cX8_best 41 = .ok (.ireturn, 1) := by decide +kernel
theorem dX8_best_42 : decode cX8_best 42 = .ok (.aload_n 0, 1) := by decide +kernel
theorem dX8_best_43 : decode cX8_best 43 = .ok (.getfield 47, 3) := by decide +kernel
theorem dX8_best_46 : decode cX8_best 46 = .ok (.aload_n 0, 1) := by decide +kernel
theorem dX8_best_47 : decode cX8_best 47 = .ok (.getfield 65, 3) := by decide +kernel
theorem dX8_best_50 : decode cX8_best 50 = .ok (.iload_n 1, 1) := by decide +kernel
theorem dX8_best_51 : decode cX8_best 51 = .ok (.aload_n 0, 1) := by decide +kernel
theorem dX8_best_52 : decode cX8_best 52 = .ok (.getfield 40, 3) := by decide +kernel
theorem dX8_best_55 : decode cX8_best 55 = .ok (.iload_n 3, 1) := by decide +kernel
theorem dX8_best_56 : decode cX8_best 56 = .ok (.aload_n 0, 1) := by decide +kernel
theorem dX8_best_57 : decode cX8_best 57 = .ok (.getfield 65, 3) := by decide +kernel
theorem dX8_best_60 : decode cX8_best 60 = .ok (.getfield 194, 3) := by decide +kernel
theorem dX8_best_63 : decode cX8_best 63 = .ok (.invokevirtual 197, 3) := by decide +kernel
theorem dX8_best_66 : decode cX8_best 66 = .ok (.aload_n 0, 1) := by decide +kernel
theorem dX8_best_67 : decode cX8_best 67 = .ok (.getfield 47, 3) := by decide +kernel
theorem dX8_best_70 : decode cX8_best 70 = .ok (.invokevirtual 214, 3) := by decide +kernel
theorem dX8_best_73 : decode cX8_best 73 = .ok (.ireturn, 1) := by decide +kernel
theorem dX8_rests_0 : decode cX8_rests 0 = .ok (.aload_n 0, 1) := by decide +kernel
theorem dX8_rests_1 : decode cX8_rests 1 = .ok (.iload_n 1, 1) := by decide +kernel
theorem dX8_rests_2 : decode cX8_rests 2 = .ok (.invokevirtual 148, 3) := by decide +kernel
theorem dX8_rests_5 : decode cX8_rests 5 = .ok (.ifCond .eq 16, 3) := by decide +kernel
theorem dX8_rests_8 : decode cX8_rests 8 = .ok (.iload_n 2, 1) := by decide +kernel
theorem dX8_rests_9 : decode cX8_rests 9 = .ok (.iconst (-1), 1) := by decide +kernel
theorem dX8_rests_10 : decode cX8_rests 10 = .ok (.if_icmp .eq 14, 3) := by decide +kernel
theorem dX8_rests_13 : decode cX8_rests 13 = .ok (.aload_n 0, 1) := by decide +kernel
theorem dX8_rests_14 : decode cX8_rests 14 = .ok (.iload_n 2, 1) := by decide +kernel
theorem dX8_rests_15 : decode cX8_rests 15 = .ok (.invokevirtual 179, 3) := by decide +kernel
theorem dX8_rests_18 : decode cX8_rests 18 = .ok (.ifCond .ne 6, 3) := by decide +kernel
theorem dX8_rests_21 : decode cX8_rests 21 = .ok (.ldc 76, 2) := by decide +kernel
theorem dX8_rests_23 : decode cX8_rests 23 = .ok (.ireturn, 1) := by decide +kernel
theorem dX8_rests_24 : decode cX8_rests 24 = .ok (.aload_n 0, 1) := by decide +kernel
theorem dX8_rests_25 : decode cX8_rests 25 = .ok (.getfield 54, 3) := by decide +kernel
theorem dX8_rests_28 : decode cX8_rests 28 = .ok (.aload_n 0, 1) := by decide +kernel
theorem dX8_rests_29 : decode cX8_rests 29 = .ok (.getfield 65, 3) := by decide +kernel
theorem dX8_rests_32 : decode cX8_rests 32 = .ok (.iload_n 1, 1) := by decide +kernel
theorem dX8_rests_33 : decode cX8_rests 33 = .ok (.invokevirtual 218, 3) := by decide +kernel
theorem dX8_rests_36 : decode cX8_rests 36 = .ok (.iload_n 2, 1) := by decide +kernel
theorem dX8_rests_37 : decode cX8_rests 37 = .ok (.iconst (-1), 1) := by decide +kernel
theorem dX8_rests_38 : decode cX8_rests 38 = .ok (.if_icmp .ne 11, 3) := by decide +kernel
theorem dX8_rests_41 : decode cX8_rests 41 = .ok (.aload_n 0, 1) := by decide +kernel
theorem dX8_rests_42 : decode cX8_rests 42 = .ok (.getfield 54, 3) := by decide +kernel
theorem dX8_rests_45 : decode cX8_rests 45 = .ok (.getfield 221, 3) := by decide +kernel
theorem dX8_rests_48 : decode cX8_rests 48 = .ok (.ireturn, 1) := by decide +kernel
theorem dX8_rests_49 : decode cX8_rests 49 = .ok (.aload_n 0, 1) := by decide +kernel
theorem dX8_rests_50 : decode cX8_rests 50 = .ok (.getfield 54, 3) := by decide +kernel
theorem dX8_rests_53 : decode cX8_rests 53 = .ok (.getfield 221, 3) := by decide +kernel
theorem dX8_rests_56 : decode cX8_rests 56 = .ok (.ifCond .ne 8, 3) := by decide +kernel
theorem dX8_rests_59 : decode cX8_rests 59 = .ok (.ldc 157, 2) := by decide +kernel
theorem dX8_rests_61 : decode cX8_rests 61 = .ok (.goto 12, 3) := by decide +kernel
theorem dX8_rests_64 : decode cX8_rests 64 = .ok (.aload_n 0, 1) := by decide +kernel
theorem dX8_rests_65 : decode cX8_rests 65 = .ok (.getfield 54, 3) := by decide +kernel
theorem dX8_rests_68 : decode cX8_rests 68 = .ok (.getfield 224, 3) := by decide +kernel
theorem dX8_rests_71 : decode cX8_rests 71 = .ok (.iload_n 2, 1) := by decide +kernel
theorem dX8_rests_72 : decode cX8_rests 72 = .ok (.iaload, 1) := by decide +kernel
theorem dX8_rests_73 : decode cX8_rests 73 = .ok (.ireturn, 1) := by decide +kernel
theorem dX8_rounds_0 : decode cX8_rounds 0 = .ok (.aload_n 0, 1) := by decide +kernel
theorem dX8_rounds_1 : decode cX8_rounds 1 = .ok (.iload_n 1, 1) := by decide +kernel
theorem dX8_rounds_2 : decode cX8_rounds 2 = .ok (.invokevirtual 148, 3) := by decide +kernel
theorem dX8_rounds_5 : decode cX8_rounds 5 = .ok (.ifCond .eq 24, 3) := by decide +kernel
theorem dX8_rounds_8 : decode cX8_rounds 8 = .ok (.aload_n 0, 1) := by decide +kernel
theorem dX8_rounds_9 : decode cX8_rounds 9 = .ok (.iload_n 2, 1) := by decide +kernel
theorem dX8_rounds_10 : decode cX8_rounds 10 = .ok (.invokevirtual 72, 3) := by decide +kernel
theorem dX8_rounds_13 : decode cX8_rounds 13 = .ok (.ifCond .eq 16, 3) := by decide +kernel
theorem dX8_rounds_16 : decode cX8_rounds 16 = .ok (.iload_n 3, 1) := by decide +kernel
theorem dX8_rounds_17 : decode cX8_rounds 17 = .ok (.iconst (-1), 1) := by decide +kernel
theorem dX8_rounds_18 : decode cX8_rounds 18 = .ok (.if_icmp .eq 14, 3) := by decide +kernel
theorem dX8_rounds_21 : decode cX8_rounds 21 = .ok (.aload_n 0, 1) := by decide +kernel
theorem dX8_rounds_22 : decode cX8_rounds 22 = .ok (.iload_n 3, 1) := by decide +kernel
theorem dX8_rounds_23 : decode cX8_rounds 23 = .ok (.invokevirtual 179, 3) := by decide +kernel
theorem dX8_rounds_26 : decode cX8_rounds 26 = .ok (.ifCond .ne 6, 3) := by decide +kernel
theorem dX8_rounds_29 : decode cX8_rounds 29 = .ok (.ldc 76, 2) := by decide +kernel
theorem dX8_rounds_31 : decode cX8_rounds 31 = .ok (.ireturn, 1) := by decide +kernel
theorem dX8_rounds_32 : decode cX8_rounds 32 = .ok (.aload_n 0, 1) := by decide +kernel
theorem dX8_rounds_33 : decode cX8_rounds 33 = .ok (.iload_n 2, 1) := by decide +kernel
theorem dX8_rounds_34 : decode cX8_rounds 34 = .ok (.invokevirtual 159, 3) := by decide +kernel
theorem dX8_rounds_37 : decode cX8_rounds 37 = .ok (.istore 4, 2) := by decide +kernel
theorem dX8_rounds_39 : decode cX8_rounds 39 = .ok (.iload 4, 2) := by decide +kernel
theorem dX8_rounds_41 : decode cX8_rounds 41 = .ok (.ifCond .eq 6, 3) := by decide +kernel
theorem dX8_rounds_44 : decode cX8_rounds 44 = .ok (.iload 4, 2) := by decide +kernel
theorem dX8_rounds_46 : decode cX8_rounds 46 = .ok (.ireturn, 1) := by decide +kernel
theorem dX8_rounds_47 : decode cX8_rounds 47 = .ok (.aload_n 0, 1) := by decide +kernel
theorem dX8_rounds_48 : decode cX8_rounds 48 = .ok (.getfield 54, 3) := by decide +kernel
theorem dX8_rounds_51 : decode cX8_rounds 51 = .ok (.aload_n 0, 1) := by decide +kernel
theorem dX8_rounds_52 : decode cX8_rounds 52 = .ok (.getfield 65, 3) := by decide +kernel
theorem dX8_rounds_55 : decode cX8_rounds 55 = .ok (.iload_n 1, 1) := by decide +kernel
theorem dX8_rounds_56 : decode cX8_rounds 56 = .ok (.aload_n 0, 1) := by decide +kernel
theorem dX8_rounds_57 : decode cX8_rounds 57 = .ok (.getfield 40, 3) := by decide +kernel
theorem dX8_rounds_60 : decode cX8_rounds 60 = .ok (.invokevirtual 227, 3) := by decide +kernel
theorem dX8_rounds_63 : decode cX8_rounds 63 = .ok (.istore 5, 2) := by decide +kernel
theorem dX8_rounds_65 : decode cX8_rounds 65 = .ok (.iload_n 3, 1) := by decide +kernel
theorem dX8_rounds_66 : decode cX8_rounds 66 = .ok (.iconst (-1), 1) := by decide +kernel
theorem dX8_rounds_67 : decode cX8_rounds 67 = .ok (.if_icmp .ne 8, 3) := by decide +kernel
theorem dX8_rounds_70 : decode cX8_rounds 70 = .ok (.iload 5, 2) := by decide +kernel
theorem dX8_rounds_72 : decode cX8_rounds 72 = .ok (.goto 12, 3) := by decide +kernel
theorem dX8_rounds_75 : decode cX8_rounds 75 = .ok (.aload_n 0, 1) := by decide +kernel
theorem dX8_rounds_76 : decode cX8_rounds 76 = .ok (.getfield 40, 3) := by decide +kernel
theorem dX8_rounds_79 : decode cX8_rounds 79 = .ok (.getfield 201, 3) := by decide +kernel
theorem dX8_rounds_82 : decode cX8_rounds 82 = .ok (.iload_n 3, 1) := by decide +kernel
theorem dX8_rounds_83 : decode cX8_rounds 83 = .ok (.iaload, 1) := by decide +kernel
theorem dX8_rounds_84 : decode cX8_rounds 84 = .ok (.ireturn, 1) := by decide +kernel
theorem dX8_least_0 : decode cX8_least 0 = .ok (.aload_n 0, 1) := by decide +kernel
theorem dX8_least_1 : decode cX8_least 1 = .ok (.iload_n 1, 1) := by decide +kernel
theorem dX8_least_2 : decode cX8_least 2 = .ok (.invokevirtual 148, 3) := by decide +kernel
theorem dX8_least_5 : decode cX8_least 5 = .ok (.ifCond .eq 10, 3) := by decide +kernel
theorem dX8_least_8 : decode cX8_least 8 = .ok (.iload_n 2, 1) := by decide +kernel
theorem dX8_least_9 : decode cX8_least 9 = .ok (.invokestatic 185, 3) := by decide +kernel
theorem dX8_least_12 : decode cX8_least 12 = .ok (.ifCond .ne 6, 3) := by decide +kernel
theorem dX8_least_15 : decode cX8_least 15 = .ok (.ldc 76, 2) := by decide +kernel
theorem dX8_least_17 : decode cX8_least 17 = .ok (.ireturn, 1) := by decide +kernel
theorem dX8_least_18 : decode cX8_least 18 = .ok (.iload_n 2, 1) := by decide +kernel
theorem dX8_least_19 : decode cX8_least 19 = .ok (.ifCond .ne 14, 3) := by decide +kernel
theorem dX8_least_22 : decode cX8_least 22 = .ok (.aload_n 0, 1) := by decide +kernel
theorem dX8_least_23 : decode cX8_least 23 = .ok (.getfield 65, 3) := by decide +kernel
theorem dX8_least_26 : decode cX8_least 26 = .ok (.iload_n 1, 1) := by decide +kernel
theorem dX8_least_27 : decode cX8_least 27 = .ok (.invokevirtual 231, 3) := by decide +kernel
theorem dX8_least_30 : decode cX8_least 30 = .ok (.goto 11, 3) := by decide +kernel
theorem dX8_least_33 : decode cX8_least 33 = .ok (.aload_n 0, 1) := by decide +kernel
theorem dX8_least_34 : decode cX8_least 34 = .ok (.getfield 65, 3) := by decide +kernel
theorem dX8_least_37 : decode cX8_least 37 = .ok (.iload_n 1, 1) := by decide +kernel
theorem dX8_least_38 : decode cX8_least 38 = .ok (.invokevirtual 234, 3) := by decide +kernel
theorem dX8_least_41 : decode cX8_least 41 = .ok (.ireturn, 1) := by decide +kernel
theorem dX8_lost_0 : decode cX8_lost 0 = .ok (.aload_n 0, 1) := by decide +kernel
theorem dX8_lost_1 : decode cX8_lost 1 = .ok (.iload_n 1, 1) := by decide +kernel
theorem dX8_lost_2 : decode cX8_lost 2 = .ok (.invokevirtual 148, 3) := by decide +kernel
theorem dX8_lost_5 : decode cX8_lost 5 = .ok (.ifCond .eq 18, 3) := by decide +kernel
theorem dX8_lost_8 : decode cX8_lost 8 = .ok (.aload_n 0, 1) := by decide +kernel
theorem dX8_lost_9 : decode cX8_lost 9 = .ok (.iload_n 2, 1) := by decide +kernel
theorem dX8_lost_10 : decode cX8_lost 10 = .ok (.invokevirtual 72, 3) := by decide +kernel
theorem dX8_lost_13 : decode cX8_lost 13 = .ok (.ifCond .eq 10, 3) := by decide +kernel
theorem dX8_lost_16 : decode cX8_lost 16 = .ok (.iload_n 3, 1) := by decide +kernel
theorem dX8_lost_17 : decode cX8_lost 17 = .ok (.invokestatic 185, 3) := by decide +kernel
theorem dX8_lost_20 : decode cX8_lost 20 = .ok (.ifCond .ne 6, 3) := by decide +kernel
theorem dX8_lost_23 : decode cX8_lost 23 = .ok (.ldc 76, 2) := by decide +kernel
theorem dX8_lost_25 : decode cX8_lost 25 = .ok (.ireturn, 1) := by decide +kernel
theorem dX8_lost_26 : decode cX8_lost 26 = .ok (.aload_n 0, 1) := by decide +kernel
theorem dX8_lost_27 : decode cX8_lost 27 = .ok (.iload_n 2, 1) := by decide +kernel
theorem dX8_lost_28 : decode cX8_lost 28 = .ok (.invokevirtual 159, 3) := by decide +kernel
theorem dX8_lost_31 : decode cX8_lost 31 = .ok (.istore 4, 2) := by decide +kernel
theorem dX8_lost_33 : decode cX8_lost 33 = .ok (.iload 4, 2) := by decide +kernel
theorem dX8_lost_35 : decode cX8_lost 35 = .ok (.ifCond .eq 6, 3) := by decide +kernel
theorem dX8_lost_38 : decode cX8_lost 38 = .ok (.iload 4, 2) := by decide +kernel
theorem dX8_lost_40 : decode cX8_lost 40 = .ok (.ireturn, 1) := by decide +kernel
theorem dX8_lost_41 : decode cX8_lost 41 = .ok (.aload_n 0, 1) := by decide +kernel
theorem dX8_lost_42 : decode cX8_lost 42 = .ok (.getfield 40, 3) := by decide +kernel
theorem dX8_lost_45 : decode cX8_lost 45 = .ok (.ldc 157, 2) := by decide +kernel
theorem dX8_lost_47 : decode cX8_lost 47 = .ok (.invokevirtual 237, 3) := by decide +kernel
theorem dX8_lost_50 : decode cX8_lost 50 = .ok (.istore 5, 2) := by decide +kernel
theorem dX8_lost_52 : decode cX8_lost 52 = .ok (.aload_n 0, 1) := by decide +kernel
theorem dX8_lost_53 : decode cX8_lost 53 = .ok (.getfield 65, 3) := by decide +kernel
theorem dX8_lost_56 : decode cX8_lost 56 = .ok (.iload_n 1, 1) := by decide +kernel
theorem dX8_lost_57 : decode cX8_lost 57 = .ok (.aload_n 0, 1) := by decide +kernel
theorem dX8_lost_58 : decode cX8_lost 58 = .ok (.getfield 65, 3) := by decide +kernel
theorem dX8_lost_61 : decode cX8_lost 61 = .ok (.iload_n 1, 1) := by decide +kernel
theorem dX8_lost_62 : decode cX8_lost 62 = .ok (.invokevirtual 234, 3) := by decide +kernel
theorem dX8_lost_65 : decode cX8_lost 65 = .ok (.invokevirtual 188, 3) := by decide +kernel
theorem dX8_lost_68 : decode cX8_lost 68 = .ok (.istore 6, 2) := by decide +kernel
theorem dX8_lost_70 : decode cX8_lost 70 = .ok (.iconst 0, 1) := by decide +kernel
theorem dX8_lost_71 : decode cX8_lost 71 = .ok (.istore 7, 2) := by decide +kernel
theorem dX8_lost_73 : decode cX8_lost 73 = .ok (.iconst 0, 1) := by decide +kernel
theorem dX8_lost_74 : decode cX8_lost 74 = .ok (.istore 8, 2) := by decide +kernel
theorem dX8_lost_76 : decode cX8_lost 76 = .ok (.iload 8, 2) := by decide +kernel
theorem dX8_lost_78 : decode cX8_lost 78 = .ok (.aload_n 0, 1) := by decide +kernel
theorem dX8_lost_79 : decode cX8_lost 79 = .ok (.getfield 65, 3) := by decide +kernel
theorem dX8_lost_82 : decode cX8_lost 82 = .ok (.getfield 145, 3) := by decide +kernel
theorem dX8_lost_85 : decode cX8_lost 85 = .ok (.if_icmp .ge 42, 3) := by decide +kernel
theorem dX8_lost_88 : decode cX8_lost 88 = .ok (.aload_n 0, 1) := by decide +kernel
theorem dX8_lost_89 : decode cX8_lost 89 = .ok (.getfield 40, 3) := by decide +kernel
theorem dX8_lost_92 : decode cX8_lost 92 = .ok (.getfield 201, 3) := by decide +kernel
theorem dX8_lost_95 : decode cX8_lost 95 = .ok (.iload 8, 2) := by decide +kernel
theorem dX8_lost_97 : decode cX8_lost 97 = .ok (.iaload, 1) := by decide +kernel
theorem dX8_lost_98 : decode cX8_lost 98 = .ok (.iload 5, 2) := by decide +kernel
theorem dX8_lost_100 : decode cX8_lost 100 = .ok (.if_icmp .ne 21, 3) := by decide +kernel
theorem dX8_lost_103 : decode cX8_lost 103 = .ok (.iload 7, 2) := by decide +kernel
theorem dX8_lost_105 : decode cX8_lost 105 = .ok (.iload 6, 2) := by decide +kernel
theorem dX8_lost_107 : decode cX8_lost 107 = .ok (.aload_n 0, 1) := by decide +kernel
theorem dX8_lost_108 : decode cX8_lost 108 = .ok (.getfield 65, 3) := by decide +kernel
theorem dX8_lost_111 : decode cX8_lost 111 = .ok (.iload_n 1, 1) := by decide +kernel
theorem dX8_lost_112 : decode cX8_lost 112 = .ok (.iload 8, 2) := by decide +kernel
theorem dX8_lost_114 : decode cX8_lost 114 = .ok (.invokevirtual 188, 3) := by decide +kernel
theorem dX8_lost_117 : decode cX8_lost 117 = .ok (.isub, 1) := by decide +kernel
theorem dX8_lost_118 : decode cX8_lost 118 = .ok (.iadd, 1) := by decide +kernel
theorem dX8_lost_119 : decode cX8_lost 119 = .ok (.istore 7, 2) := by decide +kernel
theorem dX8_lost_121 : decode cX8_lost 121 = .ok (.iinc 8 1, 3) := by decide +kernel
theorem dX8_lost_124 : decode cX8_lost 124 = .ok (.goto (-48), 3) := by decide +kernel
theorem dX8_lost_127 : decode cX8_lost 127 = .ok (.iload 7, 2) := by decide +kernel
theorem dX8_lost_129 : decode cX8_lost 129 = .ok (.aload_n 0, 1) := by decide +kernel
theorem dX8_lost_130 : decode cX8_lost 130 = .ok (.getfield 40, 3) := by decide +kernel
theorem dX8_lost_133 : decode cX8_lost 133 = .ok (.iload 5, 2) := by decide +kernel
theorem dX8_lost_135 : decode cX8_lost 135 = .ok (.ldc 157, 2) := by decide +kernel
theorem dX8_lost_137 : decode cX8_lost 137 = .ok (.invokevirtual 240, 3) := by decide +kernel
theorem dX8_lost_140 : decode cX8_lost 140 = .ok (.iload_n 3, 1) := by decide +kernel
theorem dX8_lost_141 : decode cX8_lost 141 = .ok (.invokestatic 210, 3) := by decide +kernel
theorem dX8_lost_144 : decode cX8_lost 144 = .ok (.ireturn, 1) := by decide +kernel
theorem dX8_honest_0 : decode cX8_honest 0 = .ok (.aload_n 0, 1) := by decide +kernel
theorem dX8_honest_1 : decode cX8_honest 1 = .ok (.iload_n 1, 1) := by decide +kernel
theorem dX8_honest_2 : decode cX8_honest 2 = .ok (.invokevirtual 148, 3) := by decide +kernel
theorem dX8_honest_5 : decode cX8_honest 5 = .ok (.ifCond .eq 10, 3) := by decide +kernel
theorem dX8_honest_8 : decode cX8_honest 8 = .ok (.iload_n 2, 1) := by decide +kernel
theorem dX8_honest_9 : decode cX8_honest 9 = .ok (.invokestatic 185, 3) := by decide +kernel
theorem dX8_honest_12 : decode cX8_honest 12 = .ok (.ifCond .ne 6, 3) := by decide +kernel
theorem dX8_honest_15 : decode cX8_honest 15 = .ok (.ldc 76, 2) := by decide +kernel
theorem dX8_honest_17 : decode cX8_honest 17 = .ok (.ireturn, 1) := by decide +kernel
theorem dX8_honest_18 : decode cX8_honest 18 = .ok (.aload_n 0, 1) := by decide +kernel
theorem dX8_honest_19 : decode cX8_honest 19 = .ok (.getfield 40, 3) := by decide +kernel
theorem dX8_honest_22 : decode cX8_honest 22 = .ok (.aload_n 0, 1) := by decide +kernel
theorem dX8_honest_23 : decode cX8_honest 23 = .ok (.getfield 65, 3) := by decide +kernel
theorem dX8_honest_26 : decode cX8_honest 26 = .ok (.iload_n 1, 1) := by decide +kernel
theorem dX8_honest_27 : decode cX8_honest 27 = .ok (.invokevirtual 165, 3) := by decide +kernel
theorem dX8_honest_30 : decode cX8_honest 30 = .ok (.iload_n 2, 1) := by decide +kernel
theorem dX8_honest_31 : decode cX8_honest 31 = .ok (.ifCond .ne 35, 3) := by decide +kernel
theorem dX8_honest_34 : decode cX8_honest 34 = .ok (.aload_n 0, 1) := by decide +kernel
theorem dX8_honest_35 : decode cX8_honest 35 = .ok (.getfield 54, 3) := by decide +kernel
theorem dX8_honest_38 : decode cX8_honest 38 = .ok (.aload_n 0, 1) := by decide +kernel
theorem dX8_honest_39 : decode cX8_honest 39 = .ok (.getfield 65, 3) := by decide +kernel
theorem dX8_honest_42 : decode cX8_honest 42 = .ok (.iload_n 1, 1) := by decide +kernel
theorem dX8_honest_43 : decode cX8_honest 43 = .ok (.aload_n 0, 1) := by decide +kernel
theorem dX8_honest_44 : decode cX8_honest 44 = .ok (.getfield 40, 3) := by decide +kernel
theorem dX8_honest_47 : decode cX8_honest 47 = .ok (.aload_n 0, 1) := by decide +kernel
theorem dX8_honest_48 : decode cX8_honest 48 = .ok (.getfield 65, 3) := by decide +kernel
theorem dX8_honest_51 : decode cX8_honest 51 = .ok (.getfield 194, 3) := by decide +kernel
theorem dX8_honest_54 : decode cX8_honest 54 = .ok (.invokevirtual 243, 3) := by decide +kernel
theorem dX8_honest_57 : decode cX8_honest 57 = .ok (.ifCond .eq 7, 3) := by decide +kernel
theorem dX8_honest_60 : decode cX8_honest 60 = .ok (.iconst 1, 1) := by decide +kernel
theorem dX8_honest_61 : decode cX8_honest 61 = .ok (.goto 4, 3) := by decide +kernel
theorem dX8_honest_64 : decode cX8_honest 64 = .ok (.iconst 0, 1) := by decide +kernel
theorem dX8_honest_65 : decode cX8_honest 65 = .ok (.ireturn, 1) := by decide +kernel
theorem dX8_honest_66 : decode cX8_honest 66 = .ok (.iconst 0, 1) := by decide +kernel
theorem dX8_honest_67 : decode cX8_honest 67 = .ok (.istore_n 3, 1) := by decide +kernel
theorem dX8_honest_68 : decode cX8_honest 68 = .ok (.iconst 0, 1) := by decide +kernel
theorem dX8_honest_69 : decode cX8_honest 69 = .ok (.istore 4, 2) := by decide +kernel
theorem dX8_honest_71 : decode cX8_honest 71 = .ok (.iload 4, 2) := by decide +kernel
theorem dX8_honest_73 : decode cX8_honest 73 = .ok (.iconst 4, 1) := by decide +kernel
theorem dX8_honest_74 : decode cX8_honest 74 = .ok (.if_icmp .ge 37, 3) := by decide +kernel
theorem dX8_honest_77 : decode cX8_honest 77 = .ok (.aload_n 0, 1) := by decide +kernel
theorem dX8_honest_78 : decode cX8_honest 78 = .ok (.getfield 54, 3) := by decide +kernel
theorem dX8_honest_81 : decode cX8_honest 81 = .ok (.aload_n 0, 1) := by decide +kernel
theorem dX8_honest_82 : decode cX8_honest 82 = .ok (.getfield 65, 3) := by decide +kernel
theorem dX8_honest_85 : decode cX8_honest 85 = .ok (.iload_n 1, 1) := by decide +kernel
theorem dX8_honest_86 : decode cX8_honest 86 = .ok (.aload_n 0, 1) := by decide +kernel
theorem dX8_honest_87 : decode cX8_honest 87 = .ok (.getfield 40, 3) := by decide +kernel
theorem dX8_honest_90 : decode cX8_honest 90 = .ok (.iload 4, 2) := by decide +kernel
theorem dX8_honest_92 : decode cX8_honest 92 = .ok (.invokevirtual 243, 3) := by decide +kernel
theorem dX8_honest_95 : decode cX8_honest 95 = .ok (.ifCond .eq 10, 3) := by decide +kernel
theorem dX8_honest_98 : decode cX8_honest 98 = .ok (.iload_n 3, 1) := by decide +kernel
theorem dX8_honest_99 : decode cX8_honest 99 = .ok (.iconst 1, 1) := by decide +kernel
theorem dX8_honest_100 : decode cX8_honest 100 = .ok (.iload 4, 2) := by decide +kernel
theorem dX8_honest_102 : decode cX8_honest 102 = .ok (.ishl, 1) := by decide +kernel
theorem dX8_honest_103 : decode cX8_honest 103 = .ok (.ior, 1) := by decide +kernel
theorem dX8_honest_104 : decode cX8_honest 104 = .ok (.istore_n 3, 1) := by decide +kernel
theorem dX8_honest_105 : decode cX8_honest 105 = .ok (.iinc 4 1, 3) := by decide +kernel
theorem dX8_honest_108 : decode cX8_honest 108 = .ok (.goto (-37), 3) := by decide +kernel
theorem dX8_honest_111 : decode cX8_honest 111 = .ok (.iload_n 3, 1) := by decide +kernel
theorem dX8_honest_112 : decode cX8_honest 112 = .ok (.ireturn, 1) := by decide +kernel
theorem dX8_ore_0 : decode cX8_ore 0 = .ok (.aload_n 0, 1) := by decide +kernel
theorem dX8_ore_1 : decode cX8_ore 1 = .ok (.iload_n 1, 1) := by decide +kernel
theorem dX8_ore_2 : decode cX8_ore 2 = .ok (.invokevirtual 148, 3) := by decide +kernel
theorem dX8_ore_5 : decode cX8_ore 5 = .ok (.ifCond .eq 11, 3) := by decide +kernel
theorem dX8_ore_8 : decode cX8_ore 8 = .ok (.aload_n 0, 1) := by decide +kernel
theorem dX8_ore_9 : decode cX8_ore 9 = .ok (.iload_n 2, 1) := by decide +kernel
theorem dX8_ore_10 : decode cX8_ore 10 = .ok (.invokevirtual 72, 3) := by decide +kernel
theorem dX8_ore_13 : decode cX8_ore 13 = .ok (.ifCond .ne 6, 3) := by decide +kernel
theorem dX8_ore_16 : decode cX8_ore 16 = .ok (.ldc 76, 2) := by decide +kernel
theorem dX8_ore_18 : decode cX8_ore 18 = .ok (.ireturn, 1) := by decide +kernel
theorem dX8_ore_19 : decode cX8_ore 19 = .ok (.aload_n 0, 1) := by decide +kernel
theorem dX8_ore_20 : decode cX8_ore 20 = .ok (.iload_n 2, 1) := by decide +kernel
theorem dX8_ore_21 : decode cX8_ore 21 = .ok (.invokevirtual 159, 3) := by decide +kernel
theorem dX8_ore_24 : decode cX8_ore 24 = .ok (.istore_n 3, 1) := by decide +kernel
theorem dX8_ore_25 : decode cX8_ore 25 = .ok (.iload_n 3, 1) := by decide +kernel
theorem dX8_ore_26 : decode cX8_ore 26 = .ok (.ifCond .eq 5, 3) := by decide +kernel
theorem dX8_ore_29 : decode cX8_ore 29 = .ok (.iload_n 3, 1) := by decide +kernel
theorem dX8_ore_30 : decode cX8_ore 30 = .ok (.ireturn, 1) := by decide +kernel
theorem dX8_ore_31 : decode cX8_ore 31 = .ok (.iconst 0, 1) := by decide +kernel
theorem dX8_ore_32 : decode cX8_ore 32 = .ok (.istore 4, 2) := by decide +kernel
theorem dX8_ore_34 : decode cX8_ore 34 = .ok (.iconst 0, 1) := by decide +kernel
theorem dX8_ore_35 : decode cX8_ore 35 = .ok (.istore 5, 2) := by decide +kernel
theorem dX8_ore_37 : decode cX8_ore 37 = .ok (.iload 5, 2) := by decide +kernel
theorem dX8_ore_39 : decode cX8_ore 39 = .ok (.aload_n 0, 1) := by decide +kernel
theorem dX8_ore_40 : decode cX8_ore 40 = .ok (.getfield 65, 3) := by decide +kernel
theorem dX8_ore_43 : decode cX8_ore 43 = .ok (.getfield 145, 3) := by decide +kernel
theorem dX8_ore_46 : decode cX8_ore 46 = .ok (.if_icmp .ge 41, 3) := by decide +kernel
theorem dX8_ore_49 : decode cX8_ore 49 = .ok (.aload_n 0, 1) := by decide +kernel
theorem dX8_ore_50 : decode cX8_ore 50 = .ok (.getfield 40, 3) := by decide +kernel
theorem dX8_ore_53 : decode cX8_ore 53 = .ok (.getfield 201, 3) := by decide +kernel
theorem dX8_ore_56 : decode cX8_ore 56 = .ok (.iload 5, 2) := by decide +kernel
theorem dX8_ore_58 : decode cX8_ore 58 = .ok (.iaload, 1) := by decide +kernel
theorem dX8_ore_59 : decode cX8_ore 59 = .ok (.aload_n 0, 1) := by decide +kernel
theorem dX8_ore_60 : decode cX8_ore 60 = .ok (.getfield 65, 3) := by decide +kernel
theorem dX8_ore_63 : decode cX8_ore 63 = .ok (.iload_n 1, 1) := by decide +kernel
theorem dX8_ore_64 : decode cX8_ore 64 = .ok (.iload 5, 2) := by decide +kernel
theorem dX8_ore_66 : decode cX8_ore 66 = .ok (.invokevirtual 191, 3) := by decide +kernel
theorem dX8_ore_69 : decode cX8_ore 69 = .ok (.if_icmp .ge 12, 3) := by decide +kernel
theorem dX8_ore_72 : decode cX8_ore 72 = .ok (.iload 4, 2) := by decide +kernel
theorem dX8_ore_74 : decode cX8_ore 74 = .ok (.iconst 1, 1) := by decide +kernel
theorem dX8_ore_75 : decode cX8_ore 75 = .ok (.iload 5, 2) := by decide +kernel
theorem dX8_ore_77 : decode cX8_ore 77 = .ok (.ishl, 1) := by decide +kernel
theorem dX8_ore_78 : decode cX8_ore 78 = .ok (.ior, 1) := by decide +kernel
theorem dX8_ore_79 : decode cX8_ore 79 = .ok (.istore 4, 2) := by decide +kernel
theorem dX8_ore_81 : decode cX8_ore 81 = .ok (.iinc 5 1, 3) := by decide +kernel
theorem dX8_ore_84 : decode cX8_ore 84 = .ok (.goto (-47), 3) := by decide +kernel
theorem dX8_ore_87 : decode cX8_ore 87 = .ok (.iload 4, 2) := by decide +kernel
theorem dX8_ore_89 : decode cX8_ore 89 = .ok (.ireturn, 1) := by decide +kernel
theorem dX8_image_0 : decode cX8_image 0 = .ok (.iload_n 1, 1) := by decide +kernel
theorem dX8_image_1 : decode cX8_image 1 = .ok (.ifCond .lt 8, 3) := by decide +kernel
theorem dX8_image_4 : decode cX8_image 4 = .ok (.iload_n 1, 1) := by decide +kernel
theorem dX8_image_5 : decode cX8_image 5 = .ok (.iconst 2, 1) := by decide +kernel
theorem dX8_image_6 : decode cX8_image 6 = .ok (.if_icmp .lt 6, 3) := by decide +kernel
theorem dX8_image_9 : decode cX8_image 9 = .ok (.ldc 76, 2) := by decide +kernel
theorem dX8_image_11 : decode cX8_image 11 = .ok (.ireturn, 1) := by decide +kernel
theorem dX8_image_12 : decode cX8_image 12 = .ok (.aload_n 0, 1) := by decide +kernel
theorem dX8_image_13 : decode cX8_image 13 = .ok (.getfield 65, 3) := by decide +kernel
theorem dX8_image_16 : decode cX8_image 16 = .ok (.getfield 145, 3) := by decide +kernel
theorem dX8_image_19 : decode cX8_image 19 = .ok (.ifCond .ne 6, 3) := by decide +kernel
theorem dX8_image_22 : decode cX8_image 22 = .ok (.ldc 158, 2) := by decide +kernel
theorem dX8_image_24 : decode cX8_image 24 = .ok (.ireturn, 1) := by decide +kernel
theorem dX8_image_25 : decode cX8_image 25 = .ok (.aload_n 0, 1) := by decide +kernel
theorem dX8_image_26 : decode cX8_image 26 = .ok (.getfield 18, 3) := by decide +kernel
theorem dX8_image_29 : decode cX8_image 29 = .ok (.iload_n 1, 1) := by decide +kernel
theorem dX8_image_30 : decode cX8_image 30 = .ok (.aaload, 1) := by decide +kernel
theorem dX8_image_31 : decode cX8_image 31 = .ok (.aload_n 0, 1) := by decide +kernel
theorem dX8_image_32 : decode cX8_image 32 = .ok (.getfield 65, 3) := by decide +kernel
theorem dX8_image_35 : decode cX8_image 35 = .ok (.invokevirtual 247, 3) := by decide +kernel
theorem dX8_image_38 : decode cX8_image 38 = .ok (.iconst 1, 1) := by decide +kernel
theorem dX8_image_39 : decode cX8_image 39 = .ok (.ireturn, 1) := by decide +kernel
theorem dX8_restore_0 : decode cX8_restore 0 = .ok (.iload_n 1, 1) := by decide +kernel
theorem dX8_restore_1 : decode cX8_restore 1 = .ok (.ifCond .lt 8, 3) := by decide +kernel
theorem dX8_restore_4 : decode cX8_restore 4 = .ok (.iload_n 1, 1) := by decide +kernel
theorem dX8_restore_5 : decode cX8_restore 5 = .ok (.iconst 2, 1) := by decide +kernel
theorem dX8_restore_6 : decode cX8_restore 6 = .ok (.if_icmp .lt 6, 3) := by decide +kernel
theorem dX8_restore_9 : decode cX8_restore 9 = .ok (.ldc 76, 2) := by decide +kernel
theorem dX8_restore_11 : decode cX8_restore 11 = .ok (.ireturn, 1) := by decide +kernel
theorem dX8_restore_12 : decode cX8_restore 12 = .ok (.aload_n 0, 1) := by decide +kernel
theorem dX8_restore_13 : decode cX8_restore 13 = .ok (.getfield 18, 3) := by decide +kernel
theorem dX8_restore_16 : decode cX8_restore 16 = .ok (.iload_n 1, 1) := by decide +kernel
theorem dX8_restore_17 : decode cX8_restore 17 = .ok (.aaload, 1) := by decide +kernel
theorem dX8_restore_18 : decode cX8_restore 18 = .ok (.getfield 145, 3) := by decide +kernel
theorem dX8_restore_21 : decode cX8_restore 21 = .ok (.ifCond .ne 6, 3) := by decide +kernel
theorem dX8_restore_24 : decode cX8_restore 24 = .ok (.ldc 158, 2) := by decide +kernel
theorem dX8_restore_26 : decode cX8_restore 26 = .ok (.ireturn, 1) := by decide +kernel
theorem dX8_restore_27 : decode cX8_restore 27 = .ok (.aload_n 0, 1) := by decide +kernel
theorem dX8_restore_28 : decode cX8_restore 28 = .ok (.getfield 65, 3) := by decide +kernel
theorem dX8_restore_31 : decode cX8_restore 31 = .ok (.aload_n 0, 1) := by decide +kernel
theorem dX8_restore_32 : decode cX8_restore 32 = .ok (.getfield 18, 3) := by decide +kernel
theorem dX8_restore_35 : decode cX8_restore 35 = .ok (.iload_n 1, 1) := by decide +kernel
theorem dX8_restore_36 : decode cX8_restore 36 = .ok (.aaload, 1) := by decide +kernel
theorem dX8_restore_37 : decode cX8_restore 37 = .ok (.invokevirtual 247, 3) := by decide +kernel
theorem dX8_restore_40 : decode cX8_restore 40 = .ok (.aload_n 0, 1) := by decide +kernel
theorem dX8_restore_41 : decode cX8_restore 41 = .ok (.getfield 33, 3) := by decide +kernel
theorem dX8_restore_44 : decode cX8_restore 44 = .ok (.iconst 0, 1) := by decide +kernel
theorem dX8_restore_45 : decode cX8_restore 45 = .ok (.putfield 142, 3) := by decide +kernel
theorem dX8_restore_48 : decode cX8_restore 48 = .ok (.iconst 1, 1) := by decide +kernel
theorem dX8_restore_49 : decode cX8_restore 49 = .ok (.ireturn, 1) := by decide +kernel
theorem dX8_kind_0 : decode cX8_kind 0 = .ok (.aload_n 0, 1) := by decide +kernel
theorem dX8_kind_1 : decode cX8_kind 1 = .ok (.iload_n 1, 1) := by decide +kernel
theorem dX8_kind_2 : decode cX8_kind 2 = .ok (.invokevirtual 179, 3) := by decide +kernel
theorem dX8_kind_5 : decode cX8_kind 5 = .ok (.ifCond .eq 15, 3) := by decide +kernel
theorem dX8_kind_8 : decode cX8_kind 8 = .ok (.aload_n 0, 1) := by decide +kernel
theorem dX8_kind_9 : decode cX8_kind 9 = .ok (.getfield 65, 3) := by decide +kernel
theorem dX8_kind_12 : decode cX8_kind 12 = .ok (.getfield 250, 3) := by decide +kernel
theorem dX8_kind_15 : decode cX8_kind 15 = .ok (.iload_n 1, 1) := by decide +kernel
theorem dX8_kind_16 : decode cX8_kind 16 = .ok (.iaload, 1) := by decide +kernel
theorem dX8_kind_17 : decode cX8_kind 17 = .ok (.goto 5, 3) := by decide +kernel
theorem dX8_kind_20 : decode cX8_kind 20 = .ok (.ldc 76, 2) := by decide +kernel
theorem dX8_kind_22 : decode cX8_kind 22 = .ok (.ireturn, 1) := by decide +kernel
theorem dX8_as_0 : decode cX8_as 0 = .ok (.aload_n 0, 1) := by decide +kernel
theorem dX8_as_1 : decode cX8_as 1 = .ok (.iload_n 1, 1) := by decide +kernel
theorem dX8_as_2 : decode cX8_as 2 = .ok (.invokevirtual 179, 3) := by decide +kernel
theorem dX8_as_5 : decode cX8_as 5 = .ok (.ifCond .eq 13, 3) := by decide +kernel
theorem dX8_as_8 : decode cX8_as 8 = .ok (.iload_n 2, 1) := by decide +kernel
theorem dX8_as_9 : decode cX8_as 9 = .ok (.ifCond .lt 9, 3) := by decide +kernel
theorem dX8_as_12 : decode cX8_as 12 = .ok (.iload_n 2, 1) := by decide +kernel
theorem dX8_as_13 : decode cX8_as 13 = .ok (.bipush 6, 2) := by decide +kernel
theorem dX8_as_15 : decode cX8_as 15 = .ok (.if_icmp .lt 6, 3) := by decide +kernel
theorem dX8_as_18 : decode cX8_as 18 = .ok (.ldc 76, 2) := by decide +kernel
theorem dX8_as_20 : decode cX8_as 20 = .ok (.ireturn, 1) := by decide +kernel
theorem dX8_as_21 : decode cX8_as 21 = .ok (.aload_n 0, 1) := by decide +kernel
theorem dX8_as_22 : decode cX8_as 22 = .ok (.getfield 65, 3) := by decide +kernel
theorem dX8_as_25 : decode cX8_as 25 = .ok (.getfield 250, 3) := by decide +kernel
theorem dX8_as_28 : decode cX8_as 28 = .ok (.iload_n 1, 1) := by decide +kernel
theorem dX8_as_29 : decode cX8_as 29 = .ok (.iaload, 1) := by decide +kernel
theorem dX8_as_30 : decode cX8_as 30 = .ok (.iload_n 2, 1) := by decide +kernel
theorem dX8_as_31 : decode cX8_as 31 = .ok (.invokestatic 253, 3) := by decide +kernel
theorem dX8_as_34 : decode cX8_as 34 = .ok (.ifCond .eq 11, 3) := by decide +kernel
theorem dX8_as_37 : decode cX8_as 37 = .ok (.aload_n 0, 1) := by decide +kernel
theorem dX8_as_38 : decode cX8_as 38 = .ok (.iload_n 1, 1) := by decide +kernel
theorem dX8_as_39 : decode cX8_as 39 = .ok (.invokevirtual 85, 3) := by decide +kernel
theorem dX8_as_42 : decode cX8_as 42 = .ok (.goto 8, 3) := by decide +kernel
theorem dX8_as_45 : decode cX8_as 45 = .ok (.aload_n 0, 1) := by decide +kernel
theorem dX8_as_46 : decode cX8_as 46 = .ok (.iconst 3, 1) := by decide +kernel
theorem dX8_as_47 : decode cX8_as 47 = .ok (.invokevirtual 77, 3) := by decide +kernel
theorem dX8_as_50 : decode cX8_as 50 = .ok (.ireturn, 1) := by decide +kernel
theorem dX8_ask_0 : decode cX8_ask 0 = .ok (.aload_n 0, 1) := by decide +kernel
theorem dX8_ask_1 : decode cX8_ask 1 = .ok (.iload_n 1, 1) := by decide +kernel
theorem dX8_ask_2 : decode cX8_ask 2 = .ok (.invokevirtual 179, 3) := by decide +kernel
theorem dX8_ask_5 : decode cX8_ask 5 = .ok (.ifCond .eq 10, 3) := by decide +kernel
theorem dX8_ask_8 : decode cX8_ask 8 = .ok (.iload_n 2, 1) := by decide +kernel
theorem dX8_ask_9 : decode cX8_ask 9 = .ok (.invokestatic 185, 3) := by decide +kernel
theorem dX8_ask_12 : decode cX8_ask 12 = .ok (.ifCond .ne 6, 3) := by decide +kernel
theorem dX8_ask_15 : decode cX8_ask 15 = .ok (.ldc 76, 2) := by decide +kernel
theorem dX8_ask_17 : decode cX8_ask 17 = .ok (.ireturn, 1) := by decide +kernel
theorem dX8_ask_18 : decode cX8_ask 18 = .ok (.aload_n 0, 1) := by decide +kernel
theorem dX8_ask_19 : decode cX8_ask 19 = .ok (.getfield 61, 3) := by decide +kernel
theorem dX8_ask_22 : decode cX8_ask 22 = .ok (.aload_n 0, 1) := by decide +kernel
theorem dX8_ask_23 : decode cX8_ask 23 = .ok (.getfield 65, 3) := by decide +kernel
theorem dX8_ask_26 : decode cX8_ask 26 = .ok (.iload_n 1, 1) := by decide +kernel
theorem dX8_ask_27 : decode cX8_ask 27 = .ok (.iload_n 2, 1) := by decide +kernel
theorem dX8_ask_28 : decode cX8_ask 28 = .ok (.invokevirtual 256, 3) := by decide +kernel
theorem dX8_ask_31 : decode cX8_ask 31 = .ok (.ireturn, 1) := by decide +kernel
theorem dX8_trace_0 : decode cX8_trace 0 = .ok (.iload_n 1, 1) := by decide +kernel
theorem dX8_trace_1 : decode cX8_trace 1 = .ok (.ifCond .lt 26, 3) := by decide +kernel
theorem dX8_trace_4 : decode cX8_trace 4 = .ok (.iload_n 1, 1) := by decide +kernel
theorem dX8_trace_5 : decode cX8_trace 5 = .ok (.aload_n 0, 1) := by decide +kernel
theorem dX8_trace_6 : decode cX8_trace 6 = .ok (.getfield 61, 3) := by decide +kernel
theorem dX8_trace_9 : decode cX8_trace 9 = .ok (.getfield 260, 3) := by decide +kernel
theorem dX8_trace_12 : decode cX8_trace 12 = .ok (.if_icmp .ge 15, 3) := by decide +kernel
theorem dX8_trace_15 : decode cX8_trace 15 = .ok (.aload_n 0, 1) := by decide +kernel
theorem dX8_trace_16 : decode cX8_trace 16 = .ok (.getfield 61, 3) := by decide +kernel
theorem dX8_trace_19 : decode cX8_trace 19 = .ok (.getfield 263, 3) := by decide +kernel
theorem dX8_trace_22 : decode cX8_trace 22 = .ok (.iload_n 1, 1) := by decide +kernel
theorem dX8_trace_23 : decode cX8_trace 23 = .ok (.iaload, 1) := by decide +kernel
theorem dX8_trace_24 : decode cX8_trace 24 = .ok (.goto 5, 3) := by decide +kernel
theorem dX8_trace_27 : decode cX8_trace 27 = .ok (.ldc 157, 2) := by decide +kernel
theorem dX8_trace_29 : decode cX8_trace 29 = .ok (.ireturn, 1) := by decide +kernel
theorem dX8_count_0 : decode cX8_count 0 = .ok (.iload_n 1, 1) := by decide +kernel
theorem dX8_count_1 : decode cX8_count 1 = .ok (.tableswitch 108 0 7 #[47, 52, 60, 68, 76, 84, 92, 100], 47) := by decide +kernel
theorem dX8_count_48 : decode cX8_count 48 = .ok (.aload_n 0, 1) := by decide +kernel
theorem dX8_count_49 : decode cX8_count 49 = .ok (.invokevirtual 266, 3) := by decide +kernel
theorem dX8_count_52 : decode cX8_count 52 = .ok (.ireturn, 1) := by decide +kernel
theorem dX8_count_53 : decode cX8_count 53 = .ok (.aload_n 0, 1) := by decide +kernel
theorem dX8_count_54 : decode cX8_count 54 = .ok (.getfield 65, 3) := by decide +kernel
theorem dX8_count_57 : decode cX8_count 57 = .ok (.getfield 145, 3) := by decide +kernel
theorem dX8_count_60 : decode cX8_count 60 = .ok (.ireturn, 1) := by decide +kernel
theorem dX8_count_61 : decode cX8_count 61 = .ok (.aload_n 0, 1) := by decide +kernel
theorem dX8_count_62 : decode cX8_count 62 = .ok (.getfield 65, 3) := by decide +kernel
theorem dX8_count_65 : decode cX8_count 65 = .ok (.getfield 269, 3) := by decide +kernel
theorem dX8_count_68 : decode cX8_count 68 = .ok (.ireturn, 1) := by decide +kernel
theorem dX8_count_69 : decode cX8_count 69 = .ok (.aload_n 0, 1) := by decide +kernel
theorem dX8_count_70 : decode cX8_count 70 = .ok (.getfield 65, 3) := by decide +kernel
theorem dX8_count_73 : decode cX8_count 73 = .ok (.invokevirtual 272, 3) := by decide +kernel
theorem dX8_count_76 : decode cX8_count 76 = .ok (.ireturn, 1) := by decide +kernel
theorem dX8_count_77 : decode cX8_count 77 = .ok (.aload_n 0, 1) := by decide +kernel
theorem dX8_count_78 : decode cX8_count 78 = .ok (.getfield 33, 3) := by decide +kernel
theorem dX8_count_81 : decode cX8_count 81 = .ok (.getfield 142, 3) := by decide +kernel
theorem dX8_count_84 : decode cX8_count 84 = .ok (.ireturn, 1) := by decide +kernel
theorem dX8_count_85 : decode cX8_count 85 = .ok (.aload_n 0, 1) := by decide +kernel
theorem dX8_count_86 : decode cX8_count 86 = .ok (.getfield 65, 3) := by decide +kernel
theorem dX8_count_89 : decode cX8_count 89 = .ok (.getfield 194, 3) := by decide +kernel
theorem dX8_count_92 : decode cX8_count 92 = .ok (.ireturn, 1) := by decide +kernel
theorem dX8_count_93 : decode cX8_count 93 = .ok (.aload_n 0, 1) := by decide +kernel
theorem dX8_count_94 : decode cX8_count 94 = .ok (.getfield 65, 3) := by decide +kernel
theorem dX8_count_97 : decode cX8_count 97 = .ok (.getfield 275, 3) := by decide +kernel
theorem dX8_count_100 : decode cX8_count 100 = .ok (.ireturn, 1) := by decide +kernel
theorem dX8_count_101 : decode cX8_count 101 = .ok (.aload_n 0, 1) := by decide +kernel
theorem dX8_count_102 : decode cX8_count 102 = .ok (.getfield 26, 3) := by decide +kernel
theorem dX8_count_105 : decode cX8_count 105 = .ok (.getfield 125, 3) := by decide +kernel
theorem dX8_count_108 : decode cX8_count 108 = .ok (.ireturn, 1) := by decide +kernel
theorem dX8_count_109 : decode cX8_count 109 = .ok (.ldc 76, 2) := by decide +kernel
theorem dX8_count_111 : decode cX8_count 111 = .ok (.ireturn, 1) := by decide +kernel
theorem dX8_status_0 : decode cX8_status 0 = .ok (.aload_n 0, 1) := by decide +kernel
theorem dX8_status_1 : decode cX8_status 1 = .ok (.getfield 278, 3) := by decide +kernel
theorem dX8_status_4 : decode cX8_status 4 = .ok (.ireturn, 1) := by decide +kernel
theorem dX8_isRow_0 : decode cX8_isRow 0 = .ok (.iload_n 1, 1) := by decide +kernel
theorem dX8_isRow_1 : decode cX8_isRow 1 = .ok (.ifCond .lt 13, 3) := by decide +kernel
theorem dX8_isRow_4 : decode cX8_isRow 4 = .ok (.iload_n 1, 1) := by decide +kernel
theorem dX8_isRow_5 : decode cX8_isRow 5 = .ok (.bipush 8, 2) := by decide +kernel
theorem dX8_isRow_7 : decode cX8_isRow 7 = .ok (.if_icmp .ge 7, 3) := by decide +kernel
theorem dX8_isRow_10 : decode cX8_isRow 10 = .ok (.iconst 1, 1) := by decide +kernel
theorem dX8_isRow_11 : decode cX8_isRow 11 = .ok (.goto 4, 3) := by decide +kernel
theorem dX8_isRow_14 : decode cX8_isRow 14 = .ok (.iconst 0, 1) := by decide +kernel
theorem dX8_isRow_15 : decode cX8_isRow 15 = .ok (.ireturn, 1) := by decide +kernel
theorem dX8_isThing_0 : decode cX8_isThing 0 = .ok (.iload_n 1, 1) := by decide +kernel
theorem dX8_isThing_1 : decode cX8_isThing 1 = .ok (.ifCond .lt 18, 3) := by decide +kernel
theorem dX8_isThing_4 : decode cX8_isThing 4 = .ok (.iload_n 1, 1) := by decide +kernel
theorem dX8_isThing_5 : decode cX8_isThing 5 = .ok (.aload_n 0, 1) := by decide +kernel
theorem dX8_isThing_6 : decode cX8_isThing 6 = .ok (.getfield 65, 3) := by decide +kernel
theorem dX8_isThing_9 : decode cX8_isThing 9 = .ok (.getfield 269, 3) := by decide +kernel
theorem dX8_isThing_12 : decode cX8_isThing 12 = .ok (.if_icmp .ge 7, 3) := by decide +kernel
theorem dX8_isThing_15 : decode cX8_isThing 15 = .ok (.iconst 1, 1) := by decide +kernel
theorem dX8_isThing_16 : decode cX8_isThing 16 = .ok (.goto 4, 3) := by decide +kernel
theorem dX8_isThing_19 : decode cX8_isThing 19 = .ok (.iconst 0, 1) := by decide +kernel
theorem dX8_isThing_20 : decode cX8_isThing 20 = .ok (.ireturn, 1) := by decide +kernel
theorem dX8_isPerson_0 : decode cX8_isPerson 0 = .ok (.iload_n 1, 1) := by decide +kernel
theorem dX8_isPerson_1 : decode cX8_isPerson 1 = .ok (.ifCond .lt 18, 3) := by decide +kernel
theorem dX8_isPerson_4 : decode cX8_isPerson 4 = .ok (.iload_n 1, 1) := by decide +kernel
theorem dX8_isPerson_5 : decode cX8_isPerson 5 = .ok (.aload_n 0, 1) := by decide +kernel
theorem dX8_isPerson_6 : decode cX8_isPerson 6 = .ok (.getfield 65, 3) := by decide +kernel
theorem dX8_isPerson_9 : decode cX8_isPerson 9 = .ok (.getfield 145, 3) := by decide +kernel
theorem dX8_isPerson_12 : decode cX8_isPerson 12 = .ok (.if_icmp .ge 7, 3) := by decide +kernel
theorem dX8_isPerson_15 : decode cX8_isPerson 15 = .ok (.iconst 1, 1) := by decide +kernel
theorem dX8_isPerson_16 : decode cX8_isPerson 16 = .ok (.goto 4, 3) := by decide +kernel
theorem dX8_isPerson_19 : decode cX8_isPerson 19 = .ok (.iconst 0, 1) := by decide +kernel
theorem dX8_isPerson_20 : decode cX8_isPerson 20 = .ok (.ireturn, 1) := by decide +kernel
theorem dX8_isSeed_0 : decode cX8_isSeed 0 = .ok (.iload_n 0, 1) := by decide +kernel
theorem dX8_isSeed_1 : decode cX8_isSeed 1 = .ok (.iconst 1, 1) := by decide +kernel
theorem dX8_isSeed_2 : decode cX8_isSeed 2 = .ok (.if_icmp .lt 14, 3) := by decide +kernel
theorem dX8_isSeed_5 : decode cX8_isSeed 5 = .ok (.iload_n 0, 1) := by decide +kernel
theorem dX8_isSeed_6 : decode cX8_isSeed 6 = .ok (.ldc_w 281, 3) := by decide +kernel
theorem dX8_isSeed_9 : decode cX8_isSeed 9 = .ok (.if_icmp .gt 7, 3) := by decide +kernel
theorem dX8_isSeed_12 : decode cX8_isSeed 12 = .ok (.iconst 1, 1) := by decide +kernel
theorem dX8_isSeed_13 : decode cX8_isSeed 13 = .ok (.goto 4, 3) := by decide +kernel
theorem dX8_isSeed_16 : decode cX8_isSeed 16 = .ok (.iconst 0, 1) := by decide +kernel
theorem dX8_isSeed_17 : decode cX8_isSeed 17 = .ok (.ireturn, 1) := by decide +kernel
theorem dX8_isEither_0 : decode cX8_isEither 0 = .ok (.iload_n 0, 1) := by decide +kernel
theorem dX8_isEither_1 : decode cX8_isEither 1 = .ok (.ifCond .eq 8, 3) := by decide +kernel
theorem dX8_isEither_4 : decode cX8_isEither 4 = .ok (.iload_n 0, 1) := by decide +kernel
theorem dX8_isEither_5 : decode cX8_isEither 5 = .ok (.iconst 1, 1) := by decide +kernel
theorem dX8_isEither_6 : decode cX8_isEither 6 = .ok (.if_icmp .ne 7, 3) := by decide +kernel
theorem dX8_isEither_9 : decode cX8_isEither 9 = .ok (.iconst 1, 1) := by decide +kernel
theorem dX8_isEither_10 : decode cX8_isEither 10 = .ok (.goto 4, 3) := by decide +kernel
theorem dX8_isEither_13 : decode cX8_isEither 13 = .ok (.iconst 0, 1) := by decide +kernel
theorem dX8_isEither_14 : decode cX8_isEither 14 = .ok (.ireturn, 1) := by decide +kernel
theorem dX8_found_0 : decode cX8_found 0 = .ok (.aload_n 0, 1) := by decide +kernel
theorem dX8_found_1 : decode cX8_found 1 = .ok (.iload_n 1, 1) := by decide +kernel
theorem dX8_found_2 : decode cX8_found 2 = .ok (.putfield 278, 3) := by decide +kernel
theorem dX8_found_5 : decode cX8_found 5 = .ok (.ldc_w 282, 3) := by decide +kernel
theorem dX8_found_8 : decode cX8_found 8 = .ok (.iload_n 1, 1) := by decide +kernel
theorem dX8_found_9 : decode cX8_found 9 = .ok (.isub, 1) := by decide +kernel
theorem dX8_found_10 : decode cX8_found 10 = .ok (.ireturn, 1) := by decide +kernel
theorem dX8_fine_0 : decode cX8_fine 0 = .ok (.aload_n 0, 1) := by decide +kernel
theorem dX8_fine_1 : decode cX8_fine 1 = .ok (.iconst 0, 1) := by decide +kernel
theorem dX8_fine_2 : decode cX8_fine 2 = .ok (.putfield 278, 3) := by decide +kernel
theorem dX8_fine_5 : decode cX8_fine 5 = .ok (.iload_n 1, 1) := by decide +kernel
theorem dX8_fine_6 : decode cX8_fine 6 = .ok (.ireturn, 1) := by decide +kernel
theorem dX8_countRows_0 : decode cX8_countRows 0 = .ok (.iconst 0, 1) := by decide +kernel
theorem dX8_countRows_1 : decode cX8_countRows 1 = .ok (.istore_n 1, 1) := by decide +kernel
theorem dX8_countRows_2 : decode cX8_countRows 2 = .ok (.aload_n 0, 1) := by decide +kernel
theorem dX8_countRows_3 : decode cX8_countRows 3 = .ok (.getfield 11, 3) := by decide +kernel
theorem dX8_countRows_6 : decode cX8_countRows 6 = .ok (.astore_n 2, 1) := by decide +kernel
theorem dX8_countRows_7 : decode cX8_countRows 7 = .ok (.aload_n 2, 1) := by decide +kernel
theorem dX8_countRows_8 : decode cX8_countRows 8 = .ok (.arraylength, 1) := by decide +kernel
theorem dX8_countRows_9 : decode cX8_countRows 9 = .ok (.istore_n 3, 1) := by decide +kernel
theorem dX8_countRows_10 : decode cX8_countRows 10 = .ok (.iconst 0, 1) := by decide +kernel
theorem dX8_countRows_11 : decode cX8_countRows 11 = .ok (.istore 4, 2) := by decide +kernel
theorem dX8_countRows_13 : decode cX8_countRows 13 = .ok (.iload 4, 2) := by decide +kernel
theorem dX8_countRows_15 : decode cX8_countRows 15 = .ok (.iload_n 3, 1) := by decide +kernel
theorem dX8_countRows_16 : decode cX8_countRows 16 = .ok (.if_icmp .ge 26, 3) := by decide +kernel
theorem dX8_countRows_19 : decode cX8_countRows 19 = .ok (.aload_n 2, 1) := by decide +kernel
theorem dX8_countRows_20 : decode cX8_countRows 20 = .ok (.iload 4, 2) := by decide +kernel
theorem dX8_countRows_22 : decode cX8_countRows 22 = .ok (.aaload, 1) := by decide +kernel
theorem dX8_countRows_23 : decode cX8_countRows 23 = .ok (.astore 5, 2) := by decide +kernel
theorem dX8_countRows_25 : decode cX8_countRows 25 = .ok (.aload 5, 2) := by decide +kernel
theorem dX8_countRows_27 : decode cX8_countRows 27 = .ok (.getfield 88, 3) := by decide +kernel
theorem dX8_countRows_30 : decode cX8_countRows 30 = .ok (.ifCond .ne 6, 3) := by decide +kernel
theorem dX8_countRows_33 : decode cX8_countRows 33 = .ok (.iinc 1 1, 3) := by decide +kernel
theorem dX8_countRows_36 : decode cX8_countRows 36 = .ok (.iinc 4 1, 3) := by decide +kernel
theorem dX8_countRows_39 : decode cX8_countRows 39 = .ok (.goto (-26), 3) := by decide +kernel
theorem dX8_countRows_42 : decode cX8_countRows 42 = .ok (.iload_n 1, 1) := by decide +kernel
theorem dX8_countRows_43 : decode cX8_countRows 43 = .ok (.ireturn, 1) := by decide +kernel
theorem dX8_hear_0 : decode cX8_hear 0 = .ok (.aload_n 0, 1) := by decide +kernel
theorem dX8_hear_1 : decode cX8_hear 1 = .ok (.getfield 11, 3) := by decide +kernel
theorem dX8_hear_4 : decode cX8_hear 4 = .ok (.iload_n 1, 1) := by decide +kernel
theorem dX8_hear_5 : decode cX8_hear 5 = .ok (.aaload, 1) := by decide +kernel
theorem dX8_hear_6 : decode cX8_hear 6 = .ok (.astore_n 2, 1) := by decide +kernel
theorem dX8_hear_7 : decode cX8_hear 7 = .ok (.aload_n 2, 1) := by decide +kernel
theorem dX8_hear_8 : decode cX8_hear 8 = .ok (.getfield 88, 3) := by decide +kernel
theorem dX8_hear_11 : decode cX8_hear 11 = .ok (.ifCond .eq 9, 3) := by decide +kernel
theorem dX8_hear_14 : decode cX8_hear 14 = .ok (.aload_n 0, 1) := by decide +kernel
theorem dX8_hear_15 : decode cX8_hear 15 = .ok (.iconst 1, 1) := by decide +kernel
theorem dX8_hear_16 : decode cX8_hear 16 = .ok (.invokevirtual 77, 3) := by decide +kernel
theorem dX8_hear_19 : decode cX8_hear 19 = .ok (.ireturn, 1) := by decide +kernel
theorem dX8_hear_20 : decode cX8_hear 20 = .ok (.aload_n 2, 1) := by decide +kernel
theorem dX8_hear_21 : decode cX8_hear 21 = .ok (.getfield 92, 3) := by decide +kernel
theorem dX8_hear_24 : decode cX8_hear 24 = .ok (.aload_n 0, 1) := by decide +kernel
theorem dX8_hear_25 : decode cX8_hear 25 = .ok (.getfield 65, 3) := by decide +kernel
theorem dX8_hear_28 : decode cX8_hear 28 = .ok (.getfield 145, 3) := by decide +kernel
theorem dX8_hear_31 : decode cX8_hear 31 = .ok (.if_icmp .ge 9, 3) := by decide +kernel
theorem dX8_hear_34 : decode cX8_hear 34 = .ok (.aload_n 0, 1) := by decide +kernel
theorem dX8_hear_35 : decode cX8_hear 35 = .ok (.iconst 2, 1) := by decide +kernel
theorem dX8_hear_36 : decode cX8_hear 36 = .ok (.invokevirtual 77, 3) := by decide +kernel
theorem dX8_hear_39 : decode cX8_hear 39 = .ok (.ireturn, 1) := by decide +kernel
theorem dX8_hear_40 : decode cX8_hear 40 = .ok (.iconst 0, 1) := by decide +kernel
theorem dX8_hear_41 : decode cX8_hear 41 = .ok (.istore_n 3, 1) := by decide +kernel
theorem dX8_hear_42 : decode cX8_hear 42 = .ok (.iload_n 3, 1) := by decide +kernel
theorem dX8_hear_43 : decode cX8_hear 43 = .ok (.aload_n 0, 1) := by decide +kernel
theorem dX8_hear_44 : decode cX8_hear 44 = .ok (.getfield 65, 3) := by decide +kernel
theorem dX8_hear_47 : decode cX8_hear 47 = .ok (.getfield 145, 3) := by decide +kernel
theorem dX8_hear_50 : decode cX8_hear 50 = .ok (.if_icmp .ge 31, 3) := by decide +kernel
theorem dX8_hear_53 : decode cX8_hear 53 = .ok (.aload_n 2, 1) := by decide +kernel
theorem dX8_hear_54 : decode cX8_hear 54 = .ok (.getfield 107, 3) := by decide +kernel
theorem dX8_hear_57 : decode cX8_hear 57 = .ok (.iload_n 3, 1) := by decide +kernel
theorem dX8_hear_58 : decode cX8_hear 58 = .ok (.iaload, 1) := by decide +kernel
theorem dX8_hear_59 : decode cX8_hear 59 = .ok (.ifCond .lt 13, 3) := by decide +kernel
theorem dX8_hear_62 : decode cX8_hear 62 = .ok (.aload_n 2, 1) := by decide +kernel
theorem dX8_hear_63 : decode cX8_hear 63 = .ok (.getfield 107, 3) := by decide +kernel
theorem dX8_hear_66 : decode cX8_hear 66 = .ok (.iload_n 3, 1) := by decide +kernel
theorem dX8_hear_67 : decode cX8_hear 67 = .ok (.iaload, 1) := by decide +kernel
theorem dX8_hear_68 : decode cX8_hear 68 = .ok (.iconst 5, 1) := by decide +kernel
theorem dX8_hear_69 : decode cX8_hear 69 = .ok (.if_icmp .le 6, 3) := by decide +kernel
theorem dX8_hear_72 : decode cX8_hear 72 = .ok (.ldc 76, 2) := by decide +kernel
theorem dX8_hear_74 : decode cX8_hear 74 = .ok (.ireturn, 1) := by decide +kernel
theorem dX8_hear_75 : decode cX8_hear 75 = .ok (.iinc 3 1, 3) := by decide +kernel
theorem dX8_hear_78 : decode cX8_hear 78 = .ok (.goto (-36), 3) := by decide +kernel
theorem dX8_hear_81 : decode cX8_hear 81 = .ok (.aload_n 0, 1) := by decide +kernel
theorem dX8_hear_82 : decode cX8_hear 82 = .ok (.getfield 40, 3) := by decide +kernel
theorem dX8_hear_85 : decode cX8_hear 85 = .ok (.aload_n 2, 1) := by decide +kernel
theorem dX8_hear_86 : decode cX8_hear 86 = .ok (.getfield 107, 3) := by decide +kernel
theorem dX8_hear_89 : decode cX8_hear 89 = .ok (.aload_n 0, 1) := by decide +kernel
theorem dX8_hear_90 : decode cX8_hear 90 = .ok (.getfield 65, 3) := by decide +kernel
theorem dX8_hear_93 : decode cX8_hear 93 = .ok (.getfield 145, 3) := by decide +kernel
theorem dX8_hear_96 : decode cX8_hear 96 = .ok (.invokevirtual 283, 3) := by decide +kernel
theorem dX8_hear_99 : decode cX8_hear 99 = .ok (.aload_n 0, 1) := by decide +kernel
theorem dX8_hear_100 : decode cX8_hear 100 = .ok (.iconst 0, 1) := by decide +kernel
theorem dX8_hear_101 : decode cX8_hear 101 = .ok (.invokevirtual 85, 3) := by decide +kernel
theorem dX8_hear_104 : decode cX8_hear 104 = .ok (.ireturn, 1) := by decide +kernel
theorem dX8_holdRound_0 : decode cX8_holdRound 0 = .ok (.aload_n 0, 1) := by decide +kernel
theorem dX8_holdRound_1 : decode cX8_holdRound 1 = .ok (.getfield 40, 3) := by decide +kernel
theorem dX8_holdRound_4 : decode cX8_holdRound 4 = .ok (.ldc 157, 2) := by decide +kernel
theorem dX8_holdRound_6 : decode cX8_holdRound 6 = .ok (.invokevirtual 237, 3) := by decide +kernel
theorem dX8_holdRound_9 : decode cX8_holdRound 9 = .ok (.istore_n 3, 1) := by decide +kernel
theorem dX8_holdRound_10 : decode cX8_holdRound 10 = .ok (.iload_n 2, 1) := by decide +kernel
theorem dX8_holdRound_11 : decode cX8_holdRound 11 = .ok (.i2l, 1) := by decide +kernel
theorem dX8_holdRound_12 : decode cX8_holdRound 12 = .ok (.ldc2_w 287, 3) := by decide +kernel
theorem dX8_holdRound_15 : decode cX8_holdRound 15 = .ok (.lmul, 1) := by decide +kernel
theorem dX8_holdRound_16 : decode cX8_holdRound 16 = .ok (.ldc2_w 289, 3) := by decide +kernel
theorem dX8_holdRound_19 : decode cX8_holdRound 19 = .ok (.lrem, 1) := by decide +kernel
theorem dX8_holdRound_20 : decode cX8_holdRound 20 = .ok (.lstore 4, 2) := by decide +kernel
theorem dX8_holdRound_22 : decode cX8_holdRound 22 = .ok (.iconst 1, 1) := by decide +kernel
theorem dX8_holdRound_23 : decode cX8_holdRound 23 = .ok (.aload_n 0, 1) := by decide +kernel
theorem dX8_holdRound_24 : decode cX8_holdRound 24 = .ok (.getfield 40, 3) := by decide +kernel
theorem dX8_holdRound_27 : decode cX8_holdRound 27 = .ok (.iload_n 3, 1) := by decide +kernel
theorem dX8_holdRound_28 : decode cX8_holdRound 28 = .ok (.ldc 157, 2) := by decide +kernel
theorem dX8_holdRound_30 : decode cX8_holdRound 30 = .ok (.invokevirtual 240, 3) := by decide +kernel
theorem dX8_holdRound_33 : decode cX8_holdRound 33 = .ok (.invokestatic 291, 3) := by decide +kernel
theorem dX8_holdRound_36 : decode cX8_holdRound 36 = .ok (.istore 6, 2) := by decide +kernel
theorem dX8_holdRound_38 : decode cX8_holdRound 38 = .ok (.aload_n 0, 1) := by decide +kernel
theorem dX8_holdRound_39 : decode cX8_holdRound 39 = .ok (.getfield 40, 3) := by decide +kernel
theorem dX8_holdRound_42 : decode cX8_holdRound 42 = .ok (.iload_n 3, 1) := by decide +kernel
theorem dX8_holdRound_43 : decode cX8_holdRound 43 = .ok (.lload 4, 2) := by decide +kernel
theorem dX8_holdRound_45 : decode cX8_holdRound 45 = .ok (.iload 6, 2) := by decide +kernel
theorem dX8_holdRound_47 : decode cX8_holdRound 47 = .ok (.i2l, 1) := by decide +kernel
theorem dX8_holdRound_48 : decode cX8_holdRound 48 = .ok (.lrem, 1) := by decide +kernel
theorem dX8_holdRound_49 : decode cX8_holdRound 49 = .ok (.l2i, 1) := by decide +kernel
theorem dX8_holdRound_50 : decode cX8_holdRound 50 = .ok (.invokevirtual 296, 3) := by decide +kernel
theorem dX8_holdRound_53 : decode cX8_holdRound 53 = .ok (.istore 7, 2) := by decide +kernel
theorem dX8_holdRound_55 : decode cX8_holdRound 55 = .ok (.aload_n 0, 1) := by decide +kernel
theorem dX8_holdRound_56 : decode cX8_holdRound 56 = .ok (.getfield 33, 3) := by decide +kernel
theorem dX8_holdRound_59 : decode cX8_holdRound 59 = .ok (.aload_n 0, 1) := by decide +kernel
theorem dX8_holdRound_60 : decode cX8_holdRound 60 = .ok (.getfield 65, 3) := by decide +kernel
theorem dX8_holdRound_63 : decode cX8_holdRound 63 = .ok (.iload_n 1, 1) := by decide +kernel
theorem dX8_holdRound_64 : decode cX8_holdRound 64 = .ok (.invokevirtual 169, 3) := by decide +kernel
theorem dX8_holdRound_67 : decode cX8_holdRound 67 = .ok (.aload_n 0, 1) := by decide +kernel
theorem dX8_holdRound_68 : decode cX8_holdRound 68 = .ok (.getfield 65, 3) := by decide +kernel
theorem dX8_holdRound_71 : decode cX8_holdRound 71 = .ok (.iload_n 1, 1) := by decide +kernel
theorem dX8_holdRound_72 : decode cX8_holdRound 72 = .ok (.iload 7, 2) := by decide +kernel
theorem dX8_holdRound_74 : decode cX8_holdRound 74 = .ok (.aload_n 0, 1) := by decide +kernel
theorem dX8_holdRound_75 : decode cX8_holdRound 75 = .ok (.getfield 40, 3) := by decide +kernel
theorem dX8_holdRound_78 : decode cX8_holdRound 78 = .ok (.iload 7, 2) := by decide +kernel
theorem dX8_holdRound_80 : decode cX8_holdRound 80 = .ok (.invokevirtual 299, 3) := by decide +kernel
theorem dX8_holdRound_83 : decode cX8_holdRound 83 = .ok (.invokevirtual 302, 3) := by decide +kernel
theorem dX8_holdRound_86 : decode cX8_holdRound 86 = .ok (.iload 7, 2) := by decide +kernel
theorem dX8_holdRound_88 : decode cX8_holdRound 88 = .ok (.ireturn, 1) := by decide +kernel
theorem dX8_ofFraction_0 : decode cX8_ofFraction 0 = .ok (.iconst 1, 1) := by decide +kernel
theorem dX8_ofFraction_1 : decode cX8_ofFraction 1 = .ok (.istore_n 3, 1) := by decide +kernel
theorem dX8_ofFraction_2 : decode cX8_ofFraction 2 = .ok (.iconst 2, 1) := by decide +kernel
theorem dX8_ofFraction_3 : decode cX8_ofFraction 3 = .ok (.istore 4, 2) := by decide +kernel
theorem dX8_ofFraction_5 : decode cX8_ofFraction 5 = .ok (.iload 4, 2) := by decide +kernel
theorem dX8_ofFraction_7 : decode cX8_ofFraction 7 = .ok (.iload_n 1, 1) := by decide +kernel
theorem dX8_ofFraction_8 : decode cX8_ofFraction 8 = .ok (.if_icmp .gt 26, 3) := by decide +kernel
theorem dX8_ofFraction_11 : decode cX8_ofFraction 11 = .ok (.iload_n 0, 1) := by decide +kernel
theorem dX8_ofFraction_12 : decode cX8_ofFraction 12 = .ok (.iload 4, 2) := by decide +kernel
theorem dX8_ofFraction_14 : decode cX8_ofFraction 14 = .ok (.irem, 1) := by decide +kernel
theorem dX8_ofFraction_15 : decode cX8_ofFraction 15 = .ok (.ifCond .ne 13, 3) := by decide +kernel
theorem dX8_ofFraction_18 : decode cX8_ofFraction 18 = .ok (.iload_n 1, 1) := by decide +kernel
theorem dX8_ofFraction_19 : decode cX8_ofFraction 19 = .ok (.iload 4, 2) := by decide +kernel
theorem dX8_ofFraction_21 : decode cX8_ofFraction 21 = .ok (.irem, 1) := by decide +kernel
theorem dX8_ofFraction_22 : decode cX8_ofFraction 22 = .ok (.ifCond .ne 6, 3) := by decide +kernel
theorem dX8_ofFraction_25 : decode cX8_ofFraction 25 = .ok (.iload 4, 2) := by decide +kernel
theorem dX8_ofFraction_27 : decode cX8_ofFraction 27 = .ok (.istore_n 3, 1) := by decide +kernel
theorem dX8_ofFraction_28 : decode cX8_ofFraction 28 = .ok (.iinc 4 1, 3) := by decide +kernel
theorem dX8_ofFraction_31 : decode cX8_ofFraction 31 = .ok (.goto (-26), 3) := by decide +kernel
theorem dX8_ofFraction_34 : decode cX8_ofFraction 34 = .ok (.iload_n 2, 1) := by decide +kernel
theorem dX8_ofFraction_35 : decode cX8_ofFraction 35 = .ok (.ifCond .ne 9, 3) := by decide +kernel
theorem dX8_ofFraction_38 : decode cX8_ofFraction 38 = .ok (.iload_n 0, 1) := by decide +kernel
theorem dX8_ofFraction_39 : decode cX8_ofFraction 39 = .ok (.iload_n 3, 1) := by decide +kernel
theorem dX8_ofFraction_40 : decode cX8_ofFraction 40 = .ok (.idiv, 1) := by decide +kernel
theorem dX8_ofFraction_41 : decode cX8_ofFraction 41 = .ok (.goto 6, 3) := by decide +kernel
theorem dX8_ofFraction_44 : decode cX8_ofFraction 44 = .ok (.iload_n 1, 1) := by decide +kernel
theorem dX8_ofFraction_45 : decode cX8_ofFraction 45 = .ok (.iload_n 3, 1) := by decide +kernel
theorem dX8_ofFraction_46 : decode cX8_ofFraction 46 = .ok (.idiv, 1) := by decide +kernel
theorem dX8_ofFraction_47 : decode cX8_ofFraction 47 = .ok (.ireturn, 1) := by decide +kernel
