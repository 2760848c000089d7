theorem dX2_jump_23 : decode cX2_jump 23 = .ok (.invokestatic 95, 3) := by decide +kernel
theorem dX2_jump_26 : decode cX2_jump 26 = .ok (.invokevirtual 150, 3) := by decide +kernel
theorem dX2_jump_29 : decode cX2_jump 29 = .ok (.l2i, 1) := by decide +kernel
theorem dX2_jump_30 : decode cX2_jump 30 = .ok (.istore_n 2, 1) := by decide +kernel
theorem dX2_jump_31 : decode cX2_jump 31 = .ok (.iload_n 1, 1) := by decide +kernel
theorem dX2_jump_32 : decode cX2_jump 32 = .ok (.bipush 64, 2) := by decide +kernel
theorem dX2_jump_34 : decode cX2_jump 34 = .ok (.iand, 1) := by decide +kernel
theorem dX2_jump_35 : decode cX2_jump 35 = .ok (.ifCond .ne 20, 3) := by decide +kernel
theorem dX2_jump_38 : decode cX2_jump 38 = .ok (.aload_n 0, 1) := by decide +kernel
theorem dX2_jump_39 : decode cX2_jump 39 = .ok (.getfield 15, 3) := by decide +kernel
theorem dX2_jump_42 : decode cX2_jump 42 = .ok (.getstatic 46, 3) := by decide +kernel
theorem dX2_jump_45 : decode cX2_jump 45 = .ok (.aload_n 0, 1) := by decide +kernel
theorem dX2_jump_46 : decode cX2_jump 46 = .ok (.getfield 9, 3) := by decide +kernel
theorem dX2_jump_49 : decode cX2_jump 49 = .ok (.getfield 284, 3) := by decide +kernel
theorem dX2_jump_52 : decode cX2_jump 52 = .ok (.invokevirtual 249, 3) := by decide +kernel
theorem dX2_jump_55 : decode cX2_jump 55 = .ok (.aload_n 0, 1) := by decide +kernel
theorem dX2_jump_56 : decode cX2_jump 56 = .ok (.getfield 9, 3) := by decide +kernel
theorem dX2_jump_59 : decode cX2_jump 59 = .ok (.iload_n 2, 1) := by decide +kernel
theorem dX2_jump_60 : decode cX2_jump 60 = .ok (.putfield 284, 3) := by decide +kernel
theorem dX2_jump_63 : decode cX2_jump 63 = .ok (.return_, 1) := by decide +kernel
theorem dX2_lineFive_0 : decode cX2_lineFive 0 = .ok (.iload_n 1, 1) := by decide +kernel
theorem dX2_lineFive_1 : decode cX2_lineFive 1 = .ok (.invokestatic 98, 3) := by decide +kernel
theorem dX2_lineFive_4 : decode cX2_lineFive 4 = .ok (.iconst 3, 1) := by decide +kernel
theorem dX2_lineFive_5 : decode cX2_lineFive 5 = .ok (.if_icmp .eq 11, 3) := by decide +kernel
theorem dX2_lineFive_8 : decode cX2_lineFive 8 = .ok (.aload_n 0, 1) := by decide +kernel
theorem dX2_lineFive_9 : decode cX2_lineFive 9 = .ok (.iload_n 1, 1) := by decide +kernel
theorem dX2_lineFive_10 : decode cX2_lineFive 10 = .ok (.invokevirtual 287, 3) := by decide +kernel
theorem dX2_lineFive_13 : decode cX2_lineFive 13 = .ok (.goto 85, 3) := by decide +kernel
theorem dX2_lineFive_16 : decode cX2_lineFive 16 = .ok (.iload_n 1, 1) := by decide +kernel
theorem dX2_lineFive_17 : decode cX2_lineFive 17 = .ok (.invokestatic 95, 3) := by decide +kernel
theorem dX2_lineFive_20 : decode cX2_lineFive 20 = .ok (.iconst 3, 1) := by decide +kernel
theorem dX2_lineFive_21 : decode cX2_lineFive 21 = .ok (.iushr, 1) := by decide +kernel
theorem dX2_lineFive_22 : decode cX2_lineFive 22 = .ok (.iconst 1, 1) := by decide +kernel
theorem dX2_lineFive_23 : decode cX2_lineFive 23 = .ok (.if_icmp .ne 11, 3) := by decide +kernel
theorem dX2_lineFive_26 : decode cX2_lineFive 26 = .ok (.aload_n 0, 1) := by decide +kernel
theorem dX2_lineFive_27 : decode cX2_lineFive 27 = .ok (.iload_n 1, 1) := by decide +kernel
theorem dX2_lineFive_28 : decode cX2_lineFive 28 = .ok (.invokevirtual 290, 3) := by decide +kernel
theorem dX2_lineFive_31 : decode cX2_lineFive 31 = .ok (.goto 67, 3) := by decide +kernel
theorem dX2_lineFive_34 : decode cX2_lineFive 34 = .ok (.aload_n 0, 1) := by decide +kernel
theorem dX2_lineFive_35 : decode cX2_lineFive 35 = .ok (.sipush 509, 3) := by decide +kernel
theorem dX2_lineFive_38 : decode cX2_lineFive 38 = .ok (.iload_n 1, 1) := by decide +kernel
theorem dX2_lineFive_39 : decode cX2_lineFive 39 = .ok (.invokestatic 95, 3) := by decide +kernel
theorem dX2_lineFive_42 : decode cX2_lineFive 42 = .ok (.invokevirtual 146, 3) := by decide +kernel
theorem dX2_lineFive_45 : decode cX2_lineFive 45 = .ok (.ifCond .ne 53, 3) := by decide +kernel
theorem dX2_lineFive_48 : decode cX2_lineFive 48 = .ok (.aload_n 0, 1) := by decide +kernel
theorem dX2_lineFive_49 : decode cX2_lineFive 49 = .ok (.getfield 9, 3) := by decide +kernel
theorem dX2_lineFive_52 : decode cX2_lineFive 52 = .ok (.iload_n 1, 1) := by decide +kernel
theorem dX2_lineFive_53 : decode cX2_lineFive 53 = .ok (.bipush 8, 2) := by decide +kernel
theorem dX2_lineFive_55 : decode cX2_lineFive 55 = .ok (.iushr, 1) := by decide +kernel
theorem dX2_lineFive_56 : decode cX2_lineFive 56 = .ok (.bipush 15, 2) := by decide +kernel
theorem dX2_lineFive_58 : decode cX2_lineFive 58 = .ok (.iand, 1) := by decide +kernel
theorem dX2_lineFive_59 : decode cX2_lineFive 59 = .ok (.invokevirtual 293, 3) := by decide +kernel
theorem dX2_lineFive_62 : decode cX2_lineFive 62 = .ok (.istore_n 2, 1) := by decide +kernel
theorem dX2_lineFive_63 : decode cX2_lineFive 63 = .ok (.aload_n 0, 1) := by decide +kernel
theorem dX2_lineFive_64 : decode cX2_lineFive 64 = .ok (.getfield 15, 3) := by decide +kernel
theorem dX2_lineFive_67 : decode cX2_lineFive 67 = .ok (.getstatic 36, 3) := by decide +kernel
theorem dX2_lineFive_70 : decode cX2_lineFive 70 = .ok (.aload_n 0, 1) := by decide +kernel
theorem dX2_lineFive_71 : decode cX2_lineFive 71 = .ok (.getfield 15, 3) := by decide +kernel
theorem dX2_lineFive_74 : decode cX2_lineFive 74 = .ok (.getstatic 36, 3) := by decide +kernel
theorem dX2_lineFive_77 : decode cX2_lineFive 77 = .ok (.iload_n 1, 1) := by decide +kernel
theorem dX2_lineFive_78 : decode cX2_lineFive 78 = .ok (.invokestatic 95, 3) := by decide +kernel
theorem dX2_lineFive_81 : decode cX2_lineFive 81 = .ok (.invokevirtual 150, 3) := by decide +kernel
theorem dX2_lineFive_84 : decode cX2_lineFive 84 = .ok (.iload_n 2, 1) := by decide +kernel
theorem dX2_lineFive_85 : decode cX2_lineFive 85 = .ok (.ifCond .eq 9, 3) := by decide +kernel
theorem dX2_lineFive_88 : decode cX2_lineFive 88 = .ok (.sipush 255, 3) := by decide +kernel
theorem dX2_lineFive_91 : decode cX2_lineFive 91 = .ok (.goto 4, 3) := by decide +kernel
theorem dX2_lineFive_94 : decode cX2_lineFive 94 = .ok (.iconst 0, 1) := by decide +kernel
theorem dX2_lineFive_95 : decode cX2_lineFive 95 = .ok (.invokevirtual 161, 3) := by decide +kernel
theorem dX2_lineFive_98 : decode cX2_lineFive 98 = .ok (.return_, 1) := by decide +kernel
theorem dX2_countDown_0 : decode cX2_countDown 0 = .ok (.aload_n 0, 1) := by decide +kernel
theorem dX2_countDown_1 : decode cX2_countDown 1 = .ok (.getfield 9, 3) := by decide +kernel
theorem dX2_countDown_4 : decode cX2_countDown 4 = .ok (.getfield 284, 3) := by decide +kernel
theorem dX2_countDown_7 : decode cX2_countDown 7 = .ok (.istore_n 2, 1) := by decide +kernel
theorem dX2_countDown_8 : decode cX2_countDown 8 = .ok (.aload_n 0, 1) := by decide +kernel
theorem dX2_countDown_9 : decode cX2_countDown 9 = .ok (.getfield 15, 3) := by decide +kernel
theorem dX2_countDown_12 : decode cX2_countDown 12 = .ok (.invokevirtual 127, 3) := by decide +kernel
theorem dX2_countDown_15 : decode cX2_countDown 15 = .ok (.i2s, 1) := by decide +kernel
theorem dX2_countDown_16 : decode cX2_countDown 16 = .ok (.istore_n 3, 1) := by decide +kernel
theorem dX2_countDown_17 : decode cX2_countDown 17 = .ok (.aload_n 0, 1) := by decide +kernel
theorem dX2_countDown_18 : decode cX2_countDown 18 = .ok (.getfield 9, 3) := by decide +kernel
theorem dX2_countDown_21 : decode cX2_countDown 21 = .ok (.iload_n 1, 1) := by decide +kernel
theorem dX2_countDown_22 : decode cX2_countDown 22 = .ok (.bipush 8, 2) := by decide +kernel
theorem dX2_countDown_24 : decode cX2_countDown 24 = .ok (.iushr, 1) := by decide +kernel
theorem dX2_countDown_25 : decode cX2_countDown 25 = .ok (.bipush 15, 2) := by decide +kernel
theorem dX2_countDown_27 : decode cX2_countDown 27 = .ok (.iand, 1) := by decide +kernel
theorem dX2_countDown_28 : decode cX2_countDown 28 = .ok (.invokevirtual 293, 3) := by decide +kernel
theorem dX2_countDown_31 : decode cX2_countDown 31 = .ok (.ifCond .eq 4, 3) := by decide +kernel
theorem dX2_countDown_34 : decode cX2_countDown 34 = .ok (.return_, 1) := by decide +kernel
theorem dX2_countDown_35 : decode cX2_countDown 35 = .ok (.iload_n 1, 1) := by decide +kernel
theorem dX2_countDown_36 : decode cX2_countDown 36 = .ok (.invokestatic 121, 3) := by decide +kernel
theorem dX2_countDown_39 : decode cX2_countDown 39 = .ok (.invokestatic 256, 3) := by decide +kernel
theorem dX2_countDown_42 : decode cX2_countDown 42 = .ok (.lstore 4, 2) := by decide +kernel
theorem dX2_countDown_44 : decode cX2_countDown 44 = .ok (.aload_n 0, 1) := by decide +kernel
theorem dX2_countDown_45 : decode cX2_countDown 45 = .ok (.getfield 15, 3) := by decide +kernel
theorem dX2_countDown_48 : decode cX2_countDown 48 = .ok (.getstatic 49, 3) := by decide +kernel
theorem dX2_countDown_51 : decode cX2_countDown 51 = .ok (.lload 4, 2) := by decide +kernel
theorem dX2_countDown_53 : decode cX2_countDown 53 = .ok (.invokevirtual 154, 3) := by decide +kernel
theorem dX2_countDown_56 : decode cX2_countDown 56 = .ok (.iconst 1, 1) := by decide +kernel
theorem dX2_countDown_57 : decode cX2_countDown 57 = .ok (.isub, 1) := by decide +kernel
theorem dX2_countDown_58 : decode cX2_countDown 58 = .ok (.istore 6, 2) := by decide +kernel
theorem dX2_countDown_60 : decode cX2_countDown 60 = .ok (.aload_n 0, 1) := by decide +kernel
theorem dX2_countDown_61 : decode cX2_countDown 61 = .ok (.getfield 15, 3) := by decide +kernel
theorem dX2_countDown_64 : decode cX2_countDown 64 = .ok (.getstatic 49, 3) := by decide +kernel
theorem dX2_countDown_67 : decode cX2_countDown 67 = .ok (.lload 4, 2) := by decide +kernel
theorem dX2_countDown_69 : decode cX2_countDown 69 = .ok (.iload 6, 2) := by decide +kernel
theorem dX2_countDown_71 : decode cX2_countDown 71 = .ok (.invokevirtual 161, 3) := by decide +kernel
theorem dX2_countDown_74 : decode cX2_countDown 74 = .ok (.iload 6, 2) := by decide +kernel
theorem dX2_countDown_76 : decode cX2_countDown 76 = .ok (.iconst (-1), 1) := by decide +kernel
theorem dX2_countDown_77 : decode cX2_countDown 77 = .ok (.if_icmp .eq 13, 3) := by decide +kernel
theorem dX2_countDown_80 : decode cX2_countDown 80 = .ok (.aload_n 0, 1) := by decide +kernel
theorem dX2_countDown_81 : decode cX2_countDown 81 = .ok (.getfield 9, 3) := by decide +kernel
theorem dX2_countDown_84 : decode cX2_countDown 84 = .ok (.iload_n 2, 1) := by decide +kernel
theorem dX2_countDown_85 : decode cX2_countDown 85 = .ok (.iload_n 3, 1) := by decide +kernel
theorem dX2_countDown_86 : decode cX2_countDown 86 = .ok (.iadd, 1) := by decide +kernel
theorem dX2_countDown_87 : decode cX2_countDown 87 = .ok (.putfield 284, 3) := by decide +kernel
theorem dX2_countDown_90 : decode cX2_countDown 90 = .ok (.return_, 1) := by decide +kernel
theorem dX2_quick_0 : decode cX2_quick 0 = .ok (.iload_n 1, 1) := by decide +kernel
theorem dX2_quick_1 : decode cX2_quick 1 = .ok (.invokestatic 98, 3) := by decide +kernel
theorem dX2_quick_4 : decode cX2_quick 4 = .ok (.invokestatic 181, 3) := by decide +kernel
theorem dX2_quick_7 : decode cX2_quick 7 = .ok (.astore_n 2, 1) := by decide +kernel
theorem dX2_quick_8 : decode cX2_quick 8 = .ok (.aload_n 0, 1) := by decide +kernel
theorem dX2_quick_9 : decode cX2_quick 9 = .ok (.sipush 511, 3) := by decide +kernel
theorem dX2_quick_12 : decode cX2_quick 12 = .ok (.aload_n 2, 1) := by decide +kernel
theorem dX2_quick_13 : decode cX2_quick 13 = .ok (.invokestatic 196, 3) := by decide +kernel
theorem dX2_quick_16 : decode cX2_quick 16 = .ok (.iload_n 1, 1) := by decide +kernel
theorem dX2_quick_17 : decode cX2_quick 17 = .ok (.invokestatic 95, 3) := by decide +kernel
theorem dX2_quick_20 : decode cX2_quick 20 = .ok (.invokevirtual 146, 3) := by decide +kernel
theorem dX2_quick_23 : decode cX2_quick 23 = .ok (.ifCond .eq 4, 3) := by decide +kernel
theorem dX2_quick_26 : decode cX2_quick 26 = .ok (.return_, 1) := by decide +kernel
theorem dX2_quick_27 : decode cX2_quick 27 = .ok (.iload_n 1, 1) := by decide +kernel
theorem dX2_quick_28 : decode cX2_quick 28 = .ok (.invokestatic 101, 3) := by decide +kernel
theorem dX2_quick_31 : decode cX2_quick 31 = .ok (.ifCond .ne 8, 3) := by decide +kernel
theorem dX2_quick_34 : decode cX2_quick 34 = .ok (.bipush 8, 2) := by decide +kernel
theorem dX2_quick_36 : decode cX2_quick 36 = .ok (.goto 7, 3) := by decide +kernel
theorem dX2_quick_39 : decode cX2_quick 39 = .ok (.iload_n 1, 1) := by decide +kernel
theorem dX2_quick_40 : decode cX2_quick 40 = .ok (.invokestatic 101, 3) := by decide +kernel
theorem dX2_quick_43 : decode cX2_quick 43 = .ok (.istore_n 3, 1) := by decide +kernel
theorem dX2_quick_44 : decode cX2_quick 44 = .ok (.iload_n 1, 1) := by decide +kernel
theorem dX2_quick_45 : decode cX2_quick 45 = .ok (.invokestatic 95, 3) := by decide +kernel
theorem dX2_quick_48 : decode cX2_quick 48 = .ok (.iconst 3, 1) := by decide +kernel
theorem dX2_quick_49 : decode cX2_quick 49 = .ok (.iushr, 1) := by decide +kernel
theorem dX2_quick_50 : decode cX2_quick 50 = .ok (.iconst 1, 1) := by decide +kernel
theorem dX2_quick_51 : decode cX2_quick 51 = .ok (.if_icmp .ne 47, 3) := by decide +kernel
theorem dX2_quick_54 : decode cX2_quick 54 = .ok (.bipush 8, 2) := by decide +kernel
theorem dX2_quick_56 : decode cX2_quick 56 = .ok (.iload_n 1, 1) := by decide +kernel
theorem dX2_quick_57 : decode cX2_quick 57 = .ok (.invokestatic 121, 3) := by decide +kernel
theorem dX2_quick_60 : decode cX2_quick 60 = .ok (.iadd, 1) := by decide +kernel
theorem dX2_quick_61 : decode cX2_quick 61 = .ok (.istore 4, 2) := by decide +kernel
theorem dX2_quick_63 : decode cX2_quick 63 = .ok (.aload_n 0, 1) := by decide +kernel
theorem dX2_quick_64 : decode cX2_quick 64 = .ok (.getfield 9, 3) := by decide +kernel
theorem dX2_quick_67 : decode cX2_quick 67 = .ok (.iload 4, 2) := by decide +kernel
theorem dX2_quick_69 : decode cX2_quick 69 = .ok (.aload_n 0, 1) := by decide +kernel
theorem dX2_quick_70 : decode cX2_quick 70 = .ok (.getfield 9, 3) := by decide +kernel
theorem dX2_quick_73 : decode cX2_quick 73 = .ok (.iload 4, 2) := by decide +kernel
theorem dX2_quick_75 : decode cX2_quick 75 = .ok (.invokevirtual 124, 3) := by decide +kernel
theorem dX2_quick_78 : decode cX2_quick 78 = .ok (.iload_n 1, 1) := by decide +kernel
theorem dX2_quick_79 : decode cX2_quick 79 = .ok (.invokestatic 107, 3) := by decide +kernel
theorem dX2_quick_82 : decode cX2_quick 82 = .ok (.ifCond .eq 8, 3) := by decide +kernel
theorem dX2_quick_85 : decode cX2_quick 85 = .ok (.iload_n 3, 1) := by decide +kernel
theorem dX2_quick_86 : decode cX2_quick 86 = .ok (.ineg, 1) := by decide +kernel
theorem dX2_quick_87 : decode cX2_quick 87 = .ok (.goto 4, 3) := by decide +kernel
theorem dX2_quick_90 : decode cX2_quick 90 = .ok (.iload_n 3, 1) := by decide +kernel
theorem dX2_quick_91 : decode cX2_quick 91 = .ok (.iadd, 1) := by decide +kernel
theorem dX2_quick_92 : decode cX2_quick 92 = .ok (.invokevirtual 143, 3) := by decide +kernel
theorem dX2_quick_95 : decode cX2_quick 95 = .ok (.goto 62, 3) := by decide +kernel
theorem dX2_quick_98 : decode cX2_quick 98 = .ok (.aload_n 0, 1) := by decide +kernel
theorem dX2_quick_99 : decode cX2_quick 99 = .ok (.getfield 15, 3) := by decide +kernel
theorem dX2_quick_102 : decode cX2_quick 102 = .ok (.aload_n 2, 1) := by decide +kernel
theorem dX2_quick_103 : decode cX2_quick 103 = .ok (.iload_n 1, 1) := by decide +kernel
theorem dX2_quick_104 : decode cX2_quick 104 = .ok (.invokestatic 95, 3) := by decide +kernel
theorem dX2_quick_107 : decode cX2_quick 107 = .ok (.invokevirtual 150, 3) := by decide +kernel
theorem dX2_quick_110 : decode cX2_quick 110 = .ok (.lstore 4, 2) := by decide +kernel
theorem dX2_quick_112 : decode cX2_quick 112 = .ok (.aload_n 0, 1) := by decide +kernel
theorem dX2_quick_113 : decode cX2_quick 113 = .ok (.getfield 15, 3) := by decide +kernel
theorem dX2_quick_116 : decode cX2_quick 116 = .ok (.aload_n 2, 1) := by decide +kernel
theorem dX2_quick_117 : decode cX2_quick 117 = .ok (.lload 4, 2) := by decide +kernel
theorem dX2_quick_119 : decode cX2_quick 119 = .ok (.invokevirtual 154, 3) := by decide +kernel
theorem dX2_quick_122 : decode cX2_quick 122 = .ok (.istore 6, 2) := by decide +kernel
theorem dX2_quick_124 : decode cX2_quick 124 = .ok (.aload_n 0, 1) := by decide +kernel
theorem dX2_quick_125 : decode cX2_quick 125 = .ok (.getfield 15, 3) := by decide +kernel
theorem dX2_quick_128 : decode cX2_quick 128 = .ok (.aload_n 2, 1) := by decide +kernel
theorem dX2_quick_129 : decode cX2_quick 129 = .ok (.lload 4, 2) := by decide +kernel
theorem dX2_quick_131 : decode cX2_quick 131 = .ok (.aload_n 0, 1) := by decide +kernel
theorem dX2_quick_132 : decode cX2_quick 132 = .ok (.getfield 24, 3) := by decide +kernel
theorem dX2_quick_135 : decode cX2_quick 135 = .ok (.iload_n 1, 1) := by decide +kernel
theorem dX2_quick_136 : decode cX2_quick 136 = .ok (.invokestatic 107, 3) := by decide +kernel
theorem dX2_quick_139 : decode cX2_quick 139 = .ok (.ifCond .eq 7, 3) := by decide +kernel
theorem dX2_quick_142 : decode cX2_quick 142 = .ok (.iconst 2, 1) := by decide +kernel
theorem dX2_quick_143 : decode cX2_quick 143 = .ok (.goto 4, 3) := by decide +kernel
theorem dX2_quick_146 : decode cX2_quick 146 = .ok (.iconst 3, 1) := by decide +kernel
theorem dX2_quick_147 : decode cX2_quick 147 = .ok (.aload_n 2, 1) := by decide +kernel
theorem dX2_quick_148 : decode cX2_quick 148 = .ok (.iload 6, 2) := by decide +kernel
theorem dX2_quick_150 : decode cX2_quick 150 = .ok (.iload_n 3, 1) := by decide +kernel
theorem dX2_quick_151 : decode cX2_quick 151 = .ok (.invokevirtual 192, 3) := by decide +kernel
theorem dX2_quick_154 : decode cX2_quick 154 = .ok (.invokevirtual 161, 3) := by decide +kernel
theorem dX2_quick_157 : decode cX2_quick 157 = .ok (.return_, 1) := by decide +kernel
theorem dX2_branch_0 : decode cX2_branch 0 = .ok (.aload_n 0, 1) := by decide +kernel
theorem dX2_branch_1 : decode cX2_branch 1 = .ok (.getfield 9, 3) := by decide +kernel
theorem dX2_branch_4 : decode cX2_branch 4 = .ok (.getfield 284, 3) := by decide +kernel
theorem dX2_branch_7 : decode cX2_branch 7 = .ok (.istore_n 2, 1) := by decide +kernel
theorem dX2_branch_8 : decode cX2_branch 8 = .ok (.iload_n 1, 1) := by decide +kernel
theorem dX2_branch_9 : decode cX2_branch 9 = .ok (.i2b, 1) := by decide +kernel
theorem dX2_branch_10 : decode cX2_branch 10 = .ok (.istore_n 3, 1) := by decide +kernel
theorem dX2_branch_11 : decode cX2_branch 11 = .ok (.iload_n 3, 1) := by decide +kernel
theorem dX2_branch_12 : decode cX2_branch 12 = .ok (.ifCond .ne 12, 3) := by decide +kernel
theorem dX2_branch_15 : decode cX2_branch 15 = .ok (.aload_n 0, 1) := by decide +kernel
theorem dX2_branch_16 : decode cX2_branch 16 = .ok (.getfield 15, 3) := by decide +kernel
theorem dX2_branch_19 : decode cX2_branch 19 = .ok (.invokevirtual 127, 3) := by decide +kernel
theorem dX2_branch_22 : decode cX2_branch 22 = .ok (.i2s, 1) := by decide +kernel
theorem dX2_branch_23 : decode cX2_branch 23 = .ok (.istore_n 3, 1) := by decide +kernel
theorem dX2_branch_24 : decode cX2_branch 24 = .ok (.iload_n 1, 1) := by decide +kernel
theorem dX2_branch_25 : decode cX2_branch 25 = .ok (.bipush 8, 2) := by decide +kernel
theorem dX2_branch_27 : decode cX2_branch 27 = .ok (.iushr, 1) := by decide +kernel
theorem dX2_branch_28 : decode cX2_branch 28 = .ok (.bipush 15, 2) := by decide +kernel
theorem dX2_branch_30 : decode cX2_branch 30 = .ok (.iand, 1) := by decide +kernel
theorem dX2_branch_31 : decode cX2_branch 31 = .ok (.istore 4, 2) := by decide +kernel
theorem dX2_branch_33 : decode cX2_branch 33 = .ok (.iload 4, 2) := by decide +kernel
theorem dX2_branch_35 : decode cX2_branch 35 = .ok (.iconst 1, 1) := by decide +kernel
theorem dX2_branch_36 : decode cX2_branch 36 = .ok (.if_icmp .ne 20, 3) := by decide +kernel
theorem dX2_branch_39 : decode cX2_branch 39 = .ok (.aload_n 0, 1) := by decide +kernel
theorem dX2_branch_40 : decode cX2_branch 40 = .ok (.getfield 15, 3) := by decide +kernel
theorem dX2_branch_43 : decode cX2_branch 43 = .ok (.getstatic 46, 3) := by decide +kernel
theorem dX2_branch_46 : decode cX2_branch 46 = .ok (.aload_n 0, 1) := by decide +kernel
theorem dX2_branch_47 : decode cX2_branch 47 = .ok (.getfield 9, 3) := by decide +kernel
theorem dX2_branch_50 : decode cX2_branch 50 = .ok (.getfield 284, 3) := by decide +kernel
theorem dX2_branch_53 : decode cX2_branch 53 = .ok (.invokevirtual 249, 3) := by decide +kernel
theorem dX2_branch_56 : decode cX2_branch 56 = .ok (.iload 4, 2) := by decide +kernel
theorem dX2_branch_58 : decode cX2_branch 58 = .ok (.iconst 1, 1) := by decide +kernel
theorem dX2_branch_59 : decode cX2_branch 59 = .ok (.if_icmp .eq 15, 3) := by decide +kernel
theorem dX2_branch_62 : decode cX2_branch 62 = .ok (.aload_n 0, 1) := by decide +kernel
theorem dX2_branch_63 : decode cX2_branch 63 = .ok (.getfield 9, 3) := by decide +kernel
theorem dX2_branch_66 : decode cX2_branch 66 = .ok (.iload 4, 2) := by decide +kernel
theorem dX2_branch_68 : decode cX2_branch 68 = .ok (.invokevirtual 293, 3) := by decide +kernel
theorem dX2_branch_71 : decode cX2_branch 71 = .ok (.ifCond .eq 13, 3) := by decide +kernel
theorem dX2_branch_74 : decode cX2_branch 74 = .ok (.aload_n 0, 1) := by decide +kernel
theorem dX2_branch_75 : decode cX2_branch 75 = .ok (.getfield 9, 3) := by decide +kernel
theorem dX2_branch_78 : decode cX2_branch 78 = .ok (.iload_n 2, 1) := by decide +kernel
theorem dX2_branch_79 : decode cX2_branch 79 = .ok (.iload_n 3, 1) := by decide +kernel
theorem dX2_branch_80 : decode cX2_branch 80 = .ok (.iadd, 1) := by decide +kernel
theorem dX2_branch_81 : decode cX2_branch 81 = .ok (.putfield 284, 3) := by decide +kernel
theorem dX2_branch_84 : decode cX2_branch 84 = .ok (.return_, 1) := by decide +kernel
theorem dX2_moveQuick_0 : decode cX2_moveQuick 0 = .ok (.iload_n 1, 1) := by decide +kernel
theorem dX2_moveQuick_1 : decode cX2_moveQuick 1 = .ok (.invokestatic 107, 3) := by decide +kernel
theorem dX2_moveQuick_4 : decode cX2_moveQuick 4 = .ok (.ifCond .eq 10, 3) := by decide +kernel
theorem dX2_moveQuick_7 : decode cX2_moveQuick 7 = .ok (.aload_n 0, 1) := by decide +kernel
theorem dX2_moveQuick_8 : decode cX2_moveQuick 8 = .ok (.invokevirtual 178, 3) := by decide +kernel
theorem dX2_moveQuick_11 : decode cX2_moveQuick 11 = .ok (.goto 26, 3) := by decide +kernel
theorem dX2_moveQuick_14 : decode cX2_moveQuick 14 = .ok (.aload_n 0, 1) := by decide +kernel
theorem dX2_moveQuick_15 : decode cX2_moveQuick 15 = .ok (.getfield 9, 3) := by decide +kernel
theorem dX2_moveQuick_18 : decode cX2_moveQuick 18 = .ok (.iload_n 1, 1) := by decide +kernel
theorem dX2_moveQuick_19 : decode cX2_moveQuick 19 = .ok (.invokestatic 101, 3) := by decide +kernel
theorem dX2_moveQuick_22 : decode cX2_moveQuick 22 = .ok (.aload_n 0, 1) := by decide +kernel
theorem dX2_moveQuick_23 : decode cX2_moveQuick 23 = .ok (.getfield 24, 3) := by decide +kernel
theorem dX2_moveQuick_26 : decode cX2_moveQuick 26 = .ok (.getstatic 46, 3) := by decide +kernel
theorem dX2_moveQuick_29 : decode cX2_moveQuick 29 = .ok (.iload_n 1, 1) := by decide +kernel
theorem dX2_moveQuick_30 : decode cX2_moveQuick 30 = .ok (.i2b, 1) := by decide +kernel
theorem dX2_moveQuick_31 : decode cX2_moveQuick 31 = .ok (.invokevirtual 203, 3) := by decide +kernel
theorem dX2_moveQuick_34 : decode cX2_moveQuick 34 = .ok (.invokevirtual 143, 3) := by decide +kernel
theorem dX2_moveQuick_37 : decode cX2_moveQuick 37 = .ok (.return_, 1) := by decide +kernel
theorem dX2_lineEight_0 : decode cX2_lineEight 0 = .ok (.iload_n 1, 1) := by decide +kernel
theorem dX2_lineEight_1 : decode cX2_lineEight 1 = .ok (.invokestatic 98, 3) := by decide +kernel
theorem dX2_lineEight_4 : decode cX2_lineEight 4 = .ok (.iconst 3, 1) := by decide +kernel
theorem dX2_lineEight_5 : decode cX2_lineEight 5 = .ok (.if_icmp .ne 15, 3) := by decide +kernel
theorem dX2_lineEight_8 : decode cX2_lineEight 8 = .ok (.aload_n 0, 1) := by decide +kernel
theorem dX2_lineEight_9 : decode cX2_lineEight 9 = .ok (.iload_n 1, 1) := by decide +kernel
theorem dX2_lineEight_10 : decode cX2_lineEight 10 = .ok (.iload_n 1, 1) := by decide +kernel
theorem dX2_lineEight_11 : decode cX2_lineEight 11 = .ok (.invokestatic 107, 3) := by decide +kernel
theorem dX2_lineEight_14 : decode cX2_lineEight 14 = .ok (.invokevirtual 296, 3) := by decide +kernel
theorem dX2_lineEight_17 : decode cX2_lineEight 17 = .ok (.goto 45, 3) := by decide +kernel
theorem dX2_lineEight_20 : decode cX2_lineEight 20 = .ok (.iload_n 1, 1) := by decide +kernel
theorem dX2_lineEight_21 : decode cX2_lineEight 21 = .ok (.sipush 496, 3) := by decide +kernel
theorem dX2_lineEight_24 : decode cX2_lineEight 24 = .ok (.iand, 1) := by decide +kernel
theorem dX2_lineEight_25 : decode cX2_lineEight 25 = .ok (.sipush 256, 3) := by decide +kernel
theorem dX2_lineEight_28 : decode cX2_lineEight 28 = .ok (.if_icmp .ne 12, 3) := by decide +kernel
theorem dX2_lineEight_31 : decode cX2_lineEight 31 = .ok (.aload_n 0, 1) := by decide +kernel
theorem dX2_lineEight_32 : decode cX2_lineEight 32 = .ok (.iload_n 1, 1) := by decide +kernel
theorem dX2_lineEight_33 : decode cX2_lineEight 33 = .ok (.iconst 2, 1) := by decide +kernel
theorem dX2_lineEight_34 : decode cX2_lineEight 34 = .ok (.invokevirtual 299, 3) := by decide +kernel
theorem dX2_lineEight_37 : decode cX2_lineEight 37 = .ok (.goto 25, 3) := by decide +kernel
theorem dX2_lineEight_40 : decode cX2_lineEight 40 = .ok (.aload_n 0, 1) := by decide +kernel
theorem dX2_lineEight_41 : decode cX2_lineEight 41 = .ok (.iload_n 1, 1) := by decide +kernel
theorem dX2_lineEight_42 : decode cX2_lineEight 42 = .ok (.iconst 0, 1) := by decide +kernel
theorem dX2_lineEight_43 : decode cX2_lineEight 43 = .ok (.iload_n 1, 1) := by decide +kernel
theorem dX2_lineEight_44 : decode cX2_lineEight 44 = .ok (.invokestatic 107, 3) := by decide +kernel
theorem dX2_lineEight_47 : decode cX2_lineEight 47 = .ok (.ifCond .eq 9, 3) := by decide +kernel
theorem dX2_lineEight_50 : decode cX2_lineEight 50 = .ok (.sipush 508, 3) := by decide +kernel
theorem dX2_lineEight_53 : decode cX2_lineEight 53 = .ok (.goto 6, 3) := by decide +kernel
theorem dX2_lineEight_56 : decode cX2_lineEight 56 = .ok (.sipush 4093, 3) := by decide +kernel
theorem dX2_lineEight_59 : decode cX2_lineEight 59 = .ok (.invokevirtual 302, 3) := by decide +kernel
theorem dX2_lineEight_62 : decode cX2_lineEight 62 = .ok (.return_, 1) := by decide +kernel
theorem dX2_lineEleven_0 : decode cX2_lineEleven 0 = .ok (.iload_n 1, 1) := by decide +kernel
theorem dX2_lineEleven_1 : decode cX2_lineEleven 1 = .ok (.invokestatic 98, 3) := by decide +kernel
theorem dX2_lineEleven_4 : decode cX2_lineEleven 4 = .ok (.iconst 3, 1) := by decide +kernel
theorem dX2_lineEleven_5 : decode cX2_lineEleven 5 = .ok (.if_icmp .ne 13, 3) := by decide +kernel
theorem dX2_lineEleven_8 : decode cX2_lineEleven 8 = .ok (.aload_n 0, 1) := by decide +kernel
theorem dX2_lineEleven_9 : decode cX2_lineEleven 9 = .ok (.iload_n 1, 1) := by decide +kernel
theorem dX2_lineEleven_10 : decode cX2_lineEleven 10 = .ok (.bipush 6, 2) := by decide +kernel
theorem dX2_lineEleven_12 : decode cX2_lineEleven 12 = .ok (.invokevirtual 306, 3) := by decide +kernel
theorem dX2_lineEleven_15 : decode cX2_lineEleven 15 = .ok (.goto 45, 3) := by decide +kernel
theorem dX2_lineEleven_18 : decode cX2_lineEleven 18 = .ok (.iload_n 1, 1) := by decide +kernel
theorem dX2_lineEleven_19 : decode cX2_lineEleven 19 = .ok (.invokestatic 107, 3) := by decide +kernel
theorem dX2_lineEleven_22 : decode cX2_lineEleven 22 = .ok (.ifCond .ne 11, 3) := by decide +kernel
theorem dX2_lineEleven_25 : decode cX2_lineEleven 25 = .ok (.aload_n 0, 1) := by decide +kernel
theorem dX2_lineEleven_26 : decode cX2_lineEleven 26 = .ok (.iload_n 1, 1) := by decide +kernel
theorem dX2_lineEleven_27 : decode cX2_lineEleven 27 = .ok (.invokevirtual 309, 3) := by decide +kernel
theorem dX2_lineEleven_30 : decode cX2_lineEleven 30 = .ok (.goto 30, 3) := by decide +kernel
theorem dX2_lineEleven_33 : decode cX2_lineEleven 33 = .ok (.iload_n 1, 1) := by decide +kernel
theorem dX2_lineEleven_34 : decode cX2_lineEleven 34 = .ok (.invokestatic 95, 3) := by decide +kernel
theorem dX2_lineEleven_37 : decode cX2_lineEleven 37 = .ok (.iconst 3, 1) := by decide +kernel
theorem dX2_lineEleven_38 : decode cX2_lineEleven 38 = .ok (.iushr, 1) := by decide +kernel
theorem dX2_lineEleven_39 : decode cX2_lineEleven 39 = .ok (.iconst 1, 1) := by decide +kernel
theorem dX2_lineEleven_40 : decode cX2_lineEleven 40 = .ok (.if_icmp .ne 11, 3) := by decide +kernel
theorem dX2_lineEleven_43 : decode cX2_lineEleven 43 = .ok (.aload_n 0, 1) := by decide +kernel
theorem dX2_lineEleven_44 : decode cX2_lineEleven 44 = .ok (.iload_n 1, 1) := by decide +kernel
theorem dX2_lineEleven_45 : decode cX2_lineEleven 45 = .ok (.invokevirtual 311, 3) := by decide +kernel
theorem dX2_lineEleven_48 : decode cX2_lineEleven 48 = .ok (.goto 12, 3) := by decide +kernel
theorem dX2_lineEleven_51 : decode cX2_lineEleven 51 = .ok (.aload_n 0, 1) := by decide +kernel
theorem dX2_lineEleven_52 : decode cX2_lineEleven 52 = .ok (.iload_n 1, 1) := by decide +kernel
theorem dX2_lineEleven_53 : decode cX2_lineEleven 53 = .ok (.iconst 5, 1) := by decide +kernel
theorem dX2_lineEleven_54 : decode cX2_lineEleven 54 = .ok (.sipush 509, 3) := by decide +kernel
theorem dX2_lineEleven_57 : decode cX2_lineEleven 57 = .ok (.invokevirtual 302, 3) := by decide +kernel
theorem dX2_lineEleven_60 : decode cX2_lineEleven 60 = .ok (.return_, 1) := by decide +kernel
theorem dX2_lineTwelve_0 : decode cX2_lineTwelve 0 = .ok (.iload_n 1, 1) := by decide +kernel
theorem dX2_lineTwelve_1 : decode cX2_lineTwelve 1 = .ok (.invokestatic 98, 3) := by decide +kernel
theorem dX2_lineTwelve_4 : decode cX2_lineTwelve 4 = .ok (.iconst 3, 1) := by decide +kernel
theorem dX2_lineTwelve_5 : decode cX2_lineTwelve 5 = .ok (.if_icmp .ne 13, 3) := by decide +kernel
theorem dX2_lineTwelve_8 : decode cX2_lineTwelve 8 = .ok (.aload_n 0, 1) := by decide +kernel
theorem dX2_lineTwelve_9 : decode cX2_lineTwelve 9 = .ok (.iload_n 1, 1) := by decide +kernel
theorem dX2_lineTwelve_10 : decode cX2_lineTwelve 10 = .ok (.iload_n 1, 1) := by decide +kernel
theorem dX2_lineTwelve_11 : decode cX2_lineTwelve 11 = .ok (.invokestatic 107, 3) := by decide +kernel
theorem dX2_lineTwelve_14 : decode cX2_lineTwelve 14 = .ok (.invokevirtual 314, 3) := by decide +kernel
theorem dX2_lineTwelve_17 : decode cX2_lineTwelve 17 = .ok (.return_, 1) := by decide +kernel
theorem dX2_lineTwelve_18 : decode cX2_lineTwelve 18 = .ok (.iload_n 1, 1) := by decide +kernel
theorem dX2_lineTwelve_19 : decode cX2_lineTwelve 19 = .ok (.sipush 504, 3) := by decide +kernel
theorem dX2_lineTwelve_22 : decode cX2_lineTwelve 22 = .ok (.iand, 1) := by decide +kernel
theorem dX2_lineTwelve_23 : decode cX2_lineTwelve 23 = .ok (.lookupswitch 112 #[(256, 49), (264, 49), (320, 58), (328, 73), (392, 94)], 49) := by decide +kernel
theorem dX2_lineTwelve_72 : decode cX2_lineTwelve 72 = .ok (.aload_n 0, 1) := by decide +kernel
theorem dX2_lineTwelve_73 : decode cX2_lineTwelve 73 = .ok (.iload_n 1, 1) := by decide +kernel
theorem dX2_lineTwelve_74 : decode cX2_lineTwelve 74 = .ok (.iconst 3, 1) := by decide +kernel
theorem dX2_lineTwelve_75 : decode cX2_lineTwelve 75 = .ok (.invokevirtual 299, 3) := by decide +kernel
theorem dX2_lineTwelve_78 : decode cX2_lineTwelve 78 = .ok (.goto 79, 3) := by decide +kernel
theorem dX2_lineTwelve_81 : decode cX2_lineTwelve 81 = .ok (.aload_n 0, 1) := by decide +kernel
theorem dX2_lineTwelve_82 : decode cX2_lineTwelve 82 = .ok (.iload_n 1, 1) := by decide +kernel
theorem dX2_lineTwelve_83 : decode cX2_lineTwelve 83 = .ok (.invokestatic 101, 3) := by decide +kernel
theorem dX2_lineTwelve_86 : decode cX2_lineTwelve 86 = .ok (.iload_n 1, 1) := by decide +kernel
theorem dX2_lineTwelve_87 : decode cX2_lineTwelve 87 = .ok (.invokestatic 121, 3) := by decide +kernel
theorem dX2_lineTwelve_90 : decode cX2_lineTwelve 90 = .ok (.invokevirtual 317, 3) := by decide +kernel
theorem dX2_lineTwelve_93 : decode cX2_lineTwelve 93 = .ok (.goto 64, 3) := by decide +kernel
theorem dX2_lineTwelve_96 : decode cX2_lineTwelve 96 = .ok (.aload_n 0, 1) := by decide +kernel
theorem dX2_lineTwelve_97 : decode cX2_lineTwelve 97 = .ok (.bipush 8, 2) := by decide +kernel
theorem dX2_lineTwelve_99 : decode cX2_lineTwelve 99 = .ok (.iload_n 1, 1) := by decide +kernel
theorem dX2_lineTwelve_100 : decode cX2_lineTwelve 100 = .ok (.invokestatic 101, 3) := by decide +kernel
theorem dX2_lineTwelve_103 : decode cX2_lineTwelve 103 = .ok (.iadd, 1) := by decide +kernel
theorem dX2_lineTwelve_104 : decode cX2_lineTwelve 104 = .ok (.bipush 8, 2) := by decide +kernel
theorem dX2_lineTwelve_106 : decode cX2_lineTwelve 106 = .ok (.iload_n 1, 1) := by decide +kernel
theorem dX2_lineTwelve_107 : decode cX2_lineTwelve 107 = .ok (.invokestatic 121, 3) := by decide +kernel
theorem dX2_lineTwelve_110 : decode cX2_lineTwelve 110 = .ok (.iadd, 1) := by decide +kernel
theorem dX2_lineTwelve_111 : decode cX2_lineTwelve 111 = .ok (.invokevirtual 317, 3) := by decide +kernel
theorem dX2_lineTwelve_114 : decode cX2_lineTwelve 114 = .ok (.goto 43, 3) := by decide +kernel
theorem dX2_lineTwelve_117 : decode cX2_lineTwelve 117 = .ok (.aload_n 0, 1) := by decide +kernel
theorem dX2_lineTwelve_118 : decode cX2_lineTwelve 118 = .ok (.iload_n 1, 1) := by decide +kernel
theorem dX2_lineTwelve_119 : decode cX2_lineTwelve 119 = .ok (.invokestatic 101, 3) := by decide +kernel
theorem dX2_lineTwelve_122 : decode cX2_lineTwelve 122 = .ok (.bipush 8, 2) := by decide +kernel
theorem dX2_lineTwelve_124 : decode cX2_lineTwelve 124 = .ok (.iload_n 1, 1) := by decide +kernel
theorem dX2_lineTwelve_125 : decode cX2_lineTwelve 125 = .ok (.invokestatic 121, 3) := by decide +kernel
theorem dX2_lineTwelve_128 : decode cX2_lineTwelve 128 = .ok (.iadd, 1) := by decide +kernel
theorem dX2_lineTwelve_129 : decode cX2_lineTwelve 129 = .ok (.invokevirtual 317, 3) := by decide +kernel
theorem dX2_lineTwelve_132 : decode cX2_lineTwelve 132 = .ok (.goto 25, 3) := by decide +kernel
theorem dX2_lineTwelve_135 : decode cX2_lineTwelve 135 = .ok (.aload_n 0, 1) := by decide +kernel
theorem dX2_lineTwelve_136 : decode cX2_lineTwelve 136 = .ok (.iload_n 1, 1) := by decide +kernel
theorem dX2_lineTwelve_137 : decode cX2_lineTwelve 137 = .ok (.iconst 1, 1) := by decide +kernel
theorem dX2_lineTwelve_138 : decode cX2_lineTwelve 138 = .ok (.iload_n 1, 1) := by decide +kernel
theorem dX2_lineTwelve_139 : decode cX2_lineTwelve 139 = .ok (.invokestatic 107, 3) := by decide +kernel
theorem dX2_lineTwelve_142 : decode cX2_lineTwelve 142 = .ok (.ifCond .eq 9, 3) := by decide +kernel
theorem dX2_lineTwelve_145 : decode cX2_lineTwelve 145 = .ok (.sipush 508, 3) := by decide +kernel
theorem dX2_lineTwelve_148 : decode cX2_lineTwelve 148 = .ok (.goto 6, 3) := by decide +kernel
theorem dX2_lineTwelve_151 : decode cX2_lineTwelve 151 = .ok (.sipush 4093, 3) := by decide +kernel
theorem dX2_lineTwelve_154 : decode cX2_lineTwelve 154 = .ok (.invokevirtual 302, 3) := by decide +kernel
theorem dX2_lineTwelve_157 : decode cX2_lineTwelve 157 = .ok (.return_, 1) := by decide +kernel
theorem dX2_sums_0 : decode cX2_sums 0 = .ok (.iload_n 1, 1) := by decide +kernel
theorem dX2_sums_1 : decode cX2_sums 1 = .ok (.invokestatic 98, 3) := by decide +kernel
theorem dX2_sums_4 : decode cX2_sums 4 = .ok (.iconst 3, 1) := by decide +kernel
theorem dX2_sums_5 : decode cX2_sums 5 = .ok (.if_icmp .ne 12, 3) := by decide +kernel
theorem dX2_sums_8 : decode cX2_sums 8 = .ok (.aload_n 0, 1) := by decide +kernel
theorem dX2_sums_9 : decode cX2_sums 9 = .ok (.iload_n 1, 1) := by decide +kernel
theorem dX2_sums_10 : decode cX2_sums 10 = .ok (.iload_n 2, 1) := by decide +kernel
theorem dX2_sums_11 : decode cX2_sums 11 = .ok (.invokevirtual 306, 3) := by decide +kernel
theorem dX2_sums_14 : decode cX2_sums 14 = .ok (.goto 45, 3) := by decide +kernel
theorem dX2_sums_17 : decode cX2_sums 17 = .ok (.iload_n 1, 1) := by decide +kernel
theorem dX2_sums_18 : decode cX2_sums 18 = .ok (.sipush 304, 3) := by decide +kernel
theorem dX2_sums_21 : decode cX2_sums 21 = .ok (.iand, 1) := by decide +kernel
theorem dX2_sums_22 : decode cX2_sums 22 = .ok (.sipush 256, 3) := by decide +kernel
theorem dX2_sums_25 : decode cX2_sums 25 = .ok (.if_icmp .ne 12, 3) := by decide +kernel
theorem dX2_sums_28 : decode cX2_sums 28 = .ok (.aload_n 0, 1) := by decide +kernel
theorem dX2_sums_29 : decode cX2_sums 29 = .ok (.iload_n 1, 1) := by decide +kernel
theorem dX2_sums_30 : decode cX2_sums 30 = .ok (.iload_n 2, 1) := by decide +kernel
theorem dX2_sums_31 : decode cX2_sums 31 = .ok (.invokevirtual 320, 3) := by decide +kernel
theorem dX2_sums_34 : decode cX2_sums 34 = .ok (.goto 25, 3) := by decide +kernel
theorem dX2_sums_37 : decode cX2_sums 37 = .ok (.aload_n 0, 1) := by decide +kernel
theorem dX2_sums_38 : decode cX2_sums 38 = .ok (.iload_n 1, 1) := by decide +kernel
theorem dX2_sums_39 : decode cX2_sums 39 = .ok (.iload_n 2, 1) := by decide +kernel
theorem dX2_sums_40 : decode cX2_sums 40 = .ok (.iload_n 1, 1) := by decide +kernel
theorem dX2_sums_41 : decode cX2_sums 41 = .ok (.invokestatic 107, 3) := by decide +kernel
theorem dX2_sums_44 : decode cX2_sums 44 = .ok (.ifCond .eq 9, 3) := by decide +kernel
theorem dX2_sums_47 : decode cX2_sums 47 = .ok (.sipush 508, 3) := by decide +kernel
theorem dX2_sums_50 : decode cX2_sums 50 = .ok (.goto 6, 3) := by decide +kernel
theorem dX2_sums_53 : decode cX2_sums 53 = .ok (.sipush 4095, 3) := by decide +kernel
theorem dX2_sums_56 : decode cX2_sums 56 = .ok (.invokevirtual 302, 3) := by decide +kernel
theorem dX2_sums_59 : decode cX2_sums 59 = .ok (.return_, 1) := by decide +kernel
theorem dX2_combine_0 : decode cX2_combine 0 = .ok (.iload_n 1, 1) := by decide +kernel
theorem dX2_combine_1 : decode cX2_combine 1 = .ok (.invokestatic 98, 3) := by decide +kernel
theorem dX2_combine_4 : decode cX2_combine 4 = .ok (.invokestatic 181, 3) := by decide +kernel
theorem dX2_combine_7 : decode cX2_combine 7 = .ok (.astore 4, 2) := by decide +kernel
theorem dX2_combine_9 : decode cX2_combine 9 = .ok (.aload_n 0, 1) := by decide +kernel
theorem dX2_combine_10 : decode cX2_combine 10 = .ok (.iload_n 3, 1) := by decide +kernel
theorem dX2_combine_11 : decode cX2_combine 11 = .ok (.aload 4, 2) := by decide +kernel
theorem dX2_combine_13 : decode cX2_combine 13 = .ok (.invokestatic 196, 3) := by decide +kernel
theorem dX2_combine_16 : decode cX2_combine 16 = .ok (.iload_n 1, 1) := by decide +kernel
theorem dX2_combine_17 : decode cX2_combine 17 = .ok (.invokestatic 95, 3) := by decide +kernel
theorem dX2_combine_20 : decode cX2_combine 20 = .ok (.invokevirtual 146, 3) := by decide +kernel
theorem dX2_combine_23 : decode cX2_combine 23 = .ok (.ifCond .eq 4, 3) := by decide +kernel
theorem dX2_combine_26 : decode cX2_combine 26 = .ok (.return_, 1) := by decide +kernel
theorem dX2_combine_27 : decode cX2_combine 27 = .ok (.aload_n 0, 1) := by decide +kernel
theorem dX2_combine_28 : decode cX2_combine 28 = .ok (.getfield 15, 3) := by decide +kernel
theorem dX2_combine_31 : decode cX2_combine 31 = .ok (.aload 4, 2) := by decide +kernel
theorem dX2_combine_33 : decode cX2_combine 33 = .ok (.iload_n 1, 1) := by decide +kernel
theorem dX2_combine_34 : decode cX2_combine 34 = .ok (.invokestatic 95, 3) := by decide +kernel
theorem dX2_combine_37 : decode cX2_combine 37 = .ok (.invokevirtual 150, 3) := by decide +kernel
theorem dX2_combine_40 : decode cX2_combine 40 = .ok (.lstore 5, 2) := by decide +kernel
theorem dX2_combine_42 : decode cX2_combine 42 = .ok (.iload_n 1, 1) := by decide +kernel
theorem dX2_combine_43 : decode cX2_combine 43 = .ok (.invokestatic 101, 3) := by decide +kernel
theorem dX2_combine_46 : decode cX2_combine 46 = .ok (.invokestatic 256, 3) := by decide +kernel
theorem dX2_combine_49 : decode cX2_combine 49 = .ok (.lstore 7, 2) := by decide +kernel
theorem dX2_combine_51 : decode cX2_combine 51 = .ok (.aload_n 0, 1) := by decide +kernel
theorem dX2_combine_52 : decode cX2_combine 52 = .ok (.getfield 15, 3) := by decide +kernel
theorem dX2_combine_55 : decode cX2_combine 55 = .ok (.aload 4, 2) := by decide +kernel
theorem dX2_combine_57 : decode cX2_combine 57 = .ok (.lload 5, 2) := by decide +kernel
theorem dX2_combine_59 : decode cX2_combine 59 = .ok (.invokevirtual 154, 3) := by decide +kernel
theorem dX2_combine_62 : decode cX2_combine 62 = .ok (.istore 9, 2) := by decide +kernel
theorem dX2_combine_64 : decode cX2_combine 64 = .ok (.aload_n 0, 1) := by decide +kernel
theorem dX2_combine_65 : decode cX2_combine 65 = .ok (.getfield 15, 3) := by decide +kernel
theorem dX2_combine_68 : decode cX2_combine 68 = .ok (.aload 4, 2) := by decide +kernel
theorem dX2_combine_70 : decode cX2_combine 70 = .ok (.lload 7, 2) := by decide +kernel
theorem dX2_combine_72 : decode cX2_combine 72 = .ok (.invokevirtual 154, 3) := by decide +kernel
theorem dX2_combine_75 : decode cX2_combine 75 = .ok (.istore 10, 2) := by decide +kernel
theorem dX2_combine_77 : decode cX2_combine 77 = .ok (.iload_n 1, 1) := by decide +kernel
theorem dX2_combine_78 : decode cX2_combine 78 = .ok (.invokestatic 107, 3) := by decide +kernel
theorem dX2_combine_81 : decode cX2_combine 81 = .ok (.ifCond .eq 31, 3) := by decide +kernel
theorem dX2_combine_84 : decode cX2_combine 84 = .ok (.aload_n 0, 1) := by decide +kernel
theorem dX2_combine_85 : decode cX2_combine 85 = .ok (.getfield 15, 3) := by decide +kernel
theorem dX2_combine_88 : decode cX2_combine 88 = .ok (.aload 4, 2) := by decide +kernel
theorem dX2_combine_90 : decode cX2_combine 90 = .ok (.lload 5, 2) := by decide +kernel
theorem dX2_combine_92 : decode cX2_combine 92 = .ok (.aload_n 0, 1) := by decide +kernel
theorem dX2_combine_93 : decode cX2_combine 93 = .ok (.getfield 24, 3) := by decide +kernel
theorem dX2_combine_96 : decode cX2_combine 96 = .ok (.iload_n 2, 1) := by decide +kernel
theorem dX2_combine_97 : decode cX2_combine 97 = .ok (.aload 4, 2) := by decide +kernel
theorem dX2_combine_99 : decode cX2_combine 99 = .ok (.iload 9, 2) := by decide +kernel
theorem dX2_combine_101 : decode cX2_combine 101 = .ok (.iload 10, 2) := by decide +kernel
theorem dX2_combine_103 : decode cX2_combine 103 = .ok (.invokevirtual 192, 3) := by decide +kernel
theorem dX2_combine_106 : decode cX2_combine 106 = .ok (.invokevirtual 161, 3) := by decide +kernel
theorem dX2_combine_109 : decode cX2_combine 109 = .ok (.goto 28, 3) := by decide +kernel
theorem dX2_combine_112 : decode cX2_combine 112 = .ok (.aload_n 0, 1) := by decide +kernel
theorem dX2_combine_113 : decode cX2_combine 113 = .ok (.getfield 15, 3) := by decide +kernel
theorem dX2_combine_116 : decode cX2_combine 116 = .ok (.aload 4, 2) := by decide +kernel
theorem dX2_combine_118 : decode cX2_combine 118 = .ok (.lload 7, 2) := by decide +kernel
theorem dX2_combine_120 : decode cX2_combine 120 = .ok (.aload_n 0, 1) := by decide +kernel
theorem dX2_combine_121 : decode cX2_combine 121 = .ok (.getfield 24, 3) := by decide +kernel
theorem dX2_combine_124 : decode cX2_combine 124 = .ok (.iload_n 2, 1) := by decide +kernel
theorem dX2_combine_125 : decode cX2_combine 125 = .ok (.aload 4, 2) := by decide +kernel
theorem dX2_combine_127 : decode cX2_combine 127 = .ok (.iload 10, 2) := by decide +kernel
theorem dX2_combine_129 : decode cX2_combine 129 = .ok (.iload 9, 2) := by decide +kernel
theorem dX2_combine_131 : decode cX2_combine 131 = .ok (.invokevirtual 192, 3) := by decide +kernel
theorem dX2_combine_134 : decode cX2_combine 134 = .ok (.invokevirtual 161, 3) := by decide +kernel
theorem dX2_combine_137 : decode cX2_combine 137 = .ok (.return_, 1) := by decide +kernel
theorem dX2_compare_0 : decode cX2_compare 0 = .ok (.iload_n 1, 1) := by decide +kernel
theorem dX2_compare_1 : decode cX2_compare 1 = .ok (.invokestatic 98, 3) := by decide +kernel
theorem dX2_compare_4 : decode cX2_compare 4 = .ok (.invokestatic 181, 3) := by decide +kernel
theorem dX2_compare_7 : decode cX2_compare 7 = .ok (.astore_n 2, 1) := by decide +kernel
theorem dX2_compare_8 : decode cX2_compare 8 = .ok (.aload_n 0, 1) := by decide +kernel
theorem dX2_compare_9 : decode cX2_compare 9 = .ok (.sipush 4095, 3) := by decide +kernel
theorem dX2_compare_12 : decode cX2_compare 12 = .ok (.aload_n 2, 1) := by decide +kernel
theorem dX2_compare_13 : decode cX2_compare 13 = .ok (.invokestatic 196, 3) := by decide +kernel
theorem dX2_compare_16 : decode cX2_compare 16 = .ok (.iload_n 1, 1) := by decide +kernel
theorem dX2_compare_17 : decode cX2_compare 17 = .ok (.invokestatic 95, 3) := by decide +kernel
theorem dX2_compare_20 : decode cX2_compare 20 = .ok (.invokevirtual 146, 3) := by decide +kernel
theorem dX2_compare_23 : decode cX2_compare 23 = .ok (.ifCond .ne 44, 3) := by decide +kernel
theorem dX2_compare_26 : decode cX2_compare 26 = .ok (.aload_n 0, 1) := by decide +kernel
theorem dX2_compare_27 : decode cX2_compare 27 = .ok (.getfield 15, 3) := by decide +kernel
theorem dX2_compare_30 : decode cX2_compare 30 = .ok (.aload_n 2, 1) := by decide +kernel
theorem dX2_compare_31 : decode cX2_compare 31 = .ok (.aload_n 0, 1) := by decide +kernel
theorem dX2_compare_32 : decode cX2_compare 32 = .ok (.getfield 15, 3) := by decide +kernel
theorem dX2_compare_35 : decode cX2_compare 35 = .ok (.aload_n 2, 1) := by decide +kernel
theorem dX2_compare_36 : decode cX2_compare 36 = .ok (.iload_n 1, 1) := by decide +kernel
theorem dX2_compare_37 : decode cX2_compare 37 = .ok (.invokestatic 95, 3) := by decide +kernel
theorem dX2_compare_40 : decode cX2_compare 40 = .ok (.invokevirtual 150, 3) := by decide +kernel
theorem dX2_compare_43 : decode cX2_compare 43 = .ok (.invokevirtual 154, 3) := by decide +kernel
theorem dX2_compare_46 : decode cX2_compare 46 = .ok (.istore_n 3, 1) := by decide +kernel
theorem dX2_compare_47 : decode cX2_compare 47 = .ok (.aload_n 0, 1) := by decide +kernel
theorem dX2_compare_48 : decode cX2_compare 48 = .ok (.getfield 24, 3) := by decide +kernel
theorem dX2_compare_51 : decode cX2_compare 51 = .ok (.aload_n 2, 1) := by decide +kernel
theorem dX2_compare_52 : decode cX2_compare 52 = .ok (.aload_n 0, 1) := by decide +kernel
theorem dX2_compare_53 : decode cX2_compare 53 = .ok (.getfield 9, 3) := by decide +kernel
theorem dX2_compare_56 : decode cX2_compare 56 = .ok (.iload_n 1, 1) := by decide +kernel
theorem dX2_compare_57 : decode cX2_compare 57 = .ok (.invokestatic 101, 3) := by decide +kernel
theorem dX2_compare_60 : decode cX2_compare 60 = .ok (.invokevirtual 124, 3) := by decide +kernel
theorem dX2_compare_63 : decode cX2_compare 63 = .ok (.iload_n 3, 1) := by decide +kernel
theorem dX2_compare_64 : decode cX2_compare 64 = .ok (.invokevirtual 189, 3) := by decide +kernel
theorem dX2_compare_67 : decode cX2_compare 67 = .ok (.return_, 1) := by decide +kernel
theorem dX2_addressWork_0 : decode cX2_addressWork 0 = .ok (.aload_n 0, 1) := by decide +kernel
theorem dX2_addressWork_1 : decode cX2_addressWork 1 = .ok (.sipush 4095, 3) := by decide +kernel
theorem dX2_addressWork_4 : decode cX2_addressWork 4 = .ok (.iload_n 1, 1) := by decide +kernel
theorem dX2_addressWork_5 : decode cX2_addressWork 5 = .ok (.invokestatic 95, 3) := by decide +kernel
theorem dX2_addressWork_8 : decode cX2_addressWork 8 = .ok (.invokevirtual 146, 3) := by decide +kernel
theorem dX2_addressWork_11 : decode cX2_addressWork 11 = .ok (.ifCond .eq 4, 3) := by decide +kernel
theorem dX2_addressWork_14 : decode cX2_addressWork 14 = .ok (.return_, 1) := by decide +kernel
theorem dX2_addressWork_15 : decode cX2_addressWork 15 = .ok (.iload_n 1, 1) := by decide +kernel
theorem dX2_addressWork_16 : decode cX2_addressWork 16 = .ok (.invokestatic 107, 3) := by decide +kernel
theorem dX2_addressWork_19 : decode cX2_addressWork 19 = .ok (.ifCond .eq 9, 3) := by decide +kernel
theorem dX2_addressWork_22 : decode cX2_addressWork 22 = .ok (.getstatic 46, 3) := by decide +kernel
theorem dX2_addressWork_25 : decode cX2_addressWork 25 = .ok (.goto 6, 3) := by decide +kernel
theorem dX2_addressWork_28 : decode cX2_addressWork 28 = .ok (.getstatic 49, 3) := by decide +kernel
theorem dX2_addressWork_31 : decode cX2_addressWork 31 = .ok (.astore_n 3, 1) := by decide +kernel
theorem dX2_addressWork_32 : decode cX2_addressWork 32 = .ok (.aload_n 3, 1) := by decide +kernel
theorem dX2_addressWork_33 : decode cX2_addressWork 33 = .ok (.aload_n 0, 1) := by decide +kernel
theorem dX2_addressWork_34 : decode cX2_addressWork 34 = .ok (.getfield 15, 3) := by decide +kernel
theorem dX2_addressWork_37 : decode cX2_addressWork 37 = .ok (.aload_n 3, 1) := by decide +kernel
theorem dX2_addressWork_38 : decode cX2_addressWork 38 = .ok (.aload_n 0, 1) := by decide +kernel
theorem dX2_addressWork_39 : decode cX2_addressWork 39 = .ok (.getfield 15, 3) := by decide +kernel
theorem dX2_addressWork_42 : decode cX2_addressWork 42 = .ok (.aload_n 3, 1) := by decide +kernel
theorem dX2_addressWork_43 : decode cX2_addressWork 43 = .ok (.iload_n 1, 1) := by decide +kernel
theorem dX2_addressWork_44 : decode cX2_addressWork 44 = .ok (.invokestatic 95, 3) := by decide +kernel
theorem dX2_addressWork_47 : decode cX2_addressWork 47 = .ok (.invokevirtual 150, 3) := by decide +kernel
theorem dX2_addressWork_50 : decode cX2_addressWork 50 = .ok (.invokevirtual 154, 3) := by decide +kernel
theorem dX2_addressWork_53 : decode cX2_addressWork 53 = .ok (.invokevirtual 200, 3) := by decide +kernel
theorem dX2_addressWork_56 : decode cX2_addressWork 56 = .ok (.istore 4, 2) := by decide +kernel
theorem dX2_addressWork_58 : decode cX2_addressWork 58 = .ok (.bipush 8, 2) := by decide +kernel
theorem dX2_addressWork_60 : decode cX2_addressWork 60 = .ok (.iload_n 1, 1) := by decide +kernel
theorem dX2_addressWork_61 : decode cX2_addressWork 61 = .ok (.invokestatic 101, 3) := by decide +kernel
theorem dX2_addressWork_64 : decode cX2_addressWork 64 = .ok (.iadd, 1) := by decide +kernel
theorem dX2_addressWork_65 : decode cX2_addressWork 65 = .ok (.istore 5, 2) := by decide +kernel
theorem dX2_addressWork_67 : decode cX2_addressWork 67 = .ok (.iload_n 2, 1) := by decide +kernel
theorem dX2_addressWork_68 : decode cX2_addressWork 68 = .ok (.bipush 6, 2) := by decide +kernel
theorem dX2_addressWork_70 : decode cX2_addressWork 70 = .ok (.if_icmp .ne 27, 3) := by decide +kernel
theorem dX2_addressWork_73 : decode cX2_addressWork 73 = .ok (.aload_n 0, 1) := by decide +kernel
theorem dX2_addressWork_74 : decode cX2_addressWork 74 = .ok (.getfield 24, 3) := by decide +kernel
theorem dX2_addressWork_77 : decode cX2_addressWork 77 = .ok (.getstatic 46, 3) := by decide +kernel
theorem dX2_addressWork_80 : decode cX2_addressWork 80 = .ok (.aload_n 0, 1) := by decide +kernel
theorem dX2_addressWork_81 : decode cX2_addressWork 81 = .ok (.getfield 9, 3) := by decide +kernel
theorem dX2_addressWork_84 : decode cX2_addressWork 84 = .ok (.iload 5, 2) := by decide +kernel
theorem dX2_addressWork_86 : decode cX2_addressWork 86 = .ok (.invokevirtual 124, 3) := by decide +kernel
theorem dX2_addressWork_89 : decode cX2_addressWork 89 = .ok (.iload 4, 2) := by decide +kernel
theorem dX2_addressWork_91 : decode cX2_addressWork 91 = .ok (.invokevirtual 189, 3) := by decide +kernel
theorem dX2_addressWork_94 : decode cX2_addressWork 94 = .ok (.goto 35, 3) := by decide +kernel
theorem dX2_addressWork_97 : decode cX2_addressWork 97 = .ok (.aload_n 0, 1) := by decide +kernel
theorem dX2_addressWork_98 : decode cX2_addressWork 98 = .ok (.getfield 9, 3) := by decide +kernel
theorem dX2_addressWork_101 : decode cX2_addressWork 101 = .ok (.iload 5, 2) := by decide +kernel
theorem dX2_addressWork_103 : decode cX2_addressWork 103 = .ok (.aload_n 0, 1) := by decide +kernel
theorem dX2_addressWork_104 : decode cX2_addressWork 104 = .ok (.getfield 9, 3) := by decide +kernel
theorem dX2_addressWork_107 : decode cX2_addressWork 107 = .ok (.iload 5, 2) := by decide +kernel
theorem dX2_addressWork_109 : decode cX2_addressWork 109 = .ok (.invokevirtual 124, 3) := by decide +kernel
theorem dX2_addressWork_112 : decode cX2_addressWork 112 = .ok (.iload_n 2, 1) := by decide +kernel
theorem dX2_addressWork_113 : decode cX2_addressWork 113 = .ok (.iconst 2, 1) := by decide +kernel
theorem dX2_addressWork_114 : decode cX2_addressWork 114 = .ok (.if_icmp .ne 9, 3) := by decide +kernel
theorem dX2_addressWork_117 : decode cX2_addressWork 117 = .ok (.iload 4, 2) := by decide +kernel
theorem dX2_addressWork_119 : decode cX2_addressWork 119 = .ok (.ineg, 1) := by decide +kernel
theorem dX2_addressWork_120 : decode cX2_addressWork 120 = .ok (.goto 5, 3) := by decide +kernel
theorem dX2_addressWork_123 : decode cX2_addressWork 123 = .ok (.iload 4, 2) := by decide +kernel
theorem dX2_addressWork_125 : decode cX2_addressWork 125 = .ok (.iadd, 1) := by decide +kernel
theorem dX2_addressWork_126 : decode cX2_addressWork 126 = .ok (.invokevirtual 143, 3) := by decide +kernel
theorem dX2_addressWork_129 : decode cX2_addressWork 129 = .ok (.return_, 1) := by decide +kernel
theorem dX2_pairMode_0 : decode cX2_pairMode 0 = .ok (.iload_n 0, 1) := by decide +kernel
theorem dX2_pairMode_1 : decode cX2_pairMode 1 = .ok (.bipush 8, 2) := by decide +kernel
theorem dX2_pairMode_3 : decode cX2_pairMode 3 = .ok (.iand, 1) := by decide +kernel
theorem dX2_pairMode_4 : decode cX2_pairMode 4 = .ok (.ifCond .eq 8, 3) := by decide +kernel
theorem dX2_pairMode_7 : decode cX2_pairMode 7 = .ok (.bipush 32, 2) := by decide +kernel
theorem dX2_pairMode_9 : decode cX2_pairMode 9 = .ok (.goto 4, 3) := by decide +kernel
theorem dX2_pairMode_12 : decode cX2_pairMode 12 = .ok (.iconst 0, 1) := by decide +kernel
theorem dX2_pairMode_13 : decode cX2_pairMode 13 = .ok (.ireturn, 1) := by decide +kernel
theorem dX2_pairWithX_0 : decode cX2_pairWithX 0 = .ok (.iload_n 1, 1) := by decide +kernel
theorem dX2_pairWithX_1 : decode cX2_pairWithX 1 = .ok (.invokestatic 98, 3) := by decide +kernel
theorem dX2_pairWithX_4 : decode cX2_pairWithX 4 = .ok (.invokestatic 181, 3) := by decide +kernel
theorem dX2_pairWithX_7 : decode cX2_pairWithX 7 = .ok (.astore_n 3, 1) := by decide +kernel
theorem dX2_pairWithX_8 : decode cX2_pairWithX 8 = .ok (.aload_n 0, 1) := by decide +kernel
theorem dX2_pairWithX_9 : decode cX2_pairWithX 9 = .ok (.getfield 15, 3) := by decide +kernel
theorem dX2_pairWithX_12 : decode cX2_pairWithX 12 = .ok (.aload_n 3, 1) := by decide +kernel
theorem dX2_pairWithX_13 : decode cX2_pairWithX 13 = .ok (.aload_n 0, 1) := by decide +kernel
theorem dX2_pairWithX_14 : decode cX2_pairWithX 14 = .ok (.getfield 15, 3) := by decide +kernel
theorem dX2_pairWithX_17 : decode cX2_pairWithX 17 = .ok (.aload_n 3, 1) := by decide +kernel
theorem dX2_pairWithX_18 : decode cX2_pairWithX 18 = .ok (.iload_n 1, 1) := by decide +kernel
theorem dX2_pairWithX_19 : decode cX2_pairWithX 19 = .ok (.invokestatic 323, 3) := by decide +kernel
theorem dX2_pairWithX_22 : decode cX2_pairWithX 22 = .ok (.iload_n 1, 1) := by decide +kernel
theorem dX2_pairWithX_23 : decode cX2_pairWithX 23 = .ok (.invokestatic 121, 3) := by decide +kernel
theorem dX2_pairWithX_26 : decode cX2_pairWithX 26 = .ok (.ior, 1) := by decide +kernel
theorem dX2_pairWithX_27 : decode cX2_pairWithX 27 = .ok (.invokevirtual 150, 3) := by decide +kernel
theorem dX2_pairWithX_30 : decode cX2_pairWithX 30 = .ok (.invokevirtual 154, 3) := by decide +kernel
theorem dX2_pairWithX_33 : decode cX2_pairWithX 33 = .ok (.istore 4, 2) := by decide +kernel
theorem dX2_pairWithX_35 : decode cX2_pairWithX 35 = .ok (.aload_n 0, 1) := by decide +kernel
theorem dX2_pairWithX_36 : decode cX2_pairWithX 36 = .ok (.getfield 15, 3) := by decide +kernel
theorem dX2_pairWithX_39 : decode cX2_pairWithX 39 = .ok (.aload_n 3, 1) := by decide +kernel
theorem dX2_pairWithX_40 : decode cX2_pairWithX 40 = .ok (.iload_n 1, 1) := by decide +kernel
theorem dX2_pairWithX_41 : decode cX2_pairWithX 41 = .ok (.invokestatic 323, 3) := by decide +kernel
theorem dX2_pairWithX_44 : decode cX2_pairWithX 44 = .ok (.iload_n 1, 1) := by decide +kernel
theorem dX2_pairWithX_45 : decode cX2_pairWithX 45 = .ok (.invokestatic 101, 3) := by decide +kernel
theorem dX2_pairWithX_48 : decode cX2_pairWithX 48 = .ok (.ior, 1) := by decide +kernel
theorem dX2_pairWithX_49 : decode cX2_pairWithX 49 = .ok (.invokevirtual 150, 3) := by decide +kernel
theorem dX2_pairWithX_52 : decode cX2_pairWithX 52 = .ok (.lstore 5, 2) := by decide +kernel
theorem dX2_pairWithX_54 : decode cX2_pairWithX 54 = .ok (.aload_n 0, 1) := by decide +kernel
theorem dX2_pairWithX_55 : decode cX2_pairWithX 55 = .ok (.getfield 15, 3) := by decide +kernel
theorem dX2_pairWithX_58 : decode cX2_pairWithX 58 = .ok (.aload_n 3, 1) := by decide +kernel
theorem dX2_pairWithX_59 : decode cX2_pairWithX 59 = .ok (.lload 5, 2) := by decide +kernel
theorem dX2_pairWithX_61 : decode cX2_pairWithX 61 = .ok (.invokevirtual 154, 3) := by decide +kernel
theorem dX2_pairWithX_64 : decode cX2_pairWithX 64 = .ok (.istore 7, 2) := by decide +kernel
theorem dX2_pairWithX_66 : decode cX2_pairWithX 66 = .ok (.aload_n 0, 1) := by decide +kernel
theorem dX2_pairWithX_67 : decode cX2_pairWithX 67 = .ok (.getfield 15, 3) := by decide +kernel
theorem dX2_pairWithX_70 : decode cX2_pairWithX 70 = .ok (.aload_n 3, 1) := by decide +kernel
theorem dX2_pairWithX_71 : decode cX2_pairWithX 71 = .ok (.lload 5, 2) := by decide +kernel
theorem dX2_pairWithX_73 : decode cX2_pairWithX 73 = .ok (.aload_n 0, 1) := by decide +kernel
theorem dX2_pairWithX_74 : decode cX2_pairWithX 74 = .ok (.getfield 24, 3) := by decide +kernel
theorem dX2_pairWithX_77 : decode cX2_pairWithX 77 = .ok (.iload_n 2, 1) := by decide +kernel
theorem dX2_pairWithX_78 : decode cX2_pairWithX 78 = .ok (.aload_n 3, 1) := by decide +kernel
theorem dX2_pairWithX_79 : decode cX2_pairWithX 79 = .ok (.iload 7, 2) := by decide +kernel
theorem dX2_pairWithX_81 : decode cX2_pairWithX 81 = .ok (.iload 4, 2) := by decide +kernel
theorem dX2_pairWithX_83 : decode cX2_pairWithX 83 = .ok (.invokevirtual 242, 3) := by decide +kernel
theorem dX2_pairWithX_86 : decode cX2_pairWithX 86 = .ok (.invokevirtual 161, 3) := by decide +kernel
theorem dX2_pairWithX_89 : decode cX2_pairWithX 89 = .ok (.return_, 1) := by decide +kernel
theorem dX2_decimalPair_0 : decode cX2_decimalPair 0 = .ok (.aload_n 0, 1) := by decide +kernel
theorem dX2_decimalPair_1 : decode cX2_decimalPair 1 = .ok (.getfield 15, 3) := by decide +kernel
theorem dX2_decimalPair_4 : decode cX2_decimalPair 4 = .ok (.getstatic 36, 3) := by decide +kernel
theorem dX2_decimalPair_7 : decode cX2_decimalPair 7 = .ok (.aload_n 0, 1) := by decide +kernel
theorem dX2_decimalPair_8 : decode cX2_decimalPair 8 = .ok (.getfield 15, 3) := by decide +kernel
theorem dX2_decimalPair_11 : decode cX2_decimalPair 11 = .ok (.getstatic 36, 3) := by decide +kernel
theorem dX2_decimalPair_14 : decode cX2_decimalPair 14 = .ok (.iload_n 1, 1) := by decide +kernel
theorem dX2_decimalPair_15 : decode cX2_decimalPair 15 = .ok (.invokestatic 323, 3) := by decide +kernel
theorem dX2_decimalPair_18 : decode cX2_decimalPair 18 = .ok (.iload_n 1, 1) := by decide +kernel
theorem dX2_decimalPair_19 : decode cX2_decimalPair 19 = .ok (.invokestatic 121, 3) := by decide +kernel
theorem dX2_decimalPair_22 : decode cX2_decimalPair 22 = .ok (.ior, 1) := by decide +kernel
theorem dX2_decimalPair_23 : decode cX2_decimalPair 23 = .ok (.invokevirtual 150, 3) := by decide +kernel
theorem dX2_decimalPair_26 : decode cX2_decimalPair 26 = .ok (.invokevirtual 154, 3) := by decide +kernel
theorem dX2_decimalPair_29 : decode cX2_decimalPair 29 = .ok (.istore_n 3, 1) := by decide +kernel
theorem dX2_decimalPair_30 : decode cX2_decimalPair 30 = .ok (.aload_n 0, 1) := by decide +kernel
theorem dX2_decimalPair_31 : decode cX2_decimalPair 31 = .ok (.getfield 15, 3) := by decide +kernel
theorem dX2_decimalPair_34 : decode cX2_decimalPair 34 = .ok (.getstatic 36, 3) := by decide +kernel
theorem dX2_decimalPair_37 : decode cX2_decimalPair 37 = .ok (.iload_n 1, 1) := by decide +kernel
theorem dX2_decimalPair_38 : decode cX2_decimalPair 38 = .ok (.invokestatic 323, 3) := by decide +kernel
theorem dX2_decimalPair_41 : decode cX2_decimalPair 41 = .ok (.iload_n 1, 1) := by decide +kernel
theorem dX2_decimalPair_42 : decode cX2_decimalPair 42 = .ok (.invokestatic 101, 3) := by decide +kernel
theorem dX2_decimalPair_45 : decode cX2_decimalPair 45 = .ok (.ior, 1) := by decide +kernel
theorem dX2_decimalPair_46 : decode cX2_decimalPair 46 = .ok (.invokevirtual 150, 3) := by decide +kernel
theorem dX2_decimalPair_49 : decode cX2_decimalPair 49 = .ok (.lstore 4, 2) := by decide +kernel
theorem dX2_decimalPair_51 : decode cX2_decimalPair 51 = .ok (.aload_n 0, 1) := by decide +kernel
theorem dX2_decimalPair_52 : decode cX2_decimalPair 52 = .ok (.getfield 15, 3) := by decide +kernel
theorem dX2_decimalPair_55 : decode cX2_decimalPair 55 = .ok (.getstatic 36, 3) := by decide +kernel
theorem dX2_decimalPair_58 : decode cX2_decimalPair 58 = .ok (.lload 4, 2) := by decide +kernel
theorem dX2_decimalPair_60 : decode cX2_decimalPair 60 = .ok (.invokevirtual 154, 3) := by decide +kernel
theorem dX2_decimalPair_63 : decode cX2_decimalPair 63 = .ok (.istore 6, 2) := by decide +kernel
theorem dX2_decimalPair_65 : decode cX2_decimalPair 65 = .ok (.iload_n 2, 1) := by decide +kernel
theorem dX2_decimalPair_66 : decode cX2_decimalPair 66 = .ok (.iconst 2, 1) := by decide +kernel
theorem dX2_decimalPair_67 : decode cX2_decimalPair 67 = .ok (.if_icmp .ne 16, 3) := by decide +kernel
theorem dX2_decimalPair_70 : decode cX2_decimalPair 70 = .ok (.aload_n 0, 1) := by decide +kernel
theorem dX2_decimalPair_71 : decode cX2_decimalPair 71 = .ok (.getfield 24, 3) := by decide +kernel
theorem dX2_decimalPair_74 : decode cX2_decimalPair 74 = .ok (.iload 6, 2) := by decide +kernel
theorem dX2_decimalPair_76 : decode cX2_decimalPair 76 = .ok (.iload_n 3, 1) := by decide +kernel
theorem dX2_decimalPair_77 : decode cX2_decimalPair 77 = .ok (.invokevirtual 245, 3) := by decide +kernel
theorem dX2_decimalPair_80 : decode cX2_decimalPair 80 = .ok (.goto 13, 3) := by decide +kernel
theorem dX2_decimalPair_83 : decode cX2_decimalPair 83 = .ok (.aload_n 0, 1) := by decide +kernel
theorem dX2_decimalPair_84 : decode cX2_decimalPair 84 = .ok (.getfield 24, 3) := by decide +kernel
theorem dX2_decimalPair_87 : decode cX2_decimalPair 87 = .ok (.iload 6, 2) := by decide +kernel
theorem dX2_decimalPair_89 : decode cX2_decimalPair 89 = .ok (.iload_n 3, 1) := by decide +kernel
theorem dX2_decimalPair_90 : decode cX2_decimalPair 90 = .ok (.invokevirtual 326, 3) := by decide +kernel
theorem dX2_decimalPair_93 : decode cX2_decimalPair 93 = .ok (.istore 7, 2) := by decide +kernel
theorem dX2_decimalPair_95 : decode cX2_decimalPair 95 = .ok (.aload_n 0, 1) := by decide +kernel
theorem dX2_decimalPair_96 : decode cX2_decimalPair 96 = .ok (.getfield 15, 3) := by decide +kernel
theorem dX2_decimalPair_99 : decode cX2_decimalPair 99 = .ok (.getstatic 36, 3) := by decide +kernel
theorem dX2_decimalPair_102 : decode cX2_decimalPair 102 = .ok (.lload 4, 2) := by decide +kernel
theorem dX2_decimalPair_104 : decode cX2_decimalPair 104 = .ok (.iload 7, 2) := by decide +kernel
theorem dX2_decimalPair_106 : decode cX2_decimalPair 106 = .ok (.invokevirtual 161, 3) := by decide +kernel
theorem dX2_decimalPair_109 : decode cX2_decimalPair 109 = .ok (.return_, 1) := by decide +kernel
theorem dX2_comparePair_0 : decode cX2_comparePair 0 = .ok (.iload_n 1, 1) := by decide +kernel
theorem dX2_comparePair_1 : decode cX2_comparePair 1 = .ok (.invokestatic 98, 3) := by decide +kernel
theorem dX2_comparePair_4 : decode cX2_comparePair 4 = .ok (.invokestatic 181, 3) := by decide +kernel
theorem dX2_comparePair_7 : decode cX2_comparePair 7 = .ok (.astore_n 2, 1) := by decide +kernel
theorem dX2_comparePair_8 : decode cX2_comparePair 8 = .ok (.aload_n 0, 1) := by decide +kernel
theorem dX2_comparePair_9 : decode cX2_comparePair 9 = .ok (.getfield 15, 3) := by decide +kernel
theorem dX2_comparePair_12 : decode cX2_comparePair 12 = .ok (.aload_n 2, 1) := by decide +kernel
theorem dX2_comparePair_13 : decode cX2_comparePair 13 = .ok (.aload_n 0, 1) := by decide +kernel
theorem dX2_comparePair_14 : decode cX2_comparePair 14 = .ok (.getfield 15, 3) := by decide +kernel
theorem dX2_comparePair_17 : decode cX2_comparePair 17 = .ok (.aload_n 2, 1) := by decide +kernel
theorem dX2_comparePair_18 : decode cX2_comparePair 18 = .ok (.bipush 24, 2) := by decide +kernel
theorem dX2_comparePair_20 : decode cX2_comparePair 20 = .ok (.iload_n 1, 1) := by decide +kernel
theorem dX2_comparePair_21 : decode cX2_comparePair 21 = .ok (.invokestatic 121, 3) := by decide +kernel
theorem dX2_comparePair_24 : decode cX2_comparePair 24 = .ok (.ior, 1) := by decide +kernel
theorem dX2_comparePair_25 : decode cX2_comparePair 25 = .ok (.invokevirtual 150, 3) := by decide +kernel
theorem dX2_comparePair_28 : decode cX2_comparePair 28 = .ok (.invokevirtual 154, 3) := by decide +kernel
theorem dX2_comparePair_31 : decode cX2_comparePair 31 = .ok (.istore_n 3, 1) := by decide +kernel
theorem dX2_comparePair_32 : decode cX2_comparePair 32 = .ok (.aload_n 0, 1) := by decide +kernel
theorem dX2_comparePair_33 : decode cX2_comparePair 33 = .ok (.getfield 15, 3) := by decide +kernel
theorem dX2_comparePair_36 : decode cX2_comparePair 36 = .ok (.aload_n 2, 1) := by decide +kernel
theorem dX2_comparePair_37 : decode cX2_comparePair 37 = .ok (.aload_n 0, 1) := by decide +kernel
theorem dX2_comparePair_38 : decode cX2_comparePair 38 = .ok (.getfield 15, 3) := by decide +kernel
theorem dX2_comparePair_41 : decode cX2_comparePair 41 = .ok (.aload_n 2, 1) := by decide +kernel
theorem dX2_comparePair_42 : decode cX2_comparePair 42 = .ok (.bipush 24, 2) := by decide +kernel
theorem dX2_comparePair_44 : decode cX2_comparePair 44 = .ok (.iload_n 1, 1) := by decide +kernel
theorem dX2_comparePair_45 : decode cX2_comparePair 45 = .ok (.invokestatic 101, 3) := by decide +kernel
theorem dX2_comparePair_48 : decode cX2_comparePair 48 = .ok (.ior, 1) := by decide +kernel
theorem dX2_comparePair_49 : decode cX2_comparePair 49 = .ok (.invokevirtual 150, 3) := by decide +kernel
theorem dX2_comparePair_52 : decode cX2_comparePair 52 = .ok (.invokevirtual 154, 3) := by decide +kernel
theorem dX2_comparePair_55 : decode cX2_comparePair 55 = .ok (.istore 4, 2) := by decide +kernel
theorem dX2_comparePair_57 : decode cX2_comparePair 57 = .ok (.aload_n 0, 1) := by decide +kernel
theorem dX2_comparePair_58 : decode cX2_comparePair 58 = .ok (.getfield 24, 3) := by decide +kernel
theorem dX2_comparePair_61 : decode cX2_comparePair 61 = .ok (.aload_n 2, 1) := by decide +kernel
theorem dX2_comparePair_62 : decode cX2_comparePair 62 = .ok (.iload 4, 2) := by decide +kernel
theorem dX2_comparePair_64 : decode cX2_comparePair 64 = .ok (.iload_n 3, 1) := by decide +kernel
theorem dX2_comparePair_65 : decode cX2_comparePair 65 = .ok (.invokevirtual 189, 3) := by decide +kernel
theorem dX2_comparePair_68 : decode cX2_comparePair 68 = .ok (.return_, 1) := by decide +kernel
theorem dX2_exchange_0 : decode cX2_exchange 0 = .ok (.aload_n 0, 1) := by decide +kernel
theorem dX2_exchange_1 : decode cX2_exchange 1 = .ok (.getfield 9, 3) := by decide +kernel
theorem dX2_exchange_4 : decode cX2_exchange 4 = .ok (.iload_n 1, 1) := by decide +kernel
theorem dX2_exchange_5 : decode cX2_exchange 5 = .ok (.invokevirtual 124, 3) := by decide +kernel
theorem dX2_exchange_8 : decode cX2_exchange 8 = .ok (.istore_n 3, 1) := by decide +kernel
theorem dX2_exchange_9 : decode cX2_exchange 9 = .ok (.aload_n 0, 1) := by decide +kernel
theorem dX2_exchange_10 : decode cX2_exchange 10 = .ok (.getfield 9, 3) := by decide +kernel
theorem dX2_exchange_13 : decode cX2_exchange 13 = .ok (.iload_n 1, 1) := by decide +kernel
theorem dX2_exchange_14 : decode cX2_exchange 14 = .ok (.aload_n 0, 1) := by decide +kernel
theorem dX2_exchange_15 : decode cX2_exchange 15 = .ok (.getfield 9, 3) := by decide +kernel
theorem dX2_exchange_18 : decode cX2_exchange 18 = .ok (.iload_n 2, 1) := by decide +kernel
theorem dX2_exchange_19 : decode cX2_exchange 19 = .ok (.invokevirtual 124, 3) := by decide +kernel
theorem dX2_exchange_22 : decode cX2_exchange 22 = .ok (.invokevirtual 143, 3) := by decide +kernel
theorem dX2_exchange_25 : decode cX2_exchange 25 = .ok (.aload_n 0, 1) := by decide +kernel
theorem dX2_exchange_26 : decode cX2_exchange 26 = .ok (.getfield 9, 3) := by decide +kernel
theorem dX2_exchange_29 : decode cX2_exchange 29 = .ok (.iload_n 2, 1) := by decide +kernel
theorem dX2_exchange_30 : decode cX2_exchange 30 = .ok (.iload_n 3, 1) := by decide +kernel
theorem dX2_exchange_31 : decode cX2_exchange 31 = .ok (.invokevirtual 143, 3) := by decide +kernel
theorem dX2_exchange_34 : decode cX2_exchange 34 = .ok (.return_, 1) := by decide +kernel
theorem dX2_multiply_0 : decode cX2_multiply 0 = .ok (.aload_n 0, 1) := by decide +kernel
theorem dX2_multiply_1 : decode cX2_multiply 1 = .ok (.sipush 4093, 3) := by decide +kernel
theorem dX2_multiply_4 : decode cX2_multiply 4 = .ok (.iload_n 1, 1) := by decide +kernel
theorem dX2_multiply_5 : decode cX2_multiply 5 = .ok (.invokestatic 95, 3) := by decide +kernel
theorem dX2_multiply_8 : decode cX2_multiply 8 = .ok (.invokevirtual 146, 3) := by decide +kernel
theorem dX2_multiply_11 : decode cX2_multiply 11 = .ok (.ifCond .eq 4, 3) := by decide +kernel
theorem dX2_multiply_14 : decode cX2_multiply 14 = .ok (.return_, 1) := by decide +kernel
theorem dX2_multiply_15 : decode cX2_multiply 15 = .ok (.iload_n 1, 1) := by decide +kernel
theorem dX2_multiply_16 : decode cX2_multiply 16 = .ok (.invokestatic 101, 3) := by decide +kernel
theorem dX2_multiply_19 : decode cX2_multiply 19 = .ok (.istore_n 3, 1) := by decide +kernel
theorem dX2_multiply_20 : decode cX2_multiply 20 = .ok (.aload_n 0, 1) := by decide +kernel
theorem dX2_multiply_21 : decode cX2_multiply 21 = .ok (.getfield 15, 3) := by decide +kernel
theorem dX2_multiply_24 : decode cX2_multiply 24 = .ok (.getstatic 49, 3) := by decide +kernel
theorem dX2_multiply_27 : decode cX2_multiply 27 = .ok (.aload_n 0, 1) := by decide +kernel
theorem dX2_multiply_28 : decode cX2_multiply 28 = .ok (.getfield 15, 3) := by decide +kernel
theorem dX2_multiply_31 : decode cX2_multiply 31 = .ok (.getstatic 49, 3) := by decide +kernel
theorem dX2_multiply_34 : decode cX2_multiply 34 = .ok (.iload_n 1, 1) := by decide +kernel
theorem dX2_multiply_35 : decode cX2_multiply 35 = .ok (.invokestatic 95, 3) := by decide +kernel
theorem dX2_multiply_38 : decode cX2_multiply 38 = .ok (.invokevirtual 150, 3) := by decide +kernel
theorem dX2_multiply_41 : decode cX2_multiply 41 = .ok (.invokevirtual 154, 3) := by decide +kernel
theorem dX2_multiply_44 : decode cX2_multiply 44 = .ok (.istore 4, 2) := by decide +kernel
theorem dX2_multiply_46 : decode cX2_multiply 46 = .ok (.aload_n 0, 1) := by decide +kernel
theorem dX2_multiply_47 : decode cX2_multiply 47 = .ok (.getfield 9, 3) := by decide +kernel
theorem dX2_multiply_50 : decode cX2_multiply 50 = .ok (.iload_n 3, 1) := by decide +kernel
theorem dX2_multiply_51 : decode cX2_multiply 51 = .ok (.invokevirtual 124, 3) := by decide +kernel
theorem dX2_multiply_54 : decode cX2_multiply 54 = .ok (.istore 5, 2) := by decide +kernel
theorem dX2_multiply_56 : decode cX2_multiply 56 = .ok (.iload_n 2, 1) := by decide +kernel
theorem dX2_multiply_57 : decode cX2_multiply 57 = .ok (.ifCond .eq 13, 3) := by decide +kernel
theorem dX2_multiply_60 : decode cX2_multiply 60 = .ok (.iload 5, 2) := by decide +kernel
theorem dX2_multiply_62 : decode cX2_multiply 62 = .ok (.i2s, 1) := by decide +kernel
theorem dX2_multiply_63 : decode cX2_multiply 63 = .ok (.iload 4, 2) := by decide +kernel
theorem dX2_multiply_65 : decode cX2_multiply 65 = .ok (.i2s, 1) := by decide +kernel
theorem dX2_multiply_66 : decode cX2_multiply 66 = .ok (.imul, 1) := by decide +kernel
theorem dX2_multiply_67 : decode cX2_multiply 67 = .ok (.goto 12, 3) := by decide +kernel
theorem dX2_multiply_70 : decode cX2_multiply 70 = .ok (.iload 5, 2) := by decide +kernel
theorem dX2_multiply_72 : decode cX2_multiply 72 = .ok (.ldc_w 329, 3) := by decide +kernel
theorem dX2_multiply_75 : decode cX2_multiply 75 = .ok (.iand, 1) := by decide +kernel
theorem dX2_multiply_76 : decode cX2_multiply 76 = .ok (.iload 4, 2) := by decide +kernel
theorem dX2_multiply_78 : decode cX2_multiply 78 = .ok (.imul, 1) := by decide +kernel
theorem dX2_multiply_79 : decode cX2_multiply 79 = .ok (.istore 6, 2) := by decide +kernel
theorem dX2_multiply_81 : decode cX2_multiply 81 = .ok (.aload_n 0, 1) := by decide +kernel
theorem dX2_multiply_82 : decode cX2_multiply 82 = .ok (.getfield 9, 3) := by decide +kernel
theorem dX2_multiply_85 : decode cX2_multiply 85 = .ok (.iload_n 3, 1) := by decide +kernel
theorem dX2_multiply_86 : decode cX2_multiply 86 = .ok (.aload_n 0, 1) := by decide +kernel
theorem dX2_multiply_87 : decode cX2_multiply 87 = .ok (.getfield 24, 3) := by decide +kernel
theorem dX2_multiply_90 : decode cX2_multiply 90 = .ok (.getstatic 46, 3) := by decide +kernel
theorem dX2_multiply_93 : decode cX2_multiply 93 = .ok (.iload 6, 2) := by decide +kernel
theorem dX2_multiply_95 : decode cX2_multiply 95 = .ok (.invokevirtual 203, 3) := by decide +kernel
theorem dX2_multiply_98 : decode cX2_multiply 98 = .ok (.invokevirtual 143, 3) := by decide +kernel
theorem dX2_multiply_101 : decode cX2_multiply 101 = .ok (.return_, 1) := by decide +kernel
theorem dX2_divide_0 : decode cX2_divide 0 = .ok (.aload_n 0, 1) := by decide +kernel
theorem dX2_divide_1 : decode cX2_divide 1 = .ok (.sipush 4093, 3) := by decide +kernel
theorem dX2_divide_4 : decode cX2_divide 4 = .ok (.iload_n 1, 1) := by decide +kernel
theorem dX2_divide_5 : decode cX2_divide 5 = .ok (.invokestatic 95, 3) := by decide +kernel
theorem dX2_divide_8 : decode cX2_divide 8 = .ok (.invokevirtual 146, 3) := by decide +kernel
theorem dX2_divide_11 : decode cX2_divide 11 = .ok (.ifCond .eq 4, 3) := by decide +kernel
theorem dX2_divide_14 : decode cX2_divide 14 = .ok (.return_, 1) := by decide +kernel
theorem dX2_divide_15 : decode cX2_divide 15 = .ok (.iload_n 1, 1) := by decide +kernel
theorem dX2_divide_16 : decode cX2_divide 16 = .ok (.invokestatic 101, 3) := by decide +kernel
theorem dX2_divide_19 : decode cX2_divide 19 = .ok (.istore_n 3, 1) := by decide +kernel
theorem dX2_divide_20 : decode cX2_divide 20 = .ok (.aload_n 0, 1) := by decide +kernel
theorem dX2_divide_21 : decode cX2_divide 21 = .ok (.getfield 15, 3) := by decide +kernel
theorem dX2_divide_24 : decode cX2_divide 24 = .ok (.getstatic 49, 3) := by decide +kernel
theorem dX2_divide_27 : decode cX2_divide 27 = .ok (.aload_n 0, 1) := by decide +kernel
theorem dX2_divide_28 : decode cX2_divide 28 = .ok (.getfield 15, 3) := by decide +kernel
theorem dX2_divide_31 : decode cX2_divide 31 = .ok (.getstatic 49, 3) := by decide +kernel
theorem dX2_divide_34 : decode cX2_divide 34 = .ok (.iload_n 1, 1) := by decide +kernel
theorem dX2_divide_35 : decode cX2_divide 35 = .ok (.invokestatic 95, 3) := by decide +kernel
theorem dX2_divide_38 : decode cX2_divide 38 = .ok (.invokevirtual 150, 3) := by decide +kernel
theorem dX2_divide_41 : decode cX2_divide 41 = .ok (.invokevirtual 154, 3) := by decide +kernel
theorem dX2_divide_44 : decode cX2_divide 44 = .ok (.istore 4, 2) := by decide +kernel
theorem dX2_divide_46 : decode cX2_divide 46 = .ok (.aload_n 0, 1) := by decide +kernel
theorem dX2_divide_47 : decode cX2_divide 47 = .ok (.getfield 9, 3) := by decide +kernel
theorem dX2_divide_50 : decode cX2_divide 50 = .ok (.iconst 1, 1) := by decide +kernel
theorem dX2_divide_51 : decode cX2_divide 51 = .ok (.iconst 0, 1) := by decide +kernel
theorem dX2_divide_52 : decode cX2_divide 52 = .ok (.invokevirtual 158, 3) := by decide +kernel
theorem dX2_divide_55 : decode cX2_divide 55 = .ok (.iload 4, 2) := by decide +kernel
theorem dX2_divide_57 : decode cX2_divide 57 = .ok (.ifCond .ne 12, 3) := by decide +kernel
theorem dX2_divide_60 : decode cX2_divide 60 = .ok (.aload_n 0, 1) := by decide +kernel
theorem dX2_divide_61 : decode cX2_divide 61 = .ok (.getfield 15, 3) := by decide +kernel
theorem dX2_divide_64 : decode cX2_divide 64 = .ok (.iconst 5, 1) := by decide +kernel
theorem dX2_divide_65 : decode cX2_divide 65 = .ok (.invokevirtual 71, 3) := by decide +kernel
theorem dX2_divide_68 : decode cX2_divide 68 = .ok (.return_, 1) := by decide +kernel
theorem dX2_divide_69 : decode cX2_divide 69 = .ok (.iload_n 2, 1) := by decide +kernel
theorem dX2_divide_70 : decode cX2_divide 70 = .ok (.ifCond .eq 15, 3) := by decide +kernel
theorem dX2_divide_73 : decode cX2_divide 73 = .ok (.aload_n 0, 1) := by decide +kernel
theorem dX2_divide_74 : decode cX2_divide 74 = .ok (.getfield 9, 3) := by decide +kernel
theorem dX2_divide_77 : decode cX2_divide 77 = .ok (.iload_n 3, 1) := by decide +kernel
theorem dX2_divide_78 : decode cX2_divide 78 = .ok (.invokevirtual 124, 3) := by decide +kernel
theorem dX2_divide_81 : decode cX2_divide 81 = .ok (.i2l, 1) := by decide +kernel
theorem dX2_divide_82 : decode cX2_divide 82 = .ok (.goto 17, 3) := by decide +kernel
theorem dX2_divide_85 : decode cX2_divide 85 = .ok (.getstatic 46, 3) := by decide +kernel
theorem dX2_divide_88 : decode cX2_divide 88 = .ok (.aload_n 0, 1) := by decide +kernel
theorem dX2_divide_89 : decode cX2_divide 89 = .ok (.getfield 9, 3) := by decide +kernel
theorem dX2_divide_92 : decode cX2_divide 92 = .ok (.iload_n 3, 1) := by decide +kernel
theorem dX2_divide_93 : decode cX2_divide 93 = .ok (.invokevirtual 124, 3) := by decide +kernel
theorem dX2_divide_96 : decode cX2_divide 96 = .ok (.invokevirtual 330, 3) := by decide +kernel
theorem dX2_divide_99 : decode cX2_divide 99 = .ok (.lstore 5, 2) := by decide +kernel
theorem dX2_divide_101 : decode cX2_divide 101 = .ok (.iload_n 2, 1) := by decide +kernel
theorem dX2_divide_102 : decode cX2_divide 102 = .ok (.ifCond .eq 10, 3) := by decide +kernel
theorem dX2_divide_105 : decode cX2_divide 105 = .ok (.iload 4, 2) := by decide +kernel
theorem dX2_divide_107 : decode cX2_divide 107 = .ok (.i2s, 1) := by decide +kernel
theorem dX2_divide_108 : decode cX2_divide 108 = .ok (.i2l, 1) := by decide +kernel
theorem dX2_divide_109 : decode cX2_divide 109 = .ok (.goto 6, 3) := by decide +kernel
theorem dX2_divide_112 : decode cX2_divide 112 = .ok (.iload 4, 2) := by decide +kernel
theorem dX2_divide_114 : decode cX2_divide 114 = .ok (.i2l, 1) := by decide +kernel
theorem dX2_divide_115 : decode cX2_divide 115 = .ok (.lstore 7, 2) := by decide +kernel
theorem dX2_divide_117 : decode cX2_divide 117 = .ok (.lload 5, 2) := by decide +kernel
theorem dX2_divide_119 : decode cX2_divide 119 = .ok (.lload 7, 2) := by decide +kernel
theorem dX2_divide_121 : decode cX2_divide 121 = .ok (.ldiv, 1) := by decide +kernel
theorem dX2_divide_122 : decode cX2_divide 122 = .ok (.lstore 9, 2) := by decide +kernel
theorem dX2_divide_124 : decode cX2_divide 124 = .ok (.lload 9, 2) := by decide +kernel
theorem dX2_divide_126 : decode cX2_divide 126 = .ok (.iload_n 2, 1) := by decide +kernel
theorem dX2_divide_127 : decode cX2_divide 127 = .ok (.ifCond .eq 11, 3) := by decide +kernel
theorem dX2_divide_130 : decode cX2_divide 130 = .ok (.lload 9, 2) := by decide +kernel
theorem dX2_divide_132 : decode cX2_divide 132 = .ok (.l2i, 1) := by decide +kernel
theorem dX2_divide_133 : decode cX2_divide 133 = .ok (.i2s, 1) := by decide +kernel
theorem dX2_divide_134 : decode cX2_divide 134 = .ok (.i2l, 1) := by decide +kernel
theorem dX2_divide_135 : decode cX2_divide 135 = .ok (.goto 9, 3) := by decide +kernel
theorem dX2_divide_138 : decode cX2_divide 138 = .ok (.lload 9, 2) := by decide +kernel
theorem dX2_divide_140 : decode cX2_divide 140 = .ok (.ldc2_w 333, 3) := by decide +kernel
theorem dX2_divide_143 : decode cX2_divide 143 = .ok (.land, 1) := by decide +kernel
theorem dX2_divide_144 : decode cX2_divide 144 = .ok (.lcmp, 1) := by decide +kernel
theorem dX2_divide_145 : decode cX2_divide 145 = .ok (.ifCond .eq 13, 3) := by decide +kernel
theorem dX2_divide_148 : decode cX2_divide 148 = .ok (.aload_n 0, 1) := by decide +kernel
theorem dX2_divide_149 : decode cX2_divide 149 = .ok (.getfield 9, 3) := by decide +kernel
theorem dX2_divide_152 : decode cX2_divide 152 = .ok (.iconst 2, 1) := by decide +kernel
theorem dX2_divide_153 : decode cX2_divide 153 = .ok (.iconst 1, 1) := by decide +kernel
theorem dX2_divide_154 : decode cX2_divide 154 = .ok (.invokevirtual 158, 3) := by decide +kernel
theorem dX2_divide_157 : decode cX2_divide 157 = .ok (.return_, 1) := by decide +kernel
theorem dX2_divide_158 : decode cX2_divide 158 = .ok (.lload 5, 2) := by decide +kernel
theorem dX2_divide_160 : decode cX2_divide 160 = .ok (.lload 7, 2) := by decide +kernel
theorem dX2_divide_162 : decode cX2_divide 162 = .ok (.lrem, 1) := by decide +kernel
theorem dX2_divide_163 : decode cX2_divide 163 = .ok (.l2i, 1) := by decide +kernel
theorem dX2_divide_164 : decode cX2_divide 164 = .ok (.istore 11, 2) := by decide +kernel
theorem dX2_divide_166 : decode cX2_divide 166 = .ok (.aload_n 0, 1) := by decide +kernel
theorem dX2_divide_167 : decode cX2_divide 167 = .ok (.getfield 9, 3) := by decide +kernel
theorem dX2_divide_170 : decode cX2_divide 170 = .ok (.iload_n 3, 1) := by decide +kernel
theorem dX2_divide_171 : decode cX2_divide 171 = .ok (.iload 11, 2) := by decide +kernel
theorem dX2_divide_173 : decode cX2_divide 173 = .ok (.bipush 16, 2) := by decide +kernel
theorem dX2_divide_175 : decode cX2_divide 175 = .ok (.ishl, 1) := by decide +kernel
theorem dX2_divide_176 : decode cX2_divide 176 = .ok (.aload_n 0, 1) := by decide +kernel
theorem dX2_divide_177 : decode cX2_divide 177 = .ok (.getfield 24, 3) := by decide +kernel
theorem dX2_divide_180 : decode cX2_divide 180 = .ok (.getstatic 49, 3) := by decide +kernel
theorem dX2_divide_183 : decode cX2_divide 183 = .ok (.lload 9, 2) := by decide +kernel
theorem dX2_divide_185 : decode cX2_divide 185 = .ok (.l2i, 1) := by decide +kernel
theorem dX2_divide_186 : decode cX2_divide 186 = .ok (.invokevirtual 203, 3) := by decide +kernel
theorem dX2_divide_189 : decode cX2_divide 189 = .ok (.ior, 1) := by decide +kernel
theorem dX2_divide_190 : decode cX2_divide 190 = .ok (.invokevirtual 143, 3) := by decide +kernel
theorem dX2_divide_193 : decode cX2_divide 193 = .ok (.return_, 1) := by decide +kernel
theorem dX2_shift_0 : decode cX2_shift 0 = .ok (.iload_n 1, 1) := by decide +kernel
theorem dX2_shift_1 : decode cX2_shift 1 = .ok (.invokestatic 107, 3) := by decide +kernel
theorem dX2_shift_4 : decode cX2_shift 4 = .ok (.istore_n 2, 1) := by decide +kernel
theorem dX2_shift_5 : decode cX2_shift 5 = .ok (.iload_n 1, 1) := by decide +kernel
theorem dX2_shift_6 : decode cX2_shift 6 = .ok (.invokestatic 98, 3) := by decide +kernel
theorem dX2_shift_9 : decode cX2_shift 9 = .ok (.iconst 3, 1) := by decide +kernel
theorem dX2_shift_10 : decode cX2_shift 10 = .ok (.if_icmp .eq 66, 3) := by decide +kernel
theorem dX2_shift_13 : decode cX2_shift 13 = .ok (.iload_n 1, 1) := by decide +kernel
theorem dX2_shift_14 : decode cX2_shift 14 = .ok (.invokestatic 98, 3) := by decide +kernel
theorem dX2_shift_17 : decode cX2_shift 17 = .ok (.invokestatic 181, 3) := by decide +kernel
theorem dX2_shift_20 : decode cX2_shift 20 = .ok (.astore_n 3, 1) := by decide +kernel
theorem dX2_shift_21 : decode cX2_shift 21 = .ok (.iload_n 1, 1) := by decide +kernel
theorem dX2_shift_22 : decode cX2_shift 22 = .ok (.invokestatic 121, 3) := by decide +kernel
theorem dX2_shift_25 : decode cX2_shift 25 = .ok (.invokestatic 256, 3) := by decide +kernel
theorem dX2_shift_28 : decode cX2_shift 28 = .ok (.lstore 4, 2) := by decide +kernel
theorem dX2_shift_30 : decode cX2_shift 30 = .ok (.aload_n 0, 1) := by decide +kernel
theorem dX2_shift_31 : decode cX2_shift 31 = .ok (.getfield 15, 3) := by decide +kernel
theorem dX2_shift_34 : decode cX2_shift 34 = .ok (.aload_n 3, 1) := by decide +kernel
theorem dX2_shift_35 : decode cX2_shift 35 = .ok (.lload 4, 2) := by decide +kernel
theorem dX2_shift_37 : decode cX2_shift 37 = .ok (.invokevirtual 154, 3) := by decide +kernel
theorem dX2_shift_40 : decode cX2_shift 40 = .ok (.istore 6, 2) := by decide +kernel
theorem dX2_shift_42 : decode cX2_shift 42 = .ok (.aload_n 0, 1) := by decide +kernel
theorem dX2_shift_43 : decode cX2_shift 43 = .ok (.getfield 15, 3) := by decide +kernel
theorem dX2_shift_46 : decode cX2_shift 46 = .ok (.aload_n 3, 1) := by decide +kernel
theorem dX2_shift_47 : decode cX2_shift 47 = .ok (.lload 4, 2) := by decide +kernel
theorem dX2_shift_49 : decode cX2_shift 49 = .ok (.aload_n 0, 1) := by decide +kernel
theorem dX2_shift_50 : decode cX2_shift 50 = .ok (.getfield 24, 3) := by decide +kernel
theorem dX2_shift_53 : decode cX2_shift 53 = .ok (.aload_n 3, 1) := by decide +kernel
theorem dX2_shift_54 : decode cX2_shift 54 = .ok (.iload 6, 2) := by decide +kernel
theorem dX2_shift_56 : decode cX2_shift 56 = .ok (.aload_n 0, 1) := by decide +kernel
theorem dX2_shift_57 : decode cX2_shift 57 = .ok (.iload_n 1, 1) := by decide +kernel
theorem dX2_shift_58 : decode cX2_shift 58 = .ok (.invokevirtual 335, 3) := by decide +kernel
theorem dX2_shift_61 : decode cX2_shift 61 = .ok (.iload_n 1, 1) := by decide +kernel
theorem dX2_shift_62 : decode cX2_shift 62 = .ok (.iconst 3, 1) := by decide +kernel
theorem dX2_shift_63 : decode cX2_shift 63 = .ok (.iushr, 1) := by decide +kernel
theorem dX2_shift_64 : decode cX2_shift 64 = .ok (.iconst 3, 1) := by decide +kernel
theorem dX2_shift_65 : decode cX2_shift 65 = .ok (.iand, 1) := by decide +kernel
theorem dX2_shift_66 : decode cX2_shift 66 = .ok (.iload_n 2, 1) := by decide +kernel
theorem dX2_shift_67 : decode cX2_shift 67 = .ok (.invokevirtual 338, 3) := by decide +kernel
theorem dX2_shift_70 : decode cX2_shift 70 = .ok (.invokevirtual 161, 3) := by decide +kernel
theorem dX2_shift_73 : decode cX2_shift 73 = .ok (.goto 91, 3) := by decide +kernel
theorem dX2_shift_76 : decode cX2_shift 76 = .ok (.iload_n 1, 1) := by decide +kernel
theorem dX2_shift_77 : decode cX2_shift 77 = .ok (.sipush 2048, 3) := by decide +kernel
theorem dX2_shift_80 : decode cX2_shift 80 = .ok (.iand, 1) := by decide +kernel
theorem dX2_shift_81 : decode cX2_shift 81 = .ok (.ifCond .eq 10, 3) := by decide +kernel
theorem dX2_shift_84 : decode cX2_shift 84 = .ok (.aload_n 0, 1) := by decide +kernel
theorem dX2_shift_85 : decode cX2_shift 85 = .ok (.invokevirtual 178, 3) := by decide +kernel
theorem dX2_shift_88 : decode cX2_shift 88 = .ok (.goto 76, 3) := by decide +kernel
theorem dX2_shift_91 : decode cX2_shift 91 = .ok (.aload_n 0, 1) := by decide +kernel
theorem dX2_shift_92 : decode cX2_shift 92 = .ok (.sipush 508, 3) := by decide +kernel
theorem dX2_shift_95 : decode cX2_shift 95 = .ok (.iload_n 1, 1) := by decide +kernel
theorem dX2_shift_96 : decode cX2_shift 96 = .ok (.invokestatic 95, 3) := by decide +kernel
theorem dX2_shift_99 : decode cX2_shift 99 = .ok (.invokevirtual 146, 3) := by decide +kernel
theorem dX2_shift_102 : decode cX2_shift 102 = .ok (.ifCond .ne 62, 3) := by decide +kernel
theorem dX2_shift_105 : decode cX2_shift 105 = .ok (.aload_n 0, 1) := by decide +kernel
theorem dX2_shift_106 : decode cX2_shift 106 = .ok (.getfield 15, 3) := by decide +kernel
theorem dX2_shift_109 : decode cX2_shift 109 = .ok (.getstatic 49, 3) := by decide +kernel
theorem dX2_shift_112 : decode cX2_shift 112 = .ok (.iload_n 1, 1) := by decide +kernel
theorem dX2_shift_113 : decode cX2_shift 113 = .ok (.invokestatic 95, 3) := by decide +kernel
theorem dX2_shift_116 : decode cX2_shift 116 = .ok (.invokevirtual 150, 3) := by decide +kernel
theorem dX2_shift_119 : decode cX2_shift 119 = .ok (.lstore_n 3, 1) := by decide +kernel
theorem dX2_shift_120 : decode cX2_shift 120 = .ok (.aload_n 0, 1) := by decide +kernel
theorem dX2_shift_121 : decode cX2_shift 121 = .ok (.getfield 15, 3) := by decide +kernel
theorem dX2_shift_124 : decode cX2_shift 124 = .ok (.getstatic 49, 3) := by decide +kernel
theorem dX2_shift_127 : decode cX2_shift 127 = .ok (.lload_n 3, 1) := by decide +kernel
theorem dX2_shift_128 : decode cX2_shift 128 = .ok (.invokevirtual 154, 3) := by decide +kernel
theorem dX2_shift_131 : decode cX2_shift 131 = .ok (.istore 5, 2) := by decide +kernel
theorem dX2_shift_133 : decode cX2_shift 133 = .ok (.aload_n 0, 1) := by decide +kernel
theorem dX2_shift_134 : decode cX2_shift 134 = .ok (.getfield 15, 3) := by decide +kernel
theorem dX2_shift_137 : decode cX2_shift 137 = .ok (.getstatic 49, 3) := by decide +kernel
theorem dX2_shift_140 : decode cX2_shift 140 = .ok (.lload_n 3, 1) := by decide +kernel
theorem dX2_shift_141 : decode cX2_shift 141 = .ok (.aload_n 0, 1) := by decide +kernel
theorem dX2_shift_142 : decode cX2_shift 142 = .ok (.getfield 24, 3) := by decide +kernel
theorem dX2_shift_145 : decode cX2_shift 145 = .ok (.getstatic 49, 3) := by decide +kernel
theorem dX2_shift_148 : decode cX2_shift 148 = .ok (.iload 5, 2) := by decide +kernel
theorem dX2_shift_150 : decode cX2_shift 150 = .ok (.iconst 1, 1) := by decide +kernel
theorem dX2_shift_151 : decode cX2_shift 151 = .ok (.iload_n 1, 1) := by decide +kernel
theorem dX2_shift_152 : decode cX2_shift 152 = .ok (.bipush 9, 2) := by decide +kernel
theorem dX2_shift_154 : decode cX2_shift 154 = .ok (.iushr, 1) := by decide +kernel
theorem dX2_shift_155 : decode cX2_shift 155 = .ok (.iconst 3, 1) := by decide +kernel
theorem dX2_shift_156 : decode cX2_shift 156 = .ok (.iand, 1) := by decide +kernel
theorem dX2_shift_157 : decode cX2_shift 157 = .ok (.iload_n 2, 1) := by decide +kernel
theorem dX2_shift_158 : decode cX2_shift 158 = .ok (.invokevirtual 338, 3) := by decide +kernel
theorem dX2_shift_161 : decode cX2_shift 161 = .ok (.invokevirtual 161, 3) := by decide +kernel
theorem dX2_shift_164 : decode cX2_shift 164 = .ok (.return_, 1) := by decide +kernel
theorem dX2_times_0 : decode cX2_times 0 = .ok (.iload_n 1, 1) := by decide +kernel
theorem dX2_times_1 : decode cX2_times 1 = .ok (.bipush 32, 2) := by decide +kernel
theorem dX2_times_3 : decode cX2_times 3 = .ok (.iand, 1) := by decide +kernel
theorem dX2_times_4 : decode cX2_times 4 = .ok (.ifCond .eq 18, 3) := by decide +kernel
theorem dX2_times_7 : decode cX2_times 7 = .ok (.aload_n 0, 1) := by decide +kernel
theorem dX2_times_8 : decode cX2_times 8 = .ok (.getfield 9, 3) := by decide +kernel
theorem dX2_times_11 : decode cX2_times 11 = .ok (.iload_n 1, 1) := by decide +kernel
theorem dX2_times_12 : decode cX2_times 12 = .ok (.invokestatic 101, 3) := by decide +kernel
theorem dX2_times_15 : decode cX2_times 15 = .ok (.invokevirtual 124, 3) := by decide +kernel
theorem dX2_times_18 : decode cX2_times 18 = .ok (.bipush 63, 2) := by decide +kernel
theorem dX2_times_20 : decode cX2_times 20 = .ok (.iand, 1) := by decide +kernel
theorem dX2_times_21 : decode cX2_times 21 = .ok (.ireturn, 1) := by decide +kernel
theorem dX2_times_22 : decode cX2_times 22 = .ok (.iload_n 1, 1) := by decide +kernel
theorem dX2_times_23 : decode cX2_times 23 = .ok (.invokestatic 101, 3) := by decide +kernel
theorem dX2_times_26 : decode cX2_times 26 = .ok (.ifCond .ne 8, 3) := by decide +kernel
theorem dX2_times_29 : decode cX2_times 29 = .ok (.bipush 8, 2) := by decide +kernel
theorem dX2_times_31 : decode cX2_times 31 = .ok (.goto 7, 3) := by decide +kernel
theorem dX2_times_34 : decode cX2_times 34 = .ok (.iload_n 1, 1) := by decide +kernel
theorem dX2_times_35 : decode cX2_times 35 = .ok (.invokestatic 101, 3) := by decide +kernel
theorem dX2_times_38 : decode cX2_times 38 = .ok (.ireturn, 1) := by decide +kernel
theorem dX3_init_0 : decode cX3_init 0 = .ok (.aload_n 0, 1) := by decide +kernel
theorem dX3_init_1 : decode cX3_init 1 = .ok (.invokespecial 1, 3) := by decide +kernel
theorem dX3_init_4 : decode cX3_init 4 = .ok (.aload_n 0, 1) := by decide +kernel
theorem dX3_init_5 : decode cX3_init 5 = .ok (.sipush 4096, 3) := by decide +kernel
theorem dX3_init_8 : decode cX3_init 8 = .ok (.newarray .byte, 2) := by decide +kernel
theorem dX3_init_10 : decode cX3_init 10 = .ok (.putfield 9, 3) := by decide +kernel
theorem dX3_init_13 : decode cX3_init 13 = .ok (.return_, 1) := by decide +kernel
theorem dX3_load_0 : decode cX3_load 0 = .ok (.iconst 0, 1) := by decide +kernel
theorem dX3_load_1 : decode cX3_load 1 = .ok (.istore_n 3, 1) := by decide +kernel
theorem dX3_load_2 : decode cX3_load 2 = .ok (.iconst 0, 1) := by decide +kernel
theorem dX3_load_3 : decode cX3_load 3 = .ok (.istore 4, 2) := by decide +kernel
theorem dX3_load_5 : decode cX3_load 5 = .ok (.iload 4, 2) := by decide +kernel
theorem dX3_load_7 : decode cX3_load 7 = .ok (.iload_n 2, 1) := by decide +kernel
theorem dX3_load_8 : decode cX3_load 8 = .ok (.if_icmp .ge 32, 3) := by decide +kernel
theorem dX3_load_11 : decode cX3_load 11 = .ok (.iload_n 3, 1) := by decide +kernel
theorem dX3_load_12 : decode cX3_load 12 = .ok (.bipush 8, 2) := by decide +kernel
theorem dX3_load_14 : decode cX3_load 14 = .ok (.ishl, 1) := by decide +kernel
theorem dX3_load_15 : decode cX3_load 15 = .ok (.aload_n 0, 1) := by decide +kernel
theorem dX3_load_16 : decode cX3_load 16 = .ok (.getfield 9, 3) := by decide +kernel
theorem dX3_load_19 : decode cX3_load 19 = .ok (.iload_n 1, 1) := by decide +kernel
theorem dX3_load_20 : decode cX3_load 20 = .ok (.iload 4, 2) := by decide +kernel
theorem dX3_load_22 : decode cX3_load 22 = .ok (.iadd, 1) := by decide +kernel
theorem dX3_load_23 : decode cX3_load 23 = .ok (.sipush 4095, 3) := by decide +kernel
theorem dX3_load_26 : decode cX3_load 26 = .ok (.iand, 1) := by decide +kernel
theorem dX3_load_27 : decode cX3_load 27 = .ok (.baload, 1) := by decide +kernel
theorem dX3_load_28 : decode cX3_load 28 = .ok (.sipush 255, 3) := by decide +kernel
theorem dX3_load_31 : decode cX3_load 31 = .ok (.iand, 1) := by decide +kernel
theorem dX3_load_32 : decode cX3_load 32 = .ok (.ior, 1) := by decide +kernel
theorem dX3_load_33 : decode cX3_load 33 = .ok (.istore_n 3, 1) := by decide +kernel
theorem dX3_load_34 : decode cX3_load 34 = .ok (.iinc 4 1, 3) := by decide +kernel
theorem dX3_load_37 : decode cX3_load 37 = .ok (.goto (-32), 3) := by decide +kernel
theorem dX3_load_40 : decode cX3_load 40 = .ok (.iload_n 3, 1) := by decide +kernel
theorem dX3_load_41 : decode cX3_load 41 = .ok (.ireturn, 1) := by decide +kernel
theorem dX3_store_0 : decode cX3_store 0 = .ok (.iload_n 2, 1) := by decide +kernel
theorem dX3_store_1 : decode cX3_store 1 = .ok (.istore 4, 2) := by decide +kernel
theorem dX3_store_3 : decode cX3_store 3 = .ok (.iload_n 3, 1) := by decide +kernel
theorem dX3_store_4 : decode cX3_store 4 = .ok (.iconst 1, 1) := by decide +kernel
theorem dX3_store_5 : decode cX3_store 5 = .ok (.isub, 1) := by decide +kernel
theorem dX3_store_6 : decode cX3_store 6 = .ok (.istore 5, 2) := by decide +kernel
theorem dX3_store_8 : decode cX3_store 8 = .ok (.iload 5, 2) := by decide +kernel
theorem dX3_store_10 : decode cX3_store 10 = .ok (.ifCond .lt 32, 3) := by decide +kernel
theorem dX3_store_13 : decode cX3_store 13 = .ok (.aload_n 0, 1) := by decide +kernel
theorem dX3_store_14 : decode cX3_store 14 = .ok (.getfield 9, 3) := by decide +kernel
theorem dX3_store_17 : decode cX3_store 17 = .ok (.iload_n 1, 1) := by decide +kernel
theorem dX3_store_18 : decode cX3_store 18 = .ok (.iload 5, 2) := by decide +kernel
theorem dX3_store_20 : decode cX3_store 20 = .ok (.iadd, 1) := by decide +kernel
theorem dX3_store_21 : decode cX3_store 21 = .ok (.sipush 4095, 3) := by decide +kernel
theorem dX3_store_24 : decode cX3_store 24 = .ok (.iand, 1) := by decide +kernel
theorem dX3_store_25 : decode cX3_store 25 = .ok (.iload 4, 2) := by decide +kernel
theorem dX3_store_27 : decode cX3_store 27 = .ok (.i2b, 1) := by decide +kernel
theorem dX3_store_28 : decode cX3_store 28 = .ok (.bastore, 1) := by decide +kernel
theorem dX3_store_29 : decode cX3_store 29 = .ok (.iload 4, 2) := by decide +kernel
theorem dX3_store_31 : decode cX3_store 31 = .ok (.bipush 8, 2) := by decide +kernel
theorem dX3_store_33 : decode cX3_store 33 = .ok (.iushr, 1) := by decide +kernel
theorem dX3_store_34 : decode cX3_store 34 = .ok (.istore 4, 2) := by decide +kernel
theorem dX3_store_36 : decode cX3_store 36 = .ok (.iinc 5 (-1), 3) := by decide +kernel
theorem dX3_store_39 : decode cX3_store 39 = .ok (.goto (-31), 3) := by decide +kernel
theorem dX3_store_42 : decode cX3_store 42 = .ok (.return_, 1) := by decide +kernel
theorem dX3_weighted_0 : decode cX3_weighted 0 = .ok (.iconst 0, 1) := by decide +kernel
theorem dX3_weighted_1 : decode cX3_weighted 1 = .ok (.istore_n 1, 1) := by decide +kernel
theorem dX3_weighted_2 : decode cX3_weighted 2 = .ok (.iconst 0, 1) := by decide +kernel
theorem dX3_weighted_3 : decode cX3_weighted 3 = .ok (.istore_n 2, 1) := by decide +kernel
theorem dX3_weighted_4 : decode cX3_weighted 4 = .ok (.iload_n 2, 1) := by decide +kernel
theorem dX3_weighted_5 : decode cX3_weighted 5 = .ok (.sipush 4096, 3) := by decide +kernel
theorem dX3_weighted_8 : decode cX3_weighted 8 = .ok (.if_icmp .ge 26, 3) := by decide +kernel
theorem dX3_weighted_11 : decode cX3_weighted 11 = .ok (.iload_n 1, 1) := by decide +kernel
theorem dX3_weighted_12 : decode cX3_weighted 12 = .ok (.aload_n 0, 1) := by decide +kernel
theorem dX3_weighted_13 : decode cX3_weighted 13 = .ok (.getfield 9, 3) := by decide +kernel
theorem dX3_weighted_16 : decode cX3_weighted 16 = .ok (.iload_n 2, 1) := by decide +kernel
theorem dX3_weighted_17 : decode cX3_weighted 17 = .ok (.baload, 1) := by decide +kernel
theorem dX3_weighted_18 : decode cX3_weighted 18 = .ok (.sipush 255, 3) := by decide +kernel
theorem dX3_weighted_21 : decode cX3_weighted 21 = .ok (.iand, 1) := by decide +kernel
theorem dX3_weighted_22 : decode cX3_weighted 22 = .ok (.iload_n 2, 1) := by decide +kernel
theorem dX3_weighted_23 : decode cX3_weighted 23 = .ok (.iconst 1, 1) := by decide +kernel
theorem dX3_weighted_24 : decode cX3_weighted 24 = .ok (.iadd, 1) := by decide +kernel
theorem dX3_weighted_25 : decode cX3_weighted 25 = .ok (.imul, 1) := by decide +kernel
theorem dX3_weighted_26 : decode cX3_weighted 26 = .ok (.iadd, 1) := by decide +kernel
theorem dX3_weighted_27 : decode cX3_weighted 27 = .ok (.istore_n 1, 1) := by decide +kernel
theorem dX3_weighted_28 : decode cX3_weighted 28 = .ok (.iinc 2 1, 3) := by decide +kernel
theorem dX3_weighted_31 : decode cX3_weighted 31 = .ok (.goto (-27), 3) := by decide +kernel
theorem dX3_weighted_34 : decode cX3_weighted 34 = .ok (.iload_n 1, 1) := by decide +kernel
theorem dX3_weighted_35 : decode cX3_weighted 35 = .ok (.ireturn, 1) := by decide +kernel
theorem dX4_init_0 : decode cX4_init 0 = .ok (.aload_n 0, 1) := by decide +kernel
theorem dX4_init_1 : decode cX4_init 1 = .ok (.invokespecial 3, 3) := by decide +kernel
theorem dX4_init_4 : decode cX4_init 4 = .ok (.aload_n 0, 1) := by decide +kernel
theorem dX4_init_5 : decode cX4_init 5 = .ok (.bipush 17, 2) := by decide +kernel
theorem dX4_init_7 : decode cX4_init 7 = .ok (.newarray .int, 2) := by decide +kernel
theorem dX4_init_9 : decode cX4_init 9 = .ok (.putfield 9, 3) := by decide +kernel
theorem dX4_init_12 : decode cX4_init 12 = .ok (.aload_n 0, 1) := by decide +kernel
theorem dX4_init_13 : decode cX4_init 13 = .ok (.bipush 17, 2) := by decide +kernel
theorem dX4_init_15 : decode cX4_init 15 = .ok (.newarray .int, 2) := by decide +kernel
theorem dX4_init_17 : decode cX4_init 17 = .ok (.putfield 15, 3) := by decide +kernel
theorem dX4_init_20 : decode cX4_init 20 = .ok (.aload_n 0, 1) := by decide +kernel
theorem dX4_init_21 : decode cX4_init 21 = .ok (.getfield 9, 3) := by decide +kernel
theorem dX4_init_24 : decode cX4_init 24 = .ok (.bipush 15, 2) := by decide +kernel
theorem dX4_init_26 : decode cX4_init 26 = .ok (.sipush 1024, 3) := by decide +kernel
theorem dX4_init_29 : decode cX4_init 29 = .ok (.iastore, 1) := by decide +kernel
theorem dX4_init_30 : decode cX4_init 30 = .ok (.aload_n 0, 1) := by decide +kernel
theorem dX4_init_31 : decode cX4_init 31 = .ok (.sipush 1024, 3) := by decide +kernel
theorem dX4_init_34 : decode cX4_init 34 = .ok (.putfield 18, 3) := by decide +kernel
theorem dX4_init_37 : decode cX4_init 37 = .ok (.aload_n 0, 1) := by decide +kernel
theorem dX4_init_38 : decode cX4_init 38 = .ok (.sipush 8192, 3) := by decide +kernel
theorem dX4_init_41 : decode cX4_init 41 = .ok (.putfield 22, 3) := by decide +kernel
theorem dX4_init_44 : decode cX4_init 44 = .ok (.return_, 1) := by decide +kernel
theorem dX4_clear_0 : decode cX4_clear 0 = .ok (.aload_n 0, 1) := by decide +kernel
theorem dX4_clear_1 : decode cX4_clear 1 = .ok (.getfield 9, 3) := by decide +kernel
theorem dX4_clear_4 : decode cX4_clear 4 = .ok (.iconst 0, 1) := by decide +kernel
theorem dX4_clear_5 : decode cX4_clear 5 = .ok (.invokestatic 25, 3) := by decide +kernel
theorem dX4_clear_8 : decode cX4_clear 8 = .ok (.aload_n 0, 1) := by decide +kernel
theorem dX4_clear_9 : decode cX4_clear 9 = .ok (.getfield 9, 3) := by decide +kernel
theorem dX4_clear_12 : decode cX4_clear 12 = .ok (.bipush 15, 2) := by decide +kernel
theorem dX4_clear_14 : decode cX4_clear 14 = .ok (.sipush 1024, 3) := by decide +kernel
theorem dX4_clear_17 : decode cX4_clear 17 = .ok (.iastore, 1) := by decide +kernel
theorem dX4_clear_18 : decode cX4_clear 18 = .ok (.aload_n 0, 1) := by decide +kernel
theorem dX4_clear_19 : decode cX4_clear 19 = .ok (.sipush 1024, 3) := by decide +kernel
theorem dX4_clear_22 : decode cX4_clear 22 = .ok (.putfield 18, 3) := by decide +kernel
theorem dX4_clear_25 : decode cX4_clear 25 = .ok (.aload_n 0, 1) := by decide +kernel
theorem dX4_clear_26 : decode cX4_clear 26 = .ok (.sipush 8192, 3) := by decide +kernel
theorem dX4_clear_29 : decode cX4_clear 29 = .ok (.putfield 22, 3) := by decide +kernel
theorem dX4_clear_32 : decode cX4_clear 32 = .ok (.return_, 1) := by decide +kernel
theorem dX4_keep_0 : decode cX4_keep 0 = .ok (.aload_n 0, 1) := by decide +kernel
theorem dX4_keep_1 : decode cX4_keep 1 = .ok (.getfield 9, 3) := by decide +kernel
theorem dX4_keep_4 : decode cX4_keep 4 = .ok (.iconst 0, 1) := by decide +kernel
theorem dX4_keep_5 : decode cX4_keep 5 = .ok (.aload_n 0, 1) := by decide +kernel
theorem dX4_keep_6 : decode cX4_keep 6 = .ok (.getfield 15, 3) := by decide +kernel
theorem dX4_keep_9 : decode cX4_keep 9 = .ok (.iconst 0, 1) := by decide +kernel
theorem dX4_keep_10 : decode cX4_keep 10 = .ok (.bipush 17, 2) := by decide +kernel
theorem dX4_keep_12 : decode cX4_keep 12 = .ok (.invokestatic 31, 3) := by decide +kernel
theorem dX4_keep_15 : decode cX4_keep 15 = .ok (.aload_n 0, 1) := by decide +kernel
theorem dX4_keep_16 : decode cX4_keep 16 = .ok (.aload_n 0, 1) := by decide +kernel
theorem dX4_keep_17 : decode cX4_keep 17 = .ok (.getfield 18, 3) := by decide +kernel
theorem dX4_keep_20 : decode cX4_keep 20 = .ok (.putfield 37, 3) := by decide +kernel
theorem dX4_keep_23 : decode cX4_keep 23 = .ok (.aload_n 0, 1) := by decide +kernel
theorem dX4_keep_24 : decode cX4_keep 24 = .ok (.aload_n 0, 1) := by decide +kernel
theorem dX4_keep_25 : decode cX4_keep 25 = .ok (.getfield 22, 3) := by decide +kernel
theorem dX4_keep_28 : decode cX4_keep 28 = .ok (.putfield 40, 3) := by decide +kernel
theorem dX4_keep_31 : decode cX4_keep 31 = .ok (.return_, 1) := by decide +kernel
theorem dX4_bringBack_0 : decode cX4_bringBack 0 = .ok (.aload_n 0, 1) := by decide +kernel
theorem dX4_bringBack_1 : decode cX4_bringBack 1 = .ok (.getfield 15, 3) := by decide +kernel
theorem dX4_bringBack_4 : decode cX4_bringBack 4 = .ok (.iconst 0, 1) := by decide +kernel
theorem dX4_bringBack_5 : decode cX4_bringBack 5 = .ok (.aload_n 0, 1) := by decide +kernel
theorem dX4_bringBack_6 : decode cX4_bringBack 6 = .ok (.getfield 9, 3) := by decide +kernel
theorem dX4_bringBack_9 : decode cX4_bringBack 9 = .ok (.iconst 0, 1) := by decide +kernel
theorem dX4_bringBack_10 : decode cX4_bringBack 10 = .ok (.bipush 17, 2) := by decide +kernel
theorem dX4_bringBack_12 : decode cX4_bringBack 12 = .ok (.invokestatic 31, 3) := by decide +kernel
theorem dX4_bringBack_15 : decode cX4_bringBack 15 = .ok (.aload_n 0, 1) := by decide +kernel
theorem dX4_bringBack_16 : decode cX4_bringBack 16 = .ok (.aload_n 0, 1) := by decide +kernel
theorem dX4_bringBack_17 : decode cX4_bringBack 17 = .ok (.getfield 37, 3) := by decide +kernel
theorem dX4_bringBack_20 : decode cX4_bringBack 20 = .ok (.putfield 18, 3) := by decide +kernel
theorem dX4_bringBack_23 : decode cX4_bringBack 23 = .ok (.aload_n 0, 1) := by decide +kernel
theorem dX4_bringBack_24 : decode cX4_bringBack 24 = .ok (.aload_n 0, 1) := by decide +kernel
theorem dX4_bringBack_25 : decode cX4_bringBack 25 = .ok (.getfield 40, 3) := by decide +kernel
theorem dX4_bringBack_28 : decode cX4_bringBack 28 = .ok (.putfield 22, 3) := by decide +kernel
theorem dX4_bringBack_31 : decode cX4_bringBack 31 = .ok (.return_, 1) := by decide +kernel
theorem dX4_get_0 : decode cX4_get 0 = .ok (.aload_n 0, 1) := by decide +kernel
theorem dX4_get_1 : decode cX4_get 1 = .ok (.getfield 9, 3) := by decide +kernel
theorem dX4_get_4 : decode cX4_get 4 = .ok (.iload_n 1, 1) := by decide +kernel
theorem dX4_get_5 : decode cX4_get 5 = .ok (.bipush 15, 2) := by decide +kernel
theorem dX4_get_7 : decode cX4_get 7 = .ok (.iand, 1) := by decide +kernel
theorem dX4_get_8 : decode cX4_get 8 = .ok (.iaload, 1) := by decide +kernel
theorem dX4_get_9 : decode cX4_get 9 = .ok (.ireturn, 1) := by decide +kernel
theorem dX4_set_0 : decode cX4_set 0 = .ok (.aload_n 0, 1) := by decide +kernel
theorem dX4_set_1 : decode cX4_set 1 = .ok (.getfield 9, 3) := by decide +kernel
theorem dX4_set_4 : decode cX4_set 4 = .ok (.iload_n 1, 1) := by decide +kernel
theorem dX4_set_5 : decode cX4_set 5 = .ok (.bipush 15, 2) := by decide +kernel
theorem dX4_set_7 : decode cX4_set 7 = .ok (.iand, 1) := by decide +kernel
theorem dX4_set_8 : decode cX4_set 8 = .ok (.iload_n 2, 1) := by decide +kernel
theorem dX4_set_9 : decode cX4_set 9 = .ok (.iastore, 1) := by decide +kernel
theorem dX4_set_10 : decode cX4_set 10 = .ok (.return_, 1) := by decide +kernel
theorem dX4_stackOf_0 : decode cX4_stackOf 0 = .ok (.aload_n 0, 1) := by decide +kernel
theorem dX4_stackOf_1 : decode cX4_stackOf 1 = .ok (.getfield 9, 3) := by decide +kernel
theorem dX4_stackOf_4 : decode cX4_stackOf 4 = .ok (.aload_n 0, 1) := by decide +kernel
theorem dX4_stackOf_5 : decode cX4_stackOf 5 = .ok (.getfield 22, 3) := by decide +kernel
theorem dX4_stackOf_8 : decode cX4_stackOf 8 = .ok (.sipush 8192, 3) := by decide +kernel
theorem dX4_stackOf_11 : decode cX4_stackOf 11 = .ok (.iand, 1) := by decide +kernel
theorem dX4_stackOf_12 : decode cX4_stackOf 12 = .ok (.iload_n 1, 1) := by decide +kernel
theorem dX4_stackOf_13 : decode cX4_stackOf 13 = .ok (.if_icmp .ne 8, 3) := by decide +kernel
theorem dX4_stackOf_16 : decode cX4_stackOf 16 = .ok (.bipush 15, 2) := by decide +kernel
theorem dX4_stackOf_18 : decode cX4_stackOf 18 = .ok (.goto 5, 3) := by decide +kernel
theorem dX4_stackOf_21 : decode cX4_stackOf 21 = .ok (.bipush 16, 2) := by decide +kernel
theorem dX4_stackOf_23 : decode cX4_stackOf 23 = .ok (.iaload, 1) := by decide +kernel
theorem dX4_stackOf_24 : decode cX4_stackOf 24 = .ok (.ireturn, 1) := by decide +kernel
theorem dX4_setStackOf_0 : decode cX4_setStackOf 0 = .ok (.aload_n 0, 1) := by decide +kernel
theorem dX4_setStackOf_1 : decode cX4_setStackOf 1 = .ok (.getfield 9, 3) := by decide +kernel
theorem dX4_setStackOf_4 : decode cX4_setStackOf 4 = .ok (.aload_n 0, 1) := by decide +kernel
theorem dX4_setStackOf_5 : decode cX4_setStackOf 5 = .ok (.getfield 22, 3) := by decide +kernel
theorem dX4_setStackOf_8 : decode cX4_setStackOf 8 = .ok (.sipush 8192, 3) := by decide +kernel
theorem dX4_setStackOf_11 : decode cX4_setStackOf 11 = .ok (.iand, 1) := by decide +kernel
theorem dX4_setStackOf_12 : decode cX4_setStackOf 12 = .ok (.iload_n 1, 1) := by decide +kernel
theorem dX4_setStackOf_13 : decode cX4_setStackOf 13 = .ok (.if_icmp .ne 8, 3) := by decide +kernel
theorem dX4_setStackOf_16 : decode cX4_setStackOf 16 = .ok (.bipush 15, 2) := by decide +kernel
theorem dX4_setStackOf_18 : decode cX4_setStackOf 18 = .ok (.goto 5, 3) := by decide +kernel
theorem dX4_setStackOf_21 : decode cX4_setStackOf 21 = .ok (.bipush 16, 2) := by decide +kernel
theorem dX4_setStackOf_23 : decode cX4_setStackOf 23 = .ok (.iload_n 2, 1) := by decide +kernel
theorem dX4_setStackOf_24 : decode cX4_setStackOf 24 = .ok (.iastore, 1) := by decide +kernel
theorem dX4_setStackOf_25 : decode cX4_setStackOf 25 = .ok (.return_, 1) := by decide +kernel
theorem dX4_setStatus_0 : decode cX4_setStatus 0 = .ok (.iload_n 1, 1) := by decide +kernel
theorem dX4_setStatus_1 : decode cX4_setStatus 1 = .ok (.aload_n 0, 1) := by decide +kernel
theorem dX4_setStatus_2 : decode cX4_setStatus 2 = .ok (.getfield 22, 3) := by decide +kernel
theorem dX4_setStatus_5 : decode cX4_setStatus 5 = .ok (.ixor, 1) := by decide +kernel
theorem dX4_setStatus_6 : decode cX4_setStatus 6 = .ok (.sipush 8192, 3) := by decide +kernel
theorem dX4_setStatus_9 : decode cX4_setStatus 9 = .ok (.iand, 1) := by decide +kernel
theorem dX4_setStatus_10 : decode cX4_setStatus 10 = .ok (.ifCond .eq 33, 3) := by decide +kernel
theorem dX4_setStatus_13 : decode cX4_setStatus 13 = .ok (.aload_n 0, 1) := by decide +kernel
theorem dX4_setStatus_14 : decode cX4_setStatus 14 = .ok (.getfield 9, 3) := by decide +kernel
theorem dX4_setStatus_17 : decode cX4_setStatus 17 = .ok (.bipush 16, 2) := by decide +kernel
theorem dX4_setStatus_19 : decode cX4_setStatus 19 = .ok (.iaload, 1) := by decide +kernel
theorem dX4_setStatus_20 : decode cX4_setStatus 20 = .ok (.istore_n 2, 1) := by decide +kernel
theorem dX4_setStatus_21 : decode cX4_setStatus 21 = .ok (.aload_n 0, 1) := by decide +kernel
theorem dX4_setStatus_22 : decode cX4_setStatus 22 = .ok (.getfield 9, 3) := by decide +kernel
theorem dX4_setStatus_25 : decode cX4_setStatus 25 = .ok (.bipush 16, 2) := by decide +kernel
theorem dX4_setStatus_27 : decode cX4_setStatus 27 = .ok (.aload_n 0, 1) := by decide +kernel
theorem dX4_setStatus_28 : decode cX4_setStatus 28 = .ok (.getfield 9, 3) := by decide +kernel
theorem dX4_setStatus_31 : decode cX4_setStatus 31 = .ok (.bipush 15, 2) := by decide +kernel
theorem dX4_setStatus_33 : decode cX4_setStatus 33 = .ok (.iaload, 1) := by decide +kernel
theorem dX4_setStatus_34 : decode cX4_setStatus 34 = .ok (.iastore, 1) := by decide +kernel
theorem dX4_setStatus_35 : decode cX4_setStatus 35 = .ok (.aload_n 0, 1) := by decide +kernel
theorem dX4_setStatus_36 : decode cX4_setStatus 36 = .ok (.getfield 9, 3) := by decide +kernel
theorem dX4_setStatus_39 : decode cX4_setStatus 39 = .ok (.bipush 15, 2) := by decide +kernel
theorem dX4_setStatus_41 : decode cX4_setStatus 41 = .ok (.iload_n 2, 1) := by decide +kernel
theorem dX4_setStatus_42 : decode cX4_setStatus 42 = .ok (.iastore, 1) := by decide +kernel
theorem dX4_setStatus_43 : decode cX4_setStatus 43 = .ok (.aload_n 0, 1) := by decide +kernel
theorem dX4_setStatus_44 : decode cX4_setStatus 44 = .ok (.iload_n 1, 1) := by decide +kernel
theorem dX4_setStatus_45 : decode cX4_setStatus 45 = .ok (.ldc 43, 2) := by decide +kernel
theorem dX4_setStatus_47 : decode cX4_setStatus 47 = .ok (.iand, 1) := by decide +kernel
theorem dX4_setStatus_48 : decode cX4_setStatus 48 = .ok (.putfield 22, 3) := by decide +kernel
theorem dX4_setStatus_51 : decode cX4_setStatus 51 = .ok (.return_, 1) := by decide +kernel
theorem dX4_setFlags_0 : decode cX4_setFlags 0 = .ok (.aload_n 0, 1) := by decide +kernel
theorem dX4_setFlags_1 : decode cX4_setFlags 1 = .ok (.aload_n 0, 1) := by decide +kernel
theorem dX4_setFlags_2 : decode cX4_setFlags 2 = .ok (.getfield 22, 3) := by decide +kernel
theorem dX4_setFlags_5 : decode cX4_setFlags 5 = .ok (.bipush (-32), 2) := by decide +kernel
theorem dX4_setFlags_7 : decode cX4_setFlags 7 = .ok (.iand, 1) := by decide +kernel
theorem dX4_setFlags_8 : decode cX4_setFlags 8 = .ok (.iload_n 1, 1) := by decide +kernel
theorem dX4_setFlags_9 : decode cX4_setFlags 9 = .ok (.bipush 31, 2) := by decide +kernel
theorem dX4_setFlags_11 : decode cX4_setFlags 11 = .ok (.iand, 1) := by decide +kernel
theorem dX4_setFlags_12 : decode cX4_setFlags 12 = .ok (.ior, 1) := by decide +kernel
theorem dX4_setFlags_13 : decode cX4_setFlags 13 = .ok (.putfield 22, 3) := by decide +kernel
theorem dX4_setFlags_16 : decode cX4_setFlags 16 = .ok (.return_, 1) := by decide +kernel
theorem dX4_has_0 : decode cX4_has 0 = .ok (.aload_n 0, 1) := by decide +kernel
theorem dX4_has_1 : decode cX4_has 1 = .ok (.getfield 22, 3) := by decide +kernel
theorem dX4_has_4 : decode cX4_has 4 = .ok (.iload_n 1, 1) := by decide +kernel
theorem dX4_has_5 : decode cX4_has 5 = .ok (.iand, 1) := by decide +kernel
theorem dX4_has_6 : decode cX4_has 6 = .ok (.ifCond .eq 7, 3) := by decide +kernel
theorem dX4_has_9 : decode cX4_has 9 = .ok (.iconst 1, 1) := by decide +kernel
theorem dX4_has_10 : decode cX4_has 10 = .ok (.goto 4, 3) := by decide +kernel
theorem dX4_has_13 : decode cX4_has 13 = .ok (.iconst 0, 1) := by decide +kernel
theorem dX4_has_14 : decode cX4_has 14 = .ok (.ireturn, 1) := by decide +kernel
theorem dX4_mark_0 : decode cX4_mark 0 = .ok (.aload_n 0, 1) := by decide +kernel
theorem dX4_mark_1 : decode cX4_mark 1 = .ok (.iload_n 2, 1) := by decide +kernel
theorem dX4_mark_2 : decode cX4_mark 2 = .ok (.ifCond .eq 12, 3) := by decide +kernel
theorem dX4_mark_5 : decode cX4_mark 5 = .ok (.aload_n 0, 1) := by decide +kernel
theorem dX4_mark_6 : decode cX4_mark 6 = .ok (.getfield 22, 3) := by decide +kernel
theorem dX4_mark_9 : decode cX4_mark 9 = .ok (.iload_n 1, 1) := by decide +kernel
theorem dX4_mark_10 : decode cX4_mark 10 = .ok (.ior, 1) := by decide +kernel
theorem dX4_mark_11 : decode cX4_mark 11 = .ok (.goto 11, 3) := by decide +kernel
theorem dX4_mark_14 : decode cX4_mark 14 = .ok (.aload_n 0, 1) := by decide +kernel
theorem dX4_mark_15 : decode cX4_mark 15 = .ok (.getfield 22, 3) := by decide +kernel
theorem dX4_mark_18 : decode cX4_mark 18 = .ok (.iload_n 1, 1) := by decide +kernel
theorem dX4_mark_19 : decode cX4_mark 19 = .ok (.iconst (-1), 1) := by decide +kernel
theorem dX4_mark_20 : decode cX4_mark 20 = .ok (.ixor, 1) := by decide +kernel
theorem dX4_mark_21 : decode cX4_mark 21 = .ok (.iand, 1) := by decide +kernel
theorem dX4_mark_22 : decode cX4_mark 22 = .ok (.putfield 22, 3) := by decide +kernel
theorem dX4_mark_25 : decode cX4_mark 25 = .ok (.return_, 1) := by decide +kernel
theorem dX4_holds_0 : decode cX4_holds 0 = .ok (.iload_n 1, 1) := by decide +kernel
theorem dX4_holds_1 : decode cX4_holds 1 = .ok (.iconst 1, 1) := by decide +kernel
theorem dX4_holds_2 : decode cX4_holds 2 = .ok (.iand, 1) := by decide +kernel
theorem dX4_holds_3 : decode cX4_holds 3 = .ok (.ifCond .ne 7, 3) := by decide +kernel
theorem dX4_holds_6 : decode cX4_holds 6 = .ok (.iconst 1, 1) := by decide +kernel
theorem dX4_holds_7 : decode cX4_holds 7 = .ok (.goto 4, 3) := by decide +kernel
theorem dX4_holds_10 : decode cX4_holds 10 = .ok (.iconst 0, 1) := by decide +kernel
theorem dX4_holds_11 : decode cX4_holds 11 = .ok (.istore_n 2, 1) := by decide +kernel
theorem dX4_holds_12 : decode cX4_holds 12 = .ok (.iload_n 1, 1) := by decide +kernel
theorem dX4_holds_13 : decode cX4_holds 13 = .ok (.iconst 1, 1) := by decide +kernel
theorem dX4_holds_14 : decode cX4_holds 14 = .ok (.iushr, 1) := by decide +kernel
theorem dX4_holds_15 : decode cX4_holds 15 = .ok (.bipush 7, 2) := by decide +kernel
theorem dX4_holds_17 : decode cX4_holds 17 = .ok (.iand, 1) := by decide +kernel
theorem dX4_holds_18 : decode cX4_holds 18 = .ok (.tableswitch 190 0 6 #[42, 44, 68, 91, 114, 137, 161], 42) := by decide +kernel
theorem dX4_holds_60 : decode cX4_holds 60 = .ok (.iload_n 2, 1) := by decide +kernel
theorem dX4_holds_61 : decode cX4_holds 61 = .ok (.ireturn, 1) := by decide +kernel
theorem dX4_holds_62 : decode cX4_holds 62 = .ok (.iload_n 2, 1) := by decide +kernel
theorem dX4_holds_63 : decode cX4_holds 63 = .ok (.aload_n 0, 1) := by decide +kernel
theorem dX4_holds_64 : decode cX4_holds 64 = .ok (.getfield 22, 3) := by decide +kernel
theorem dX4_holds_67 : decode cX4_holds 67 = .ok (.iconst 5, 1) := by decide +kernel
theorem dX4_holds_68 : decode cX4_holds 68 = .ok (.iand, 1) := by decide +kernel
theorem dX4_holds_69 : decode cX4_holds 69 = .ok (.ifCond .ne 7, 3) := by decide +kernel
theorem dX4_holds_72 : decode cX4_holds 72 = .ok (.iconst 1, 1) := by decide +kernel
theorem dX4_holds_73 : decode cX4_holds 73 = .ok (.goto 4, 3) := by decide +kernel
theorem dX4_holds_76 : decode cX4_holds 76 = .ok (.iconst 0, 1) := by decide +kernel
theorem dX4_holds_77 : decode cX4_holds 77 = .ok (.if_icmp .ne 7, 3) := by decide +kernel
theorem dX4_holds_80 : decode cX4_holds 80 = .ok (.iconst 1, 1) := by decide +kernel
theorem dX4_holds_81 : decode cX4_holds 81 = .ok (.goto 4, 3) := by decide +kernel
theorem dX4_holds_84 : decode cX4_holds 84 = .ok (.iconst 0, 1) := by decide +kernel
theorem dX4_holds_85 : decode cX4_holds 85 = .ok (.ireturn, 1) := by decide +kernel
theorem dX4_holds_86 : decode cX4_holds 86 = .ok (.iload_n 2, 1) := by decide +kernel
theorem dX4_holds_87 : decode cX4_holds 87 = .ok (.aload_n 0, 1) := by decide +kernel
theorem dX4_holds_88 : decode cX4_holds 88 = .ok (.iconst 1, 1) := by decide +kernel
theorem dX4_holds_89 : decode cX4_holds 89 = .ok (.invokevirtual 44, 3) := by decide +kernel
theorem dX4_holds_92 : decode cX4_holds 92 = .ok (.ifCond .ne 7, 3) := by decide +kernel
theorem dX4_holds_95 : decode cX4_holds 95 = .ok (.iconst 1, 1) := by decide +kernel
theorem dX4_holds_96 : decode cX4_holds 96 = .ok (.goto 4, 3) := by decide +kernel
theorem dX4_holds_99 : decode cX4_holds 99 = .ok (.iconst 0, 1) := by decide +kernel
theorem dX4_holds_100 : decode cX4_holds 100 = .ok (.if_icmp .ne 7, 3) := by decide +kernel
theorem dX4_holds_103 : decode cX4_holds 103 = .ok (.iconst 1, 1) := by decide +kernel
theorem dX4_holds_104 : decode cX4_holds 104 = .ok (.goto 4, 3) := by decide +kernel
theorem dX4_holds_107 : decode cX4_holds 107 = .ok (.iconst 0, 1) := by decide +kernel
theorem dX4_holds_108 : decode cX4_holds 108 = .ok (.ireturn, 1) := by decide +kernel
theorem dX4_holds_109 : decode cX4_holds 109 = .ok (.iload_n 2, 1) := by decide +kernel
theorem dX4_holds_110 : decode cX4_holds 110 = .ok (.aload_n 0, 1) := by decide +kernel
theorem dX4_holds_111 : decode cX4_holds 111 = .ok (.iconst 4, 1) := by decide +kernel
theorem dX4_holds_112 : decode cX4_holds 112 = .ok (.invokevirtual 44, 3) := by decide +kernel
theorem dX4_holds_115 : decode cX4_holds 115 = .ok (.ifCond .ne 7, 3) := by decide +kernel
theorem dX4_holds_118 : decode cX4_holds 118 = .ok (.iconst 1, 1) := by decide +kernel
theorem dX4_holds_119 : decode cX4_holds 119 = .ok (.goto 4, 3) := by decide +kernel
theorem dX4_holds_122 : decode cX4_holds 122 = .ok (.iconst 0, 1) := by decide +kernel
theorem dX4_holds_123 : decode cX4_holds 123 = .ok (.if_icmp .ne 7, 3) := by decide +kernel
theorem dX4_holds_126 : decode cX4_holds 126 = .ok (.iconst 1, 1) := by decide +kernel
theorem dX4_holds_127 : decode cX4_holds 127 = .ok (.goto 4, 3) := by decide +kernel
theorem dX4_holds_130 : decode cX4_holds 130 = .ok (.iconst 0, 1) := by decide +kernel
theorem dX4_holds_131 : decode cX4_holds 131 = .ok (.ireturn, 1) := by decide +kernel
theorem dX4_holds_132 : decode cX4_holds 132 = .ok (.iload_n 2, 1) := by decide +kernel
theorem dX4_holds_133 : decode cX4_holds 133 = .ok (.aload_n 0, 1) := by decide +kernel
theorem dX4_holds_134 : decode cX4_holds 134 = .ok (.iconst 2, 1) := by decide +kernel
theorem dX4_holds_135 : decode cX4_holds 135 = .ok (.invokevirtual 44, 3) := by decide +kernel
theorem dX4_holds_138 : decode cX4_holds 138 = .ok (.ifCond .ne 7, 3) := by decide +kernel
theorem dX4_holds_141 : decode cX4_holds 141 = .ok (.iconst 1, 1) := by decide +kernel
theorem dX4_holds_142 : decode cX4_holds 142 = .ok (.goto 4, 3) := by decide +kernel
theorem dX4_holds_145 : decode cX4_holds 145 = .ok (.iconst 0, 1) := by decide +kernel
theorem dX4_holds_146 : decode cX4_holds 146 = .ok (.if_icmp .ne 7, 3) := by decide +kernel
theorem dX4_holds_149 : decode cX4_holds 149 = .ok (.iconst 1, 1) := by decide +kernel
theorem dX4_holds_150 : decode cX4_holds 150 = .ok (.goto 4, 3) := by decide +kernel
theorem dX4_holds_153 : decode cX4_holds 153 = .ok (.iconst 0, 1) := by decide +kernel
theorem dX4_holds_154 : decode cX4_holds 154 = .ok (.ireturn, 1) := by decide +kernel
theorem dX4_holds_155 : decode cX4_holds 155 = .ok (.iload_n 2, 1) := by decide +kernel
theorem dX4_holds_156 : decode cX4_holds 156 = .ok (.aload_n 0, 1) := by decide +kernel
theorem dX4_holds_157 : decode cX4_holds 157 = .ok (.bipush 8, 2) := by decide +kernel
theorem dX4_holds_159 : decode cX4_holds 159 = .ok (.invokevirtual 44, 3) := by decide +kernel
theorem dX4_holds_162 : decode cX4_holds 162 = .ok (.ifCond .ne 7, 3) := by decide +kernel
theorem dX4_holds_165 : decode cX4_holds 165 = .ok (.iconst 1, 1) := by decide +kernel
theorem dX4_holds_166 : decode cX4_holds 166 = .ok (.goto 4, 3) := by decide +kernel
theorem dX4_holds_169 : decode cX4_holds 169 = .ok (.iconst 0, 1) := by decide +kernel
theorem dX4_holds_170 : decode cX4_holds 170 = .ok (.if_icmp .ne 7, 3) := by decide +kernel
theorem dX4_holds_173 : decode cX4_holds 173 = .ok (.iconst 1, 1) := by decide +kernel
theorem dX4_holds_174 : decode cX4_holds 174 = .ok (.goto 4, 3) := by decide +kernel
theorem dX4_holds_177 : decode cX4_holds 177 = .ok (.iconst 0, 1) := by decide +kernel
theorem dX4_holds_178 : decode cX4_holds 178 = .ok (.ireturn, 1) := by decide +kernel
theorem dX4_holds_179 : decode cX4_holds 179 = .ok (.iload_n 2, 1) := by decide +kernel
theorem dX4_holds_180 : decode cX4_holds 180 = .ok (.aload_n 0, 1) := by decide +kernel
theorem dX4_holds_181 : decode cX4_holds 181 = .ok (.bipush 8, 2) := by decide +kernel
theorem dX4_holds_183 : decode cX4_holds 183 = .ok (.invokevirtual 44, 3) := by decide +kernel
theorem dX4_holds_186 : decode cX4_holds 186 = .ok (.aload_n 0, 1) := by decide +kernel
theorem dX4_holds_187 : decode cX4_holds 187 = .ok (.iconst 2, 1) := by decide +kernel
theorem dX4_holds_188 : decode cX4_holds 188 = .ok (.invokevirtual 44, 3) := by decide +kernel
theorem dX4_holds_191 : decode cX4_holds 191 = .ok (.if_icmp .ne 7, 3) := by decide +kernel
theorem dX4_holds_194 : decode cX4_holds 194 = .ok (.iconst 1, 1) := by decide +kernel
theorem dX4_holds_195 : decode cX4_holds 195 = .ok (.goto 4, 3) := by decide +kernel
theorem dX4_holds_198 : decode cX4_holds 198 = .ok (.iconst 0, 1) := by decide +kernel
theorem dX4_holds_199 : decode cX4_holds 199 = .ok (.if_icmp .ne 7, 3) := by decide +kernel
theorem dX4_holds_202 : decode cX4_holds 202 = .ok (.iconst 1, 1) := by decide +kernel
theorem dX4_holds_203 : decode cX4_holds 203 = .ok (.goto 4, 3) := by decide +kernel
theorem dX4_holds_206 : decode cX4_holds 206 = .ok (.iconst 0, 1) := by decide +kernel
theorem dX4_holds_207 : decode cX4_holds 207 = .ok (.ireturn, 1) := by decide +kernel
theorem dX4_holds_208 : decode cX4_holds 208 = .ok (.iload_n 2, 1) := by decide +kernel
theorem dX4_holds_209 : decode cX4_holds 209 = .ok (.aload_n 0, 1) := by decide +kernel
theorem dX4_holds_210 : decode cX4_holds 210 = .ok (.iconst 4, 1) := by decide +kernel
theorem dX4_holds_211 : decode cX4_holds 211 = .ok (.invokevirtual 44, 3) := by decide +kernel
theorem dX4_holds_214 : decode cX4_holds 214 = .ok (.ifCond .ne 21, 3) := by decide +kernel
theorem dX4_holds_217 : decode cX4_holds 217 = .ok (.aload_n 0, 1) := by decide +kernel
theorem dX4_holds_218 : decode cX4_holds 218 = .ok (.bipush 8, 2) := by decide +kernel
theorem dX4_holds_220 : decode cX4_holds 220 = .ok (.invokevirtual 44, 3) := by decide +kernel
theorem dX4_holds_223 : decode cX4_holds 223 = .ok (.aload_n 0, 1) := by decide +kernel
theorem dX4_holds_224 : decode cX4_holds 224 = .ok (.iconst 2, 1) := by decide +kernel
theorem dX4_holds_225 : decode cX4_holds 225 = .ok (.invokevirtual 44, 3) := by decide +kernel
theorem dX4_holds_228 : decode cX4_holds 228 = .ok (.if_icmp .ne 7, 3) := by decide +kernel
theorem dX4_holds_231 : decode cX4_holds 231 = .ok (.iconst 1, 1) := by decide +kernel
theorem dX4_holds_232 : decode cX4_holds 232 = .ok (.goto 4, 3) := by decide +kernel
theorem dX4_holds_235 : decode cX4_holds 235 = .ok (.iconst 0, 1) := by decide +kernel
theorem dX4_holds_236 : decode cX4_holds 236 = .ok (.if_icmp .ne 7, 3) := by decide +kernel
theorem dX4_holds_239 : decode cX4_holds 239 = .ok (.iconst 1, 1) := by decide +kernel
theorem dX4_holds_240 : decode cX4_holds 240 = .ok (.goto 4, 3) := by decide +kernel
theorem dX4_holds_243 : decode cX4_holds 243 = .ok (.iconst 0, 1) := by decide +kernel
theorem dX4_holds_244 : decode cX4_holds 244 = .ok (.ireturn, 1) := by decide +kernel
theorem dX5_of_0 : decode cX5_of 0 = .ok (.iload_n 0, 1) := by decide +kernel
theorem dX5_of_1 : decode cX5_of 1 = .ok (.ifCond .ne 7, 3) := by decide +kernel
theorem dX5_of_4 : decode cX5_of 4 = .ok (.getstatic 3, 3) := by decide +kernel
theorem dX5_of_7 : decode cX5_of 7 = .ok (.areturn, 1) := by decide +kernel
theorem dX5_of_8 : decode cX5_of 8 = .ok (.iload_n 0, 1) := by decide +kernel
theorem dX5_of_9 : decode cX5_of 9 = .ok (.iconst 1, 1) := by decide +kernel
theorem dX5_of_10 : decode cX5_of 10 = .ok (.if_icmp .ne 9, 3) := by decide +kernel
theorem dX5_of_13 : decode cX5_of 13 = .ok (.getstatic 7, 3) := by decide +kernel
theorem dX5_of_16 : decode cX5_of 16 = .ok (.goto 6, 3) := by decide +kernel
theorem dX5_of_19 : decode cX5_of 19 = .ok (.getstatic 10, 3) := by decide +kernel
theorem dX5_of_22 : decode cX5_of 22 = .ok (.areturn, 1) := by decide +kernel
theorem dX5_extend_0 : decode cX5_extend 0 = .ok (.aload_n 0, 1) := by decide +kernel
theorem dX5_extend_1 : decode cX5_extend 1 = .ok (.getstatic 3, 3) := by decide +kernel
theorem dX5_extend_4 : decode cX5_extend 4 = .ok (.if_acmp .ne 6, 3) := by decide +kernel
theorem dX5_extend_7 : decode cX5_extend 7 = .ok (.iload_n 1, 1) := by decide +kernel
theorem dX5_extend_8 : decode cX5_extend 8 = .ok (.i2b, 1) := by decide +kernel
theorem dX5_extend_9 : decode cX5_extend 9 = .ok (.ireturn, 1) := by decide +kernel
theorem dX5_extend_10 : decode cX5_extend 10 = .ok (.aload_n 0, 1) := by decide +kernel
theorem dX5_extend_11 : decode cX5_extend 11 = .ok (.getstatic 7, 3) := by decide +kernel
theorem dX5_extend_14 : decode cX5_extend 14 = .ok (.if_acmp .ne 8, 3) := by decide +kernel
theorem dX5_extend_17 : decode cX5_extend 17 = .ok (.iload_n 1, 1) := by decide +kernel
theorem dX5_extend_18 : decode cX5_extend 18 = .ok (.i2s, 1) := by decide +kernel
theorem dX5_extend_19 : decode cX5_extend 19 = .ok (.goto 4, 3) := by decide +kernel
theorem dX5_extend_22 : decode cX5_extend 22 = .ok (.iload_n 1, 1) := by decide +kernel
theorem dX5_extend_23 : decode cX5_extend 23 = .ok (.ireturn, 1) := by decide +kernel
theorem dX5_unsigned_0 : decode cX5_unsigned 0 = .ok (.iload_n 1, 1) := by decide +kernel
theorem dX5_unsigned_1 : decode cX5_unsigned 1 = .ok (.aload_n 0, 1) := by decide +kernel
theorem dX5_unsigned_2 : decode cX5_unsigned 2 = .ok (.getfield 36, 3) := by decide +kernel
theorem dX5_unsigned_5 : decode cX5_unsigned 5 = .ok (.iand, 1) := by decide +kernel
theorem dX5_unsigned_6 : decode cX5_unsigned 6 = .ok (.i2l, 1) := by decide +kernel
theorem dX5_unsigned_7 : decode cX5_unsigned 7 = .ok (.ldc2_w 42, 3) := by decide +kernel
theorem dX5_unsigned_10 : decode cX5_unsigned 10 = .ok (.land, 1) := by decide +kernel
theorem dX5_unsigned_11 : decode cX5_unsigned 11 = .ok (.lreturn, 1) := by decide +kernel
theorem dX6_init_0 : decode cX6_init 0 = .ok (.aload_n 0, 1) := by decide +kernel
theorem dX6_init_1 : decode cX6_init 1 = .ok (.invokespecial 3, 3) := by decide +kernel
theorem dX6_init_4 : decode cX6_init 4 = .ok (.aload_n 0, 1) := by decide +kernel
theorem dX6_init_5 : decode cX6_init 5 = .ok (.new 9, 3) := by decide +kernel
theorem dX6_init_8 : decode cX6_init 8 = .ok (.dup, 1) := by decide +kernel
theorem dX6_init_9 : decode cX6_init 9 = .ok (.invokespecial 11, 3) := by decide +kernel
theorem dX6_init_12 : decode cX6_init 12 = .ok (.putfield 12, 3) := by decide +kernel
theorem dX6_init_15 : decode cX6_init 15 = .ok (.aload_n 0, 1) := by decide +kernel
theorem dX6_init_16 : decode cX6_init 16 = .ok (.new 16, 3) := by decide +kernel
theorem dX6_init_19 : decode cX6_init 19 = .ok (.dup, 1) := by decide +kernel
theorem dX6_init_20 : decode cX6_init 20 = .ok (.invokespecial 18, 3) := by decide +kernel
theorem dX6_init_23 : decode cX6_init 23 = .ok (.putfield 19, 3) := by decide +kernel
theorem dX6_init_26 : decode cX6_init 26 = .ok (.aload_n 0, 1) := by decide +kernel
theorem dX6_init_27 : decode cX6_init 27 = .ok (.new 23, 3) := by decide +kernel
theorem dX6_init_30 : decode cX6_init 30 = .ok (.dup, 1) := by decide +kernel
theorem dX6_init_31 : decode cX6_init 31 = .ok (.aload_n 0, 1) := by decide +kernel
theorem dX6_init_32 : decode cX6_init 32 = .ok (.getfield 12, 3) := by decide +kernel
theorem dX6_init_35 : decode cX6_init 35 = .ok (.aload_n 0, 1) := by decide +kernel
theorem dX6_init_36 : decode cX6_init 36 = .ok (.getfield 19, 3) := by decide +kernel
theorem dX6_init_39 : decode cX6_init 39 = .ok (.invokespecial 25, 3) := by decide +kernel
theorem dX6_init_42 : decode cX6_init 42 = .ok (.putfield 28, 3) := by decide +kernel
theorem dX6_init_45 : decode cX6_init 45 = .ok (.aload_n 0, 1) := by decide +kernel
theorem dX6_init_46 : decode cX6_init 46 = .ok (.new 32, 3) := by decide +kernel
theorem dX6_init_49 : decode cX6_init 49 = .ok (.dup, 1) := by decide +kernel
theorem dX6_init_50 : decode cX6_init 50 = .ok (.aload_n 0, 1) := by decide +kernel
theorem dX6_init_51 : decode cX6_init 51 = .ok (.getfield 19, 3) := by decide +kernel
theorem dX6_init_54 : decode cX6_init 54 = .ok (.aload_n 0, 1) := by decide +kernel
theorem dX6_init_55 : decode cX6_init 55 = .ok (.getfield 28, 3) := by decide +kernel
theorem dX6_init_58 : decode cX6_init 58 = .ok (.invokespecial 34, 3) := by decide +kernel
theorem dX6_init_61 : decode cX6_init 61 = .ok (.putfield 37, 3) := by decide +kernel
theorem dX6_init_64 : decode cX6_init 64 = .ok (.aload_n 0, 1) := by decide +kernel
theorem dX6_init_65 : decode cX6_init 65 = .ok (.bipush 64, 2) := by decide +kernel
theorem dX6_init_67 : decode cX6_init 67 = .ok (.newarray .int, 2) := by decide +kernel
theorem dX6_init_69 : decode cX6_init 69 = .ok (.putfield 41, 3) := by decide +kernel
theorem dX6_init_72 : decode cX6_init 72 = .ok (.aload_n 0, 1) := by decide +kernel
theorem dX6_init_73 : decode cX6_init 73 = .ok (.iconst 0, 1) := by decide +kernel
theorem dX6_init_74 : decode cX6_init 74 = .ok (.putfield 45, 3) := by decide +kernel
theorem dX6_init_77 : decode cX6_init 77 = .ok (.aload_n 0, 1) := by decide +kernel
theorem dX6_init_78 : decode cX6_init 78 = .ok (.iconst 0, 1) := by decide +kernel
theorem dX6_init_79 : decode cX6_init 79 = .ok (.putfield 49, 3) := by decide +kernel
theorem dX6_init_82 : decode cX6_init 82 = .ok (.return_, 1) := by decide +kernel
theorem dX6_reset_0 : decode cX6_reset 0 = .ok (.aload_n 0, 1) := by decide +kernel
theorem dX6_reset_1 : decode cX6_reset 1 = .ok (.getfield 19, 3) := by decide +kernel
theorem dX6_reset_4 : decode cX6_reset 4 = .ok (.invokevirtual 52, 3) := by decide +kernel
theorem dX6_reset_7 : decode cX6_reset 7 = .ok (.aload_n 0, 1) := by decide +kernel
theorem dX6_reset_8 : decode cX6_reset 8 = .ok (.getfield 41, 3) := by decide +kernel
theorem dX6_reset_11 : decode cX6_reset 11 = .ok (.iconst 0, 1) := by decide +kernel
theorem dX6_reset_12 : decode cX6_reset 12 = .ok (.invokestatic 55, 3) := by decide +kernel
theorem dX6_reset_15 : decode cX6_reset 15 = .ok (.aload_n 0, 1) := by decide +kernel
theorem dX6_reset_16 : decode cX6_reset 16 = .ok (.iconst 0, 1) := by decide +kernel
theorem dX6_reset_17 : decode cX6_reset 17 = .ok (.putfield 45, 3) := by decide +kernel
theorem dX6_reset_20 : decode cX6_reset 20 = .ok (.aload_n 0, 1) := by decide +kernel
theorem dX6_reset_21 : decode cX6_reset 21 = .ok (.iconst 0, 1) := by decide +kernel
theorem dX6_reset_22 : decode cX6_reset 22 = .ok (.putfield 49, 3) := by decide +kernel
theorem dX6_reset_25 : decode cX6_reset 25 = .ok (.return_, 1) := by decide +kernel
theorem dX6_register_0 : decode cX6_register 0 = .ok (.iload_n 1, 1) := by decide +kernel
theorem dX6_register_1 : decode cX6_register 1 = .ok (.ifCond .lt 9, 3) := by decide +kernel
theorem dX6_register_4 : decode cX6_register 4 = .ok (.iload_n 1, 1) := by decide +kernel
theorem dX6_register_5 : decode cX6_register 5 = .ok (.bipush 19, 2) := by decide +kernel
theorem dX6_register_7 : decode cX6_register 7 = .ok (.if_icmp .le 11, 3) := by decide +kernel
theorem dX6_register_10 : decode cX6_register 10 = .ok (.new 61, 3) := by decide +kernel
theorem dX6_register_13 : decode cX6_register 13 = .ok (.dup, 1) := by decide +kernel
theorem dX6_register_14 : decode cX6_register 14 = .ok (.invokespecial 63, 3) := by decide +kernel
theorem dX6_register_17 : decode cX6_register 17 = .ok (.athrow, 1) := by decide +kernel
theorem dX6_register_18 : decode cX6_register 18 = .ok (.iload_n 1, 1) := by decide +kernel
theorem dX6_register_19 : decode cX6_register 19 = .ok (.tableswitch 65 16 19 #[29, 37, 45, 54], 29) := by decide +kernel
theorem dX6_register_48 : decode cX6_register 48 = .ok (.aload_n 0, 1) := by decide +kernel
theorem dX6_register_49 : decode cX6_register 49 = .ok (.getfield 19, 3) := by decide +kernel
theorem dX6_register_52 : decode cX6_register 52 = .ok (.getfield 64, 3) := by decide +kernel
theorem dX6_register_55 : decode cX6_register 55 = .ok (.ireturn, 1) := by decide +kernel
theorem dX6_register_56 : decode cX6_register 56 = .ok (.aload_n 0, 1) := by decide +kernel
theorem dX6_register_57 : decode cX6_register 57 = .ok (.getfield 19, 3) := by decide +kernel
theorem dX6_register_60 : decode cX6_register 60 = .ok (.getfield 67, 3) := by decide +kernel
theorem dX6_register_63 : decode cX6_register 63 = .ok (.ireturn, 1) := by decide +kernel
theorem dX6_register_64 : decode cX6_register 64 = .ok (.aload_n 0, 1) := by decide +kernel
theorem dX6_register_65 : decode cX6_register 65 = .ok (.getfield 19, 3) := by decide +kernel
theorem dX6_register_68 : decode cX6_register 68 = .ok (.iconst 0, 1) := by decide +kernel
theorem dX6_register_69 : decode cX6_register 69 = .ok (.invokevirtual 70, 3) := by decide +kernel
theorem dX6_register_72 : decode cX6_register 72 = .ok (.ireturn, 1) := by decide +kernel
theorem dX6_register_73 : decode cX6_register 73 = .ok (.aload_n 0, 1) := by decide +kernel
theorem dX6_register_74 : decode cX6_register 74 = .ok (.getfield 19, 3) := by decide +kernel
theorem dX6_register_77 : decode cX6_register 77 = .ok (.sipush 8192, 3) := by decide +kernel
theorem dX6_register_80 : decode cX6_register 80 = .ok (.invokevirtual 70, 3) := by decide +kernel
theorem dX6_register_83 : decode cX6_register 83 = .ok (.ireturn, 1) := by decide +kernel
theorem dX6_register_84 : decode cX6_register 84 = .ok (.aload_n 0, 1) := by decide +kernel
theorem dX6_register_85 : decode cX6_register 85 = .ok (.getfield 19, 3) := by decide +kernel
theorem dX6_register_88 : decode cX6_register 88 = .ok (.iload_n 1, 1) := by decide +kernel
theorem dX6_register_89 : decode cX6_register 89 = .ok (.invokevirtual 74, 3) := by decide +kernel
theorem dX6_register_92 : decode cX6_register 92 = .ok (.ireturn, 1) := by decide +kernel
theorem dX6_put_0 : decode cX6_put 0 = .ok (.iload_n 1, 1) := by decide +kernel
theorem dX6_put_1 : decode cX6_put 1 = .ok (.ifCond .lt 9, 3) := by decide +kernel
theorem dX6_put_4 : decode cX6_put 4 = .ok (.iload_n 1, 1) := by decide +kernel
theorem dX6_put_5 : decode cX6_put 5 = .ok (.bipush 19, 2) := by decide +kernel
theorem dX6_put_7 : decode cX6_put 7 = .ok (.if_icmp .le 11, 3) := by decide +kernel
theorem dX6_put_10 : decode cX6_put 10 = .ok (.new 61, 3) := by decide +kernel
theorem dX6_put_13 : decode cX6_put 13 = .ok (.dup, 1) := by decide +kernel
theorem dX6_put_14 : decode cX6_put 14 = .ok (.invokespecial 63, 3) := by decide +kernel
theorem dX6_put_17 : decode cX6_put 17 = .ok (.athrow, 1) := by decide +kernel
theorem dX6_put_18 : decode cX6_put 18 = .ok (.iload_n 1, 1) := by decide +kernel
theorem dX6_put_19 : decode cX6_put 19 = .ok (.tableswitch 77 16 19 #[29, 40, 51, 63], 29) := by decide +kernel
theorem dX6_put_48 : decode cX6_put 48 = .ok (.aload_n 0, 1) := by decide +kernel
theorem dX6_put_49 : decode cX6_put 49 = .ok (.getfield 19, 3) := by decide +kernel
theorem dX6_put_52 : decode cX6_put 52 = .ok (.iload_n 2, 1) := by decide +kernel
theorem dX6_put_53 : decode cX6_put 53 = .ok (.putfield 64, 3) := by decide +kernel
theorem dX6_put_56 : decode cX6_put 56 = .ok (.goto 49, 3) := by decide +kernel
theorem dX6_put_59 : decode cX6_put 59 = .ok (.aload_n 0, 1) := by decide +kernel
theorem dX6_put_60 : decode cX6_put 60 = .ok (.getfield 19, 3) := by decide +kernel
theorem dX6_put_63 : decode cX6_put 63 = .ok (.iload_n 2, 1) := by decide +kernel
theorem dX6_put_64 : decode cX6_put 64 = .ok (.invokevirtual 77, 3) := by decide +kernel
theorem dX6_put_67 : decode cX6_put 67 = .ok (.goto 38, 3) := by decide +kernel
theorem dX6_put_70 : decode cX6_put 70 = .ok (.aload_n 0, 1) := by decide +kernel
theorem dX6_put_71 : decode cX6_put 71 = .ok (.getfield 19, 3) := by decide +kernel
theorem dX6_put_74 : decode cX6_put 74 = .ok (.iconst 0, 1) := by decide +kernel
theorem dX6_put_75 : decode cX6_put 75 = .ok (.iload_n 2, 1) := by decide +kernel
theorem dX6_put_76 : decode cX6_put 76 = .ok (.invokevirtual 81, 3) := by decide +kernel
theorem dX6_put_79 : decode cX6_put 79 = .ok (.goto 26, 3) := by decide +kernel
theorem dX6_put_82 : decode cX6_put 82 = .ok (.aload_n 0, 1) := by decide +kernel
theorem dX6_put_83 : decode cX6_put 83 = .ok (.getfield 19, 3) := by decide +kernel
theorem dX6_put_86 : decode cX6_put 86 = .ok (.sipush 8192, 3) := by decide +kernel
theorem dX6_put_89 : decode cX6_put 89 = .ok (.iload_n 2, 1) := by decide +kernel
theorem dX6_put_90 : decode cX6_put 90 = .ok (.invokevirtual 81, 3) := by decide +kernel
theorem dX6_put_93 : decode cX6_put 93 = .ok (.goto 12, 3) := by decide +kernel
theorem dX6_put_96 : decode cX6_put 96 = .ok (.aload_n 0, 1) := by decide +kernel
theorem dX6_put_97 : decode cX6_put 97 = .ok (.getfield 19, 3) := by decide +kernel
theorem dX6_put_100 : decode cX6_put 100 = .ok (.iload_n 1, 1) := by decide +kernel
theorem dX6_put_101 : decode cX6_put 101 = .ok (.iload_n 2, 1) := by decide +kernel
theorem dX6_put_102 : decode cX6_put 102 = .ok (.invokevirtual 85, 3) := by decide +kernel
theorem dX6_put_105 : decode cX6_put 105 = .ok (.return_, 1) := by decide +kernel
theorem dX6_write_0 : decode cX6_write 0 = .ok (.iload_n 3, 1) := by decide +kernel
theorem dX6_write_1 : decode cX6_write 1 = .ok (.iconst 1, 1) := by decide +kernel
theorem dX6_write_2 : decode cX6_write 2 = .ok (.if_icmp .eq 21, 3) := by decide +kernel
theorem dX6_write_5 : decode cX6_write 5 = .ok (.iload_n 3, 1) := by decide +kernel
theorem dX6_write_6 : decode cX6_write 6 = .ok (.iconst 2, 1) := by decide +kernel
theorem dX6_write_7 : decode cX6_write 7 = .ok (.if_icmp .eq 16, 3) := by decide +kernel
theorem dX6_write_10 : decode cX6_write 10 = .ok (.iload_n 3, 1) := by decide +kernel
theorem dX6_write_11 : decode cX6_write 11 = .ok (.iconst 4, 1) := by decide +kernel
theorem dX6_write_12 : decode cX6_write 12 = .ok (.if_icmp .eq 11, 3) := by decide +kernel
theorem dX6_write_15 : decode cX6_write 15 = .ok (.new 88, 3) := by decide +kernel
theorem dX6_write_18 : decode cX6_write 18 = .ok (.dup, 1) := by decide +kernel
theorem dX6_write_19 : decode cX6_write 19 = .ok (.invokespecial 90, 3) := by decide +kernel
theorem dX6_write_22 : decode cX6_write 22 = .ok (.athrow, 1) := by decide +kernel
theorem dX6_write_23 : decode cX6_write 23 = .ok (.aload_n 0, 1) := by decide +kernel
theorem dX6_write_24 : decode cX6_write 24 = .ok (.getfield 12, 3) := by decide +kernel
theorem dX6_write_27 : decode cX6_write 27 = .ok (.iload_n 1, 1) := by decide +kernel
theorem dX6_write_28 : decode cX6_write 28 = .ok (.iload_n 2, 1) := by decide +kernel
theorem dX6_write_29 : decode cX6_write 29 = .ok (.iload_n 3, 1) := by decide +kernel
theorem dX6_write_30 : decode cX6_write 30 = .ok (.invokevirtual 91, 3) := by decide +kernel
theorem dX6_write_33 : decode cX6_write 33 = .ok (.return_, 1) := by decide +kernel
theorem dX6_read_0 : decode cX6_read 0 = .ok (.iload_n 2, 1) := by decide +kernel
theorem dX6_read_1 : decode cX6_read 1 = .ok (.iconst 1, 1) := by decide +kernel
theorem dX6_read_2 : decode cX6_read 2 = .ok (.if_icmp .eq 21, 3) := by decide +kernel
theorem dX6_read_5 : decode cX6_read 5 = .ok (.iload_n 2, 1) := by decide +kernel
theorem dX6_read_6 : decode cX6_read 6 = .ok (.iconst 2, 1) := by decide +kernel
theorem dX6_read_7 : decode cX6_read 7 = .ok (.if_icmp .eq 16, 3) := by decide +kernel
theorem dX6_read_10 : decode cX6_read 10 = .ok (.iload_n 2, 1) := by decide +kernel
theorem dX6_read_11 : decode cX6_read 11 = .ok (.iconst 4, 1) := by decide +kernel
theorem dX6_read_12 : decode cX6_read 12 = .ok (.if_icmp .eq 11, 3) := by decide +kernel
theorem dX6_read_15 : decode cX6_read 15 = .ok (.new 88, 3) := by decide +kernel
theorem dX6_read_18 : decode cX6_read 18 = .ok (.dup, 1) := by decide +kernel
theorem dX6_read_19 : decode cX6_read 19 = .ok (.invokespecial 90, 3) := by decide +kernel
theorem dX6_read_22 : decode cX6_read 22 = .ok (.athrow, 1) := by decide +kernel
theorem dX6_read_23 : decode cX6_read 23 = .ok (.aload_n 0, 1) := by decide +kernel
theorem dX6_read_24 : decode cX6_read 24 = .ok (.getfield 12, 3) := by decide +kernel
theorem dX6_read_27 : decode cX6_read 27 = .ok (.iload_n 1, 1) := by decide +kernel
theorem dX6_read_28 : decode cX6_read 28 = .ok (.iload_n 2, 1) := by decide +kernel
theorem dX6_read_29 : decode cX6_read 29 = .ok (.invokevirtual 95, 3) := by decide +kernel
theorem dX6_read_32 : decode cX6_read 32 = .ok (.ireturn, 1) := by decide +kernel
theorem dX6_want_0 : decode cX6_want 0 = .ok (.iload_n 1, 1) := by decide +kernel
theorem dX6_want_1 : decode cX6_want 1 = .ok (.ifCond .lt 9, 3) := by decide +kernel
theorem dX6_want_4 : decode cX6_want 4 = .ok (.iload_n 1, 1) := by decide +kernel
theorem dX6_want_5 : decode cX6_want 5 = .ok (.bipush 7, 2) := by decide +kernel
theorem dX6_want_7 : decode cX6_want 7 = .ok (.if_icmp .le 11, 3) := by decide +kernel
theorem dX6_want_10 : decode cX6_want 10 = .ok (.new 88, 3) := by decide +kernel
theorem dX6_want_13 : decode cX6_want 13 = .ok (.dup, 1) := by decide +kernel
theorem dX6_want_14 : decode cX6_want 14 = .ok (.invokespecial 90, 3) := by decide +kernel
theorem dX6_want_17 : decode cX6_want 17 = .ok (.athrow, 1) := by decide +kernel
theorem dX6_want_18 : decode cX6_want 18 = .ok (.aload_n 0, 1) := by decide +kernel
theorem dX6_want_19 : decode cX6_want 19 = .ok (.iload_n 1, 1) := by decide +kernel
theorem dX6_want_20 : decode cX6_want 20 = .ok (.putfield 45, 3) := by decide +kernel
theorem dX6_want_23 : decode cX6_want 23 = .ok (.return_, 1) := by decide +kernel
theorem dX6_step_0 : decode cX6_step 0 = .ok (.iload_n 1, 1) := by decide +kernel
theorem dX6_step_1 : decode cX6_step 1 = .ok (.ifCond .lt 10, 3) := by decide +kernel
theorem dX6_step_4 : decode cX6_step 4 = .ok (.iload_n 1, 1) := by decide +kernel
theorem dX6_step_5 : decode cX6_step 5 = .ok (.sipush 3000, 3) := by decide +kernel
theorem dX6_step_8 : decode cX6_step 8 = .ok (.if_icmp .le 11, 3) := by decide +kernel
theorem dX6_step_11 : decode cX6_step 11 = .ok (.new 88, 3) := by decide +kernel
theorem dX6_step_14 : decode cX6_step 14 = .ok (.dup, 1) := by decide +kernel
theorem dX6_step_15 : decode cX6_step 15 = .ok (.invokespecial 90, 3) := by decide +kernel
theorem dX6_step_18 : decode cX6_step 18 = .ok (.athrow, 1) := by decide +kernel
theorem dX6_step_19 : decode cX6_step 19 = .ok (.iconst 0, 1) := by decide +kernel
theorem dX6_step_20 : decode cX6_step 20 = .ok (.istore_n 2, 1) := by decide +kernel
theorem dX6_step_21 : decode cX6_step 21 = .ok (.iload_n 2, 1) := by decide +kernel
theorem dX6_step_22 : decode cX6_step 22 = .ok (.iload_n 1, 1) := by decide +kernel
theorem dX6_step_23 : decode cX6_step 23 = .ok (.if_icmp .ge 16, 3) := by decide +kernel
theorem dX6_step_26 : decode cX6_step 26 = .ok (.aload_n 0, 1) := by decide +kernel
theorem dX6_step_27 : decode cX6_step 27 = .ok (.invokevirtual 99, 3) := by decide +kernel
theorem dX6_step_30 : decode cX6_step 30 = .ok (.ifCond .eq 9, 3) := by decide +kernel
theorem dX6_step_33 : decode cX6_step 33 = .ok (.iinc 2 1, 3) := by decide +kernel
theorem dX6_step_36 : decode cX6_step 36 = .ok (.goto (-15), 3) := by decide +kernel
theorem dX6_step_39 : decode cX6_step 39 = .ok (.iload_n 2, 1) := by decide +kernel
theorem dX6_step_40 : decode cX6_step 40 = .ok (.ireturn, 1) := by decide +kernel
theorem dX6_state_0 : decode cX6_state 0 = .ok (.aload_n 0, 1) := by decide +kernel
theorem dX6_state_1 : decode cX6_state 1 = .ok (.getfield 49, 3) := by decide +kernel
theorem dX6_state_4 : decode cX6_state 4 = .ok (.ireturn, 1) := by decide +kernel
theorem dX6_exceptions_0 : decode cX6_exceptions 0 = .ok (.iload_n 1, 1) := by decide +kernel
theorem dX6_exceptions_1 : decode cX6_exceptions 1 = .ok (.ifCond .lt 9, 3) := by decide +kernel
theorem dX6_exceptions_4 : decode cX6_exceptions 4 = .ok (.iload_n 1, 1) := by decide +kernel
theorem dX6_exceptions_5 : decode cX6_exceptions 5 = .ok (.bipush 64, 2) := by decide +kernel
theorem dX6_exceptions_7 : decode cX6_exceptions 7 = .ok (.if_icmp .lt 11, 3) := by decide +kernel
theorem dX6_exceptions_10 : decode cX6_exceptions 10 = .ok (.new 88, 3) := by decide +kernel
theorem dX6_exceptions_13 : decode cX6_exceptions 13 = .ok (.dup, 1) := by decide +kernel
theorem dX6_exceptions_14 : decode cX6_exceptions 14 = .ok (.invokespecial 90, 3) := by decide +kernel
theorem dX6_exceptions_17 : decode cX6_exceptions 17 = .ok (.athrow, 1) := by decide +kernel
theorem dX6_exceptions_18 : decode cX6_exceptions 18 = .ok (.aload_n 0, 1) := by decide +kernel
theorem dX6_exceptions_19 : decode cX6_exceptions 19 = .ok (.getfield 41, 3) := by decide +kernel
theorem dX6_exceptions_22 : decode cX6_exceptions 22 = .ok (.iload_n 1, 1) := by decide +kernel
theorem dX6_exceptions_23 : decode cX6_exceptions 23 = .ok (.iaload, 1) := by decide +kernel
theorem dX6_exceptions_24 : decode cX6_exceptions 24 = .ok (.ireturn, 1) := by decide +kernel
theorem dX6_sum_0 : decode cX6_sum 0 = .ok (.aload_n 0, 1) := by decide +kernel
theorem dX6_sum_1 : decode cX6_sum 1 = .ok (.getfield 12, 3) := by decide +kernel
theorem dX6_sum_4 : decode cX6_sum 4 = .ok (.invokevirtual 103, 3) := by decide +kernel
theorem dX6_sum_7 : decode cX6_sum 7 = .ok (.ireturn, 1) := by decide +kernel
theorem dX6_advance_0 : decode cX6_advance 0 = .ok (.aload_n 0, 1) := by decide +kernel
theorem dX6_advance_1 : decode cX6_advance 1 = .ok (.getfield 49, 3) := by decide +kernel
theorem dX6_advance_4 : decode cX6_advance 4 = .ok (.iconst 2, 1) := by decide +kernel
theorem dX6_advance_5 : decode cX6_advance 5 = .ok (.if_icmp .ne 5, 3) := by decide +kernel
theorem dX6_advance_8 : decode cX6_advance 8 = .ok (.iconst 0, 1) := by decide +kernel
theorem dX6_advance_9 : decode cX6_advance 9 = .ok (.ireturn, 1) := by decide +kernel
theorem dX6_advance_10 : decode cX6_advance 10 = .ok (.aload_n 0, 1) := by decide +kernel
theorem dX6_advance_11 : decode cX6_advance 11 = .ok (.getfield 45, 3) := by decide +kernel
theorem dX6_advance_14 : decode cX6_advance 14 = .ok (.bipush 7, 2) := by decide +kernel
theorem dX6_advance_16 : decode cX6_advance 16 = .ok (.if_icmp .eq 24, 3) := by decide +kernel
theorem dX6_advance_19 : decode cX6_advance 19 = .ok (.aload_n 0, 1) := by decide +kernel
theorem dX6_advance_20 : decode cX6_advance 20 = .ok (.getfield 45, 3) := by decide +kernel
theorem dX6_advance_23 : decode cX6_advance 23 = .ok (.aload_n 0, 1) := by decide +kernel
theorem dX6_advance_24 : decode cX6_advance 24 = .ok (.getfield 19, 3) := by decide +kernel
theorem dX6_advance_27 : decode cX6_advance 27 = .ok (.getfield 67, 3) := by decide +kernel
theorem dX6_advance_30 : decode cX6_advance 30 = .ok (.sipush 1792, 3) := by decide +kernel
theorem dX6_advance_33 : decode cX6_advance 33 = .ok (.iand, 1) := by decide +kernel
theorem dX6_advance_34 : decode cX6_advance 34 = .ok (.bipush 8, 2) := by decide +kernel
theorem dX6_advance_36 : decode cX6_advance 36 = .ok (.iushr, 1) := by decide +kernel
theorem dX6_advance_37 : decode cX6_advance 37 = .ok (.if_icmp .le 9, 3) := by decide +kernel
theorem dX6_advance_40 : decode cX6_advance 40 = .ok (.aload_n 0, 1) := by decide +kernel
theorem dX6_advance_41 : decode cX6_advance 41 = .ok (.invokevirtual 107, 3) := by decide +kernel
theorem dX6_advance_44 : decode cX6_advance 44 = .ok (.iconst 1, 1) := by decide +kernel
theorem dX6_advance_45 : decode cX6_advance 45 = .ok (.ireturn, 1) := by decide +kernel
theorem dX6_advance_46 : decode cX6_advance 46 = .ok (.aload_n 0, 1) := by decide +kernel
theorem dX6_advance_47 : decode cX6_advance 47 = .ok (.getfield 49, 3) := by decide +kernel
theorem dX6_advance_50 : decode cX6_advance 50 = .ok (.iconst 1, 1) := by decide +kernel
theorem dX6_advance_51 : decode cX6_advance 51 = .ok (.if_icmp .ne 5, 3) := by decide +kernel
theorem dX6_advance_54 : decode cX6_advance 54 = .ok (.iconst 0, 1) := by decide +kernel
theorem dX6_advance_55 : decode cX6_advance 55 = .ok (.ireturn, 1) := by decide +kernel
theorem dX6_advance_56 : decode cX6_advance 56 = .ok (.aload_n 0, 1) := by decide +kernel
theorem dX6_advance_57 : decode cX6_advance 57 = .ok (.getfield 19, 3) := by decide +kernel
theorem dX6_advance_60 : decode cX6_advance 60 = .ok (.ldc 110, 2) := by decide +kernel
theorem dX6_advance_62 : decode cX6_advance 62 = .ok (.invokevirtual 111, 3) := by decide +kernel
theorem dX6_advance_65 : decode cX6_advance 65 = .ok (.istore_n 1, 1) := by decide +kernel
theorem dX6_advance_66 : decode cX6_advance 66 = .ok (.aload_n 0, 1) := by decide +kernel
theorem dX6_advance_67 : decode cX6_advance 67 = .ok (.getfield 19, 3) := by decide +kernel
theorem dX6_advance_70 : decode cX6_advance 70 = .ok (.invokevirtual 115, 3) := by decide +kernel
theorem dX6_advance_73 : decode cX6_advance 73 = .ok (.aload_n 0, 1) := by decide +kernel
theorem dX6_advance_74 : decode cX6_advance 74 = .ok (.getfield 28, 3) := by decide +kernel
theorem dX6_advance_77 : decode cX6_advance 77 = .ok (.invokevirtual 118, 3) := by decide +kernel
theorem dX6_advance_80 : decode cX6_advance 80 = .ok (.istore_n 2, 1) := by decide +kernel
theorem dX6_advance_81 : decode cX6_advance 81 = .ok (.aload_n 0, 1) := by decide +kernel
theorem dX6_advance_82 : decode cX6_advance 82 = .ok (.getfield 28, 3) := by decide +kernel
theorem dX6_advance_85 : decode cX6_advance 85 = .ok (.getfield 121, 3) := by decide +kernel
theorem dX6_advance_88 : decode cX6_advance 88 = .ok (.ifCond .ne 11, 3) := by decide +kernel
theorem dX6_advance_91 : decode cX6_advance 91 = .ok (.aload_n 0, 1) := by decide +kernel
theorem dX6_advance_92 : decode cX6_advance 92 = .ok (.getfield 37, 3) := by decide +kernel
theorem dX6_advance_95 : decode cX6_advance 95 = .ok (.iload_n 2, 1) := by decide +kernel
theorem dX6_advance_96 : decode cX6_advance 96 = .ok (.invokevirtual 124, 3) := by decide +kernel
theorem dX6_advance_99 : decode cX6_advance 99 = .ok (.aload_n 0, 1) := by decide +kernel
theorem dX6_advance_100 : decode cX6_advance 100 = .ok (.iload_n 2, 1) := by decide +kernel
theorem dX6_advance_101 : decode cX6_advance 101 = .ok (.iload_n 1, 1) := by decide +kernel
theorem dX6_advance_102 : decode cX6_advance 102 = .ok (.invokevirtual 127, 3) := by decide +kernel
theorem dX6_advance_105 : decode cX6_advance 105 = .ok (.iconst 1, 1) := by decide +kernel
theorem dX6_advance_106 : decode cX6_advance 106 = .ok (.ireturn, 1) := by decide +kernel
theorem dX6_interrupt_0 : decode cX6_interrupt 0 = .ok (.aload_n 0, 1) := by decide +kernel
theorem dX6_interrupt_1 : decode cX6_interrupt 1 = .ok (.getfield 45, 3) := by decide +kernel
theorem dX6_interrupt_4 : decode cX6_interrupt 4 = .ok (.istore_n 1, 1) := by decide +kernel
theorem dX6_interrupt_5 : decode cX6_interrupt 5 = .ok (.aload_n 0, 1) := by decide +kernel
theorem dX6_interrupt_6 : decode cX6_interrupt 6 = .ok (.iconst 0, 1) := by decide +kernel
theorem dX6_interrupt_7 : decode cX6_interrupt 7 = .ok (.putfield 45, 3) := by decide +kernel
theorem dX6_interrupt_10 : decode cX6_interrupt 10 = .ok (.aload_n 0, 1) := by decide +kernel
theorem dX6_interrupt_11 : decode cX6_interrupt 11 = .ok (.iconst 0, 1) := by decide +kernel
theorem dX6_interrupt_12 : decode cX6_interrupt 12 = .ok (.putfield 49, 3) := by decide +kernel
theorem dX6_interrupt_15 : decode cX6_interrupt 15 = .ok (.aload_n 0, 1) := by decide +kernel
theorem dX6_interrupt_16 : decode cX6_interrupt 16 = .ok (.bipush 24, 2) := by decide +kernel
theorem dX6_interrupt_18 : decode cX6_interrupt 18 = .ok (.iload_n 1, 1) := by decide +kernel
theorem dX6_interrupt_19 : decode cX6_interrupt 19 = .ok (.iadd, 1) := by decide +kernel
theorem dX6_interrupt_20 : decode cX6_interrupt 20 = .ok (.invokevirtual 131, 3) := by decide +kernel
theorem dX6_interrupt_23 : decode cX6_interrupt 23 = .ok (.ifCond .eq 34, 3) := by decide +kernel
theorem dX6_interrupt_26 : decode cX6_interrupt 26 = .ok (.aload_n 0, 1) := by decide +kernel
theorem dX6_interrupt_27 : decode cX6_interrupt 27 = .ok (.bipush 24, 2) := by decide +kernel
theorem dX6_interrupt_29 : decode cX6_interrupt 29 = .ok (.iload_n 1, 1) := by decide +kernel
theorem dX6_interrupt_30 : decode cX6_interrupt 30 = .ok (.iadd, 1) := by decide +kernel
theorem dX6_interrupt_31 : decode cX6_interrupt 31 = .ok (.invokevirtual 134, 3) := by decide +kernel
theorem dX6_interrupt_34 : decode cX6_interrupt 34 = .ok (.aload_n 0, 1) := by decide +kernel
theorem dX6_interrupt_35 : decode cX6_interrupt 35 = .ok (.getfield 19, 3) := by decide +kernel
theorem dX6_interrupt_38 : decode cX6_interrupt 38 = .ok (.aload_n 0, 1) := by decide +kernel
theorem dX6_interrupt_39 : decode cX6_interrupt 39 = .ok (.getfield 19, 3) := by decide +kernel
theorem dX6_interrupt_42 : decode cX6_interrupt 42 = .ok (.getfield 67, 3) := by decide +kernel
theorem dX6_interrupt_45 : decode cX6_interrupt 45 = .ok (.sipush (-1793), 3) := by decide +kernel
theorem dX6_interrupt_48 : decode cX6_interrupt 48 = .ok (.iand, 1) := by decide +kernel
theorem dX6_interrupt_49 : decode cX6_interrupt 49 = .ok (.iload_n 1, 1) := by decide +kernel
theorem dX6_interrupt_50 : decode cX6_interrupt 50 = .ok (.bipush 8, 2) := by decide +kernel
theorem dX6_interrupt_52 : decode cX6_interrupt 52 = .ok (.ishl, 1) := by decide +kernel
theorem dX6_interrupt_53 : decode cX6_interrupt 53 = .ok (.ior, 1) := by decide +kernel
theorem dX6_interrupt_54 : decode cX6_interrupt 54 = .ok (.invokevirtual 77, 3) := by decide +kernel
theorem dX6_interrupt_57 : decode cX6_interrupt 57 = .ok (.return_, 1) := by decide +kernel
theorem dX6_finish_0 : decode cX6_finish 0 = .ok (.aload_n 0, 1) := by decide +kernel
theorem dX6_finish_1 : decode cX6_finish 1 = .ok (.getfield 28, 3) := by decide +kernel
theorem dX6_finish_4 : decode cX6_finish 4 = .ok (.getfield 121, 3) := by decide +kernel
theorem dX6_finish_7 : decode cX6_finish 7 = .ok (.istore_n 3, 1) := by decide +kernel
theorem dX6_finish_8 : decode cX6_finish 8 = .ok (.aload_n 0, 1) := by decide +kernel
theorem dX6_finish_9 : decode cX6_finish 9 = .ok (.getfield 28, 3) := by decide +kernel
theorem dX6_finish_12 : decode cX6_finish 12 = .ok (.getfield 137, 3) := by decide +kernel
theorem dX6_finish_15 : decode cX6_finish 15 = .ok (.istore 4, 2) := by decide +kernel
theorem dX6_finish_17 : decode cX6_finish 17 = .ok (.aload_n 0, 1) := by decide +kernel
theorem dX6_finish_18 : decode cX6_finish 18 = .ok (.getfield 28, 3) := by decide +kernel
theorem dX6_finish_21 : decode cX6_finish 21 = .ok (.invokevirtual 140, 3) := by decide +kernel
theorem dX6_finish_24 : decode cX6_finish 24 = .ok (.iload_n 3, 1) := by decide +kernel
theorem dX6_finish_25 : decode cX6_finish 25 = .ok (.invokestatic 143, 3) := by decide +kernel
theorem dX6_finish_28 : decode cX6_finish 28 = .ok (.ifCond .eq 32, 3) := by decide +kernel
theorem dX6_finish_31 : decode cX6_finish 31 = .ok (.aload_n 0, 1) := by decide +kernel
theorem dX6_finish_32 : decode cX6_finish 32 = .ok (.getfield 19, 3) := by decide +kernel
theorem dX6_finish_35 : decode cX6_finish 35 = .ok (.invokevirtual 146, 3) := by decide +kernel
theorem dX6_finish_38 : decode cX6_finish 38 = .ok (.aload_n 0, 1) := by decide +kernel
theorem dX6_finish_39 : decode cX6_finish 39 = .ok (.iload_n 3, 1) := by decide +kernel
theorem dX6_finish_40 : decode cX6_finish 40 = .ok (.invokevirtual 131, 3) := by decide +kernel
theorem dX6_finish_43 : decode cX6_finish 43 = .ok (.ifCond .eq 16, 3) := by decide +kernel
theorem dX6_finish_46 : decode cX6_finish 46 = .ok (.aload_n 0, 1) := by decide +kernel
theorem dX6_finish_47 : decode cX6_finish 47 = .ok (.iload_n 3, 1) := by decide +kernel
theorem dX6_finish_48 : decode cX6_finish 48 = .ok (.iload_n 1, 1) := by decide +kernel
theorem dX6_finish_49 : decode cX6_finish 49 = .ok (.iload 4, 2) := by decide +kernel
theorem dX6_finish_51 : decode cX6_finish 51 = .ok (.invokevirtual 149, 3) := by decide +kernel
theorem dX6_finish_54 : decode cX6_finish 54 = .ok (.aload_n 0, 1) := by decide +kernel
theorem dX6_finish_55 : decode cX6_finish 55 = .ok (.iload_n 3, 1) := by decide +kernel
theorem dX6_finish_56 : decode cX6_finish 56 = .ok (.invokevirtual 134, 3) := by decide +kernel
theorem dX6_finish_59 : decode cX6_finish 59 = .ok (.return_, 1) := by decide +kernel
theorem dX6_finish_60 : decode cX6_finish 60 = .ok (.iload_n 3, 1) := by decide +kernel
theorem dX6_finish_61 : decode cX6_finish 61 = .ok (.ifCond .eq 16, 3) := by decide +kernel
theorem dX6_finish_64 : decode cX6_finish 64 = .ok (.aload_n 0, 1) := by decide +kernel
theorem dX6_finish_65 : decode cX6_finish 65 = .ok (.iload_n 3, 1) := by decide +kernel
theorem dX6_finish_66 : decode cX6_finish 66 = .ok (.invokevirtual 131, 3) := by decide +kernel
theorem dX6_finish_69 : decode cX6_finish 69 = .ok (.ifCond .eq 8, 3) := by decide +kernel
theorem dX6_finish_72 : decode cX6_finish 72 = .ok (.aload_n 0, 1) := by decide +kernel
theorem dX6_finish_73 : decode cX6_finish 73 = .ok (.iload_n 3, 1) := by decide +kernel
theorem dX6_finish_74 : decode cX6_finish 74 = .ok (.invokevirtual 134, 3) := by decide +kernel
theorem dX6_finish_77 : decode cX6_finish 77 = .ok (.iload_n 2, 1) := by decide +kernel
theorem dX6_finish_78 : decode cX6_finish 78 = .ok (.ifCond .eq 21, 3) := by decide +kernel
theorem dX6_finish_81 : decode cX6_finish 81 = .ok (.aload_n 0, 1) := by decide +kernel
theorem dX6_finish_82 : decode cX6_finish 82 = .ok (.bipush 9, 2) := by decide +kernel
theorem dX6_finish_84 : decode cX6_finish 84 = .ok (.invokevirtual 131, 3) := by decide +kernel
theorem dX6_finish_87 : decode cX6_finish 87 = .ok (.ifCond .eq 27, 3) := by decide +kernel
theorem dX6_finish_90 : decode cX6_finish 90 = .ok (.aload_n 0, 1) := by decide +kernel
theorem dX6_finish_91 : decode cX6_finish 91 = .ok (.bipush 9, 2) := by decide +kernel
theorem dX6_finish_93 : decode cX6_finish 93 = .ok (.invokevirtual 134, 3) := by decide +kernel
theorem dX6_finish_96 : decode cX6_finish 96 = .ok (.goto 18, 3) := by decide +kernel
theorem dX6_finish_99 : decode cX6_finish 99 = .ok (.aload_n 0, 1) := by decide +kernel
theorem dX6_finish_100 : decode cX6_finish 100 = .ok (.getfield 37, 3) := by decide +kernel
theorem dX6_finish_103 : decode cX6_finish 103 = .ok (.invokevirtual 152, 3) := by decide +kernel
theorem dX6_finish_106 : decode cX6_finish 106 = .ok (.ifCond .eq 8, 3) := by decide +kernel
theorem dX6_finish_109 : decode cX6_finish 109 = .ok (.aload_n 0, 1) := by decide +kernel
theorem dX6_finish_110 : decode cX6_finish 110 = .ok (.iconst 1, 1) := by decide +kernel
theorem dX6_finish_111 : decode cX6_finish 111 = .ok (.putfield 49, 3) := by decide +kernel
theorem dX6_finish_114 : decode cX6_finish 114 = .ok (.return_, 1) := by decide +kernel
theorem dX6_undoes_0 : decode cX6_undoes 0 = .ok (.iload_n 0, 1) := by decide +kernel
theorem dX6_undoes_1 : decode cX6_undoes 1 = .ok (.iconst 3, 1) := by decide +kernel
theorem dX6_undoes_2 : decode cX6_undoes 2 = .ok (.if_icmp .eq 26, 3) := by decide +kernel
theorem dX6_undoes_5 : decode cX6_undoes 5 = .ok (.iload_n 0, 1) := by decide +kernel
theorem dX6_undoes_6 : decode cX6_undoes 6 = .ok (.iconst 4, 1) := by decide +kernel
theorem dX6_undoes_7 : decode cX6_undoes 7 = .ok (.if_icmp .eq 21, 3) := by decide +kernel
theorem dX6_undoes_10 : decode cX6_undoes 10 = .ok (.iload_n 0, 1) := by decide +kernel
theorem dX6_undoes_11 : decode cX6_undoes 11 = .ok (.bipush 8, 2) := by decide +kernel
theorem dX6_undoes_13 : decode cX6_undoes 13 = .ok (.if_icmp .eq 15, 3) := by decide +kernel
theorem dX6_undoes_16 : decode cX6_undoes 16 = .ok (.iload_n 0, 1) := by decide +kernel
theorem dX6_undoes_17 : decode cX6_undoes 17 = .ok (.bipush 10, 2) := by decide +kernel
theorem dX6_undoes_19 : decode cX6_undoes 19 = .ok (.if_icmp .eq 9, 3) := by decide +kernel
theorem dX6_undoes_22 : decode cX6_undoes 22 = .ok (.iload_n 0, 1) := by decide +kernel
theorem dX6_undoes_23 : decode cX6_undoes 23 = .ok (.bipush 11, 2) := by decide +kernel
theorem dX6_undoes_25 : decode cX6_undoes 25 = .ok (.if_icmp .ne 7, 3) := by decide +kernel
theorem dX6_undoes_28 : decode cX6_undoes 28 = .ok (.iconst 1, 1) := by decide +kernel
theorem dX6_undoes_29 : decode cX6_undoes 29 = .ok (.goto 4, 3) := by decide +kernel
theorem dX6_undoes_32 : decode cX6_undoes 32 = .ok (.iconst 0, 1) := by decide +kernel
theorem dX6_undoes_33 : decode cX6_undoes 33 = .ok (.ireturn, 1) := by decide +kernel
theorem dX6_enter_0 : decode cX6_enter 0 = .ok (.aload_n 0, 1) := by decide +kernel
theorem dX6_enter_1 : decode cX6_enter 1 = .ok (.getfield 19, 3) := by decide +kernel
theorem dX6_enter_4 : decode cX6_enter 4 = .ok (.getfield 67, 3) := by decide +kernel
theorem dX6_enter_7 : decode cX6_enter 7 = .ok (.istore_n 2, 1) := by decide +kernel
theorem dX6_enter_8 : decode cX6_enter 8 = .ok (.aload_n 0, 1) := by decide +kernel
theorem dX6_enter_9 : decode cX6_enter 9 = .ok (.getfield 19, 3) := by decide +kernel
theorem dX6_enter_12 : decode cX6_enter 12 = .ok (.iload_n 2, 1) := by decide +kernel
theorem dX6_enter_13 : decode cX6_enter 13 = .ok (.ldc 155, 2) := by decide +kernel
theorem dX6_enter_15 : decode cX6_enter 15 = .ok (.iand, 1) := by decide +kernel
theorem dX6_enter_16 : decode cX6_enter 16 = .ok (.sipush 8192, 3) := by decide +kernel
theorem dX6_enter_19 : decode cX6_enter 19 = .ok (.ior, 1) := by decide +kernel
theorem dX6_enter_20 : decode cX6_enter 20 = .ok (.invokevirtual 77, 3) := by decide +kernel
theorem dX6_enter_23 : decode cX6_enter 23 = .ok (.aload_n 0, 1) := by decide +kernel
theorem dX6_enter_24 : decode cX6_enter 24 = .ok (.getfield 19, 3) := by decide +kernel
theorem dX6_enter_27 : decode cX6_enter 27 = .ok (.bipush 15, 2) := by decide +kernel
theorem dX6_enter_29 : decode cX6_enter 29 = .ok (.invokevirtual 74, 3) := by decide +kernel
theorem dX6_enter_32 : decode cX6_enter 32 = .ok (.iconst 1, 1) := by decide +kernel
theorem dX6_enter_33 : decode cX6_enter 33 = .ok (.iand, 1) := by decide +kernel
theorem dX6_enter_34 : decode cX6_enter 34 = .ok (.ifCond .eq 10, 3) := by decide +kernel
theorem dX6_enter_37 : decode cX6_enter 37 = .ok (.aload_n 0, 1) := by decide +kernel
theorem dX6_enter_38 : decode cX6_enter 38 = .ok (.iconst 2, 1) := by decide +kernel
theorem dX6_enter_39 : decode cX6_enter 39 = .ok (.putfield 49, 3) := by decide +kernel
theorem dX6_enter_42 : decode cX6_enter 42 = .ok (.iconst 0, 1) := by decide +kernel
theorem dX6_enter_43 : decode cX6_enter 43 = .ok (.ireturn, 1) := by decide +kernel
theorem dX6_enter_44 : decode cX6_enter 44 = .ok (.aload_n 0, 1) := by decide +kernel
theorem dX6_enter_45 : decode cX6_enter 45 = .ok (.getfield 28, 3) := by decide +kernel
theorem dX6_enter_48 : decode cX6_enter 48 = .ok (.getstatic 156, 3) := by decide +kernel
theorem dX6_enter_51 : decode cX6_enter 51 = .ok (.aload_n 0, 1) := by decide +kernel
theorem dX6_enter_52 : decode cX6_enter 52 = .ok (.getfield 19, 3) := by decide +kernel
theorem dX6_enter_55 : decode cX6_enter 55 = .ok (.getfield 64, 3) := by decide +kernel
theorem dX6_enter_58 : decode cX6_enter 58 = .ok (.invokevirtual 162, 3) := by decide +kernel
theorem dX6_enter_61 : decode cX6_enter 61 = .ok (.aload_n 0, 1) := by decide +kernel
theorem dX6_enter_62 : decode cX6_enter 62 = .ok (.getfield 28, 3) := by decide +kernel
theorem dX6_enter_65 : decode cX6_enter 65 = .ok (.getstatic 166, 3) := by decide +kernel
theorem dX6_enter_68 : decode cX6_enter 68 = .ok (.iload_n 2, 1) := by decide +kernel
theorem dX6_enter_69 : decode cX6_enter 69 = .ok (.invokevirtual 162, 3) := by decide +kernel
theorem dX6_enter_72 : decode cX6_enter 72 = .ok (.aload_n 0, 1) := by decide +kernel
theorem dX6_enter_73 : decode cX6_enter 73 = .ok (.getfield 41, 3) := by decide +kernel
theorem dX6_enter_76 : decode cX6_enter 76 = .ok (.iload_n 1, 1) := by decide +kernel
theorem dX6_enter_77 : decode cX6_enter 77 = .ok (.bipush 63, 2) := by decide +kernel
theorem dX6_enter_79 : decode cX6_enter 79 = .ok (.iand, 1) := by decide +kernel
theorem dX6_enter_80 : decode cX6_enter 80 = .ok (.dup2, 1) := by decide +kernel
theorem dX6_enter_81 : decode cX6_enter 81 = .ok (.iaload, 1) := by decide +kernel
theorem dX6_enter_82 : decode cX6_enter 82 = .ok (.iconst 1, 1) := by decide +kernel
theorem dX6_enter_83 : decode cX6_enter 83 = .ok (.iadd, 1) := by decide +kernel
theorem dX6_enter_84 : decode cX6_enter 84 = .ok (.iastore, 1) := by decide +kernel
theorem dX6_enter_85 : decode cX6_enter 85 = .ok (.aload_n 0, 1) := by decide +kernel
theorem dX6_enter_86 : decode cX6_enter 86 = .ok (.getfield 41, 3) := by decide +kernel
theorem dX6_enter_89 : decode cX6_enter 89 = .ok (.iconst 0, 1) := by decide +kernel
theorem dX6_enter_90 : decode cX6_enter 90 = .ok (.dup2, 1) := by decide +kernel
theorem dX6_enter_91 : decode cX6_enter 91 = .ok (.iaload, 1) := by decide +kernel
theorem dX6_enter_92 : decode cX6_enter 92 = .ok (.iconst 1, 1) := by decide +kernel
theorem dX6_enter_93 : decode cX6_enter 93 = .ok (.iadd, 1) := by decide +kernel
theorem dX6_enter_94 : decode cX6_enter 94 = .ok (.iastore, 1) := by decide +kernel
theorem dX6_enter_95 : decode cX6_enter 95 = .ok (.iconst 1, 1) := by decide +kernel
theorem dX6_enter_96 : decode cX6_enter 96 = .ok (.ireturn, 1) := by decide +kernel
theorem dX6_pushFault_0 : decode cX6_pushFault 0 = .ok (.iload_n 1, 1) := by decide +kernel
theorem dX6_pushFault_1 : decode cX6_pushFault 1 = .ok (.iconst 3, 1) := by decide +kernel
theorem dX6_pushFault_2 : decode cX6_pushFault 2 = .ok (.if_icmp .ne 36, 3) := by decide +kernel
theorem dX6_pushFault_5 : decode cX6_pushFault 5 = .ok (.aload_n 0, 1) := by decide +kernel
theorem dX6_pushFault_6 : decode cX6_pushFault 6 = .ok (.getfield 28, 3) := by decide +kernel
theorem dX6_pushFault_9 : decode cX6_pushFault 9 = .ok (.getstatic 166, 3) := by decide +kernel
theorem dX6_pushFault_12 : decode cX6_pushFault 12 = .ok (.iload_n 2, 1) := by decide +kernel
theorem dX6_pushFault_13 : decode cX6_pushFault 13 = .ok (.invokevirtual 162, 3) := by decide +kernel
theorem dX6_pushFault_16 : decode cX6_pushFault 16 = .ok (.aload_n 0, 1) := by decide +kernel
theorem dX6_pushFault_17 : decode cX6_pushFault 17 = .ok (.getfield 28, 3) := by decide +kernel
theorem dX6_pushFault_20 : decode cX6_pushFault 20 = .ok (.getstatic 156, 3) := by decide +kernel
theorem dX6_pushFault_23 : decode cX6_pushFault 23 = .ok (.iload_n 3, 1) := by decide +kernel
theorem dX6_pushFault_24 : decode cX6_pushFault 24 = .ok (.invokevirtual 162, 3) := by decide +kernel
theorem dX6_pushFault_27 : decode cX6_pushFault 27 = .ok (.aload_n 0, 1) := by decide +kernel
theorem dX6_pushFault_28 : decode cX6_pushFault 28 = .ok (.getfield 28, 3) := by decide +kernel
theorem dX6_pushFault_31 : decode cX6_pushFault 31 = .ok (.getstatic 166, 3) := by decide +kernel
theorem dX6_pushFault_34 : decode cX6_pushFault 34 = .ok (.iconst 0, 1) := by decide +kernel
theorem dX6_pushFault_35 : decode cX6_pushFault 35 = .ok (.invokevirtual 162, 3) := by decide +kernel
theorem dX6_pushFault_38 : decode cX6_pushFault 38 = .ok (.return_, 1) := by decide +kernel
theorem dX6_leaveFor_0 : decode cX6_leaveFor 0 = .ok (.aload_n 0, 1) := by decide +kernel
theorem dX6_leaveFor_1 : decode cX6_leaveFor 1 = .ok (.getfield 19, 3) := by decide +kernel
theorem dX6_leaveFor_4 : decode cX6_leaveFor 4 = .ok (.aload_n 0, 1) := by decide +kernel
theorem dX6_leaveFor_5 : decode cX6_leaveFor 5 = .ok (.getfield 12, 3) := by decide +kernel
theorem dX6_leaveFor_8 : decode cX6_leaveFor 8 = .ok (.iconst 4, 1) := by decide +kernel
theorem dX6_leaveFor_9 : decode cX6_leaveFor 9 = .ok (.iload_n 1, 1) := by decide +kernel
theorem dX6_leaveFor_10 : decode cX6_leaveFor 10 = .ok (.imul, 1) := by decide +kernel
theorem dX6_leaveFor_11 : decode cX6_leaveFor 11 = .ok (.iconst 4, 1) := by decide +kernel
theorem dX6_leaveFor_12 : decode cX6_leaveFor 12 = .ok (.invokevirtual 95, 3) := by decide +kernel
theorem dX6_leaveFor_15 : decode cX6_leaveFor 15 = .ok (.putfield 64, 3) := by decide +kernel
theorem dX6_leaveFor_18 : decode cX6_leaveFor 18 = .ok (.return_, 1) := by decide +kernel
theorem dX7_init_0 : decode cX7_init 0 = .ok (.aload_n 0, 1) := by decide +kernel
theorem dX7_init_1 : decode cX7_init 1 = .ok (.invokespecial 1, 3) := by decide +kernel
theorem dX7_init_4 : decode cX7_init 4 = .ok (.aload_n 0, 1) := by decide +kernel
theorem dX7_init_5 : decode cX7_init 5 = .ok (.sipush 4096, 3) := by decide +kernel
theorem dX7_init_8 : decode cX7_init 8 = .ok (.newarray .int, 2) := by decide +kernel
theorem dX7_init_10 : decode cX7_init 10 = .ok (.putfield 7, 3) := by decide +kernel
theorem dX7_init_13 : decode cX7_init 13 = .ok (.aload_n 0, 1) := by decide +kernel
theorem dX7_init_14 : decode cX7_init 14 = .ok (.bipush 8, 2) := by decide +kernel
theorem dX7_init_16 : decode cX7_init 16 = .ok (.newarray .int, 2) := by decide +kernel
theorem dX7_init_18 : decode cX7_init 18 = .ok (.putfield 13, 3) := by decide +kernel
theorem dX7_init_21 : decode cX7_init 21 = .ok (.aload_n 0, 1) := by decide +kernel
theorem dX7_init_22 : decode cX7_init 22 = .ok (.bipush 7, 2) := by decide +kernel
theorem dX7_init_24 : decode cX7_init 24 = .ok (.newarray .int, 2) := by decide +kernel
theorem dX7_init_26 : decode cX7_init 26 = .ok (.putfield 16, 3) := by decide +kernel
theorem dX7_init_29 : decode cX7_init 29 = .ok (.aload_n 0, 1) := by decide +kernel
theorem dX7_init_30 : decode cX7_init 30 = .ok (.iconst 2, 1) := by decide +kernel
theorem dX7_init_31 : decode cX7_init 31 = .ok (.newarray .int, 2) := by decide +kernel
theorem dX7_init_33 : decode cX7_init 33 = .ok (.putfield 19, 3) := by decide +kernel
theorem dX7_init_36 : decode cX7_init 36 = .ok (.aload_n 0, 1) := by decide +kernel
theorem dX7_init_37 : decode cX7_init 37 = .ok (.bipush 64, 2) := by decide +kernel
theorem dX7_init_39 : decode cX7_init 39 = .ok (.newarray .int, 2) := by decide +kernel
theorem dX7_init_41 : decode cX7_init 41 = .ok (.putfield 22, 3) := by decide +kernel
theorem dX7_init_44 : decode cX7_init 44 = .ok (.aload_n 0, 1) := by decide +kernel
theorem dX7_init_45 : decode cX7_init 45 = .ok (.bipush 8, 2) := by decide +kernel
theorem dX7_init_47 : decode cX7_init 47 = .ok (.newarray .int, 2) := by decide +kernel
theorem dX7_init_49 : decode cX7_init 49 = .ok (.putfield 25, 3) := by decide +kernel
theorem dX7_init_52 : decode cX7_init 52 = .ok (.aload_n 0, 1) := by decide +kernel
theorem dX7_init_53 : decode cX7_init 53 = .ok (.bipush 7, 2) := by decide +kernel
theorem dX7_init_55 : decode cX7_init 55 = .ok (.newarray .int, 2) := by decide +kernel
theorem dX7_init_57 : decode cX7_init 57 = .ok (.putfield 28, 3) := by decide +kernel
theorem dX7_init_60 : decode cX7_init 60 = .ok (.aload_n 0, 1) := by decide +kernel
theorem dX7_init_61 : decode cX7_init 61 = .ok (.iconst 2, 1) := by decide +kernel
theorem dX7_init_62 : decode cX7_init 62 = .ok (.newarray .int, 2) := by decide +kernel
theorem dX7_init_64 : decode cX7_init 64 = .ok (.putfield 31, 3) := by decide +kernel
theorem dX7_init_67 : decode cX7_init 67 = .ok (.aload_n 0, 1) := by decide +kernel
theorem dX7_init_68 : decode cX7_init 68 = .ok (.sipush 400, 3) := by decide +kernel
theorem dX7_init_71 : decode cX7_init 71 = .ok (.newarray .int, 2) := by decide +kernel
theorem dX7_init_73 : decode cX7_init 73 = .ok (.putfield 34, 3) := by decide +kernel
theorem dX7_init_76 : decode cX7_init 76 = .ok (.aload_n 0, 1) := by decide +kernel
theorem dX7_init_77 : decode cX7_init 77 = .ok (.sipush 400, 3) := by decide +kernel
theorem dX7_init_80 : decode cX7_init 80 = .ok (.newarray .int, 2) := by decide +kernel
theorem dX7_init_82 : decode cX7_init 82 = .ok (.putfield 37, 3) := by decide +kernel
theorem dX7_init_85 : decode cX7_init 85 = .ok (.aload_n 0, 1) := by decide +kernel
theorem dX7_init_86 : decode cX7_init 86 = .ok (.invokevirtual 40, 3) := by decide +kernel
theorem dX7_init_89 : decode cX7_init 89 = .ok (.return_, 1) := by decide +kernel
theorem dX7_thrown_0 : decode cX7_thrown 0 = .ok (.aload_n 0, 1) := by decide +kernel
theorem dX7_thrown_1 : decode cX7_thrown 1 = .ok (.getfield 43, 3) := by decide +kernel
theorem dX7_thrown_4 : decode cX7_thrown 4 = .ok (.ireturn, 1) := by decide +kernel
theorem dX7_clear_0 : decode cX7_clear 0 = .ok (.iconst 0, 1) := by decide +kernel
theorem dX7_clear_1 : decode cX7_clear 1 = .ok (.istore_n 1, 1) := by decide +kernel
theorem dX7_clear_2 : decode cX7_clear 2 = .ok (.iload_n 1, 1) := by decide +kernel
theorem dX7_clear_3 : decode cX7_clear 3 = .ok (.bipush 8, 2) := by decide +kernel
theorem dX7_clear_5 : decode cX7_clear 5 = .ok (.if_icmp .ge 16, 3) := by decide +kernel
theorem dX7_clear_8 : decode cX7_clear 8 = .ok (.aload_n 0, 1) := by decide +kernel
theorem dX7_clear_9 : decode cX7_clear 9 = .ok (.getfield 13, 3) := by decide +kernel
theorem dX7_clear_12 : decode cX7_clear 12 = .ok (.iload_n 1, 1) := by decide +kernel
theorem dX7_clear_13 : decode cX7_clear 13 = .ok (.iconst 0, 1) := by decide +kernel
theorem dX7_clear_14 : decode cX7_clear 14 = .ok (.iastore, 1) := by decide +kernel
theorem dX7_clear_15 : decode cX7_clear 15 = .ok (.iinc 1 1, 3) := by decide +kernel
theorem dX7_clear_18 : decode cX7_clear 18 = .ok (.goto (-16), 3) := by decide +kernel
theorem dX7_clear_21 : decode cX7_clear 21 = .ok (.iconst 0, 1) := by decide +kernel
theorem dX7_clear_22 : decode cX7_clear 22 = .ok (.istore_n 1, 1) := by decide +kernel
theorem dX7_clear_23 : decode cX7_clear 23 = .ok (.iload_n 1, 1) := by decide +kernel
theorem dX7_clear_24 : decode cX7_clear 24 = .ok (.bipush 7, 2) := by decide +kernel
theorem dX7_clear_26 : decode cX7_clear 26 = .ok (.if_icmp .ge 16, 3) := by decide +kernel
theorem dX7_clear_29 : decode cX7_clear 29 = .ok (.aload_n 0, 1) := by decide +kernel
theorem dX7_clear_30 : decode cX7_clear 30 = .ok (.getfield 16, 3) := by decide +kernel
theorem dX7_clear_33 : decode cX7_clear 33 = .ok (.iload_n 1, 1) := by decide +kernel
theorem dX7_clear_34 : decode cX7_clear 34 = .ok (.iconst 0, 1) := by decide +kernel
theorem dX7_clear_35 : decode cX7_clear 35 = .ok (.iastore, 1) := by decide +kernel
theorem dX7_clear_36 : decode cX7_clear 36 = .ok (.iinc 1 1, 3) := by decide +kernel
theorem dX7_clear_39 : decode cX7_clear 39 = .ok (.goto (-16), 3) := by decide +kernel
theorem dX7_clear_42 : decode cX7_clear 42 = .ok (.aload_n 0, 1) := by decide +kernel
theorem dX7_clear_43 : decode cX7_clear 43 = .ok (.getfield 19, 3) := by decide +kernel
theorem dX7_clear_46 : decode cX7_clear 46 = .ok (.iconst 0, 1) := by decide +kernel
theorem dX7_clear_47 : decode cX7_clear 47 = .ok (.iconst 0, 1) := by decide +kernel
theorem dX7_clear_48 : decode cX7_clear 48 = .ok (.iastore, 1) := by decide +kernel
theorem dX7_clear_49 : decode cX7_clear 49 = .ok (.aload_n 0, 1) := by decide +kernel
theorem dX7_clear_50 : decode cX7_clear 50 = .ok (.getfield 19, 3) := by decide +kernel
theorem dX7_clear_53 : decode cX7_clear 53 = .ok (.iconst 1, 1) := by decide +kernel
theorem dX7_clear_54 : decode cX7_clear 54 = .ok (.sipush 1024, 3) := by decide +kernel
theorem dX7_clear_57 : decode cX7_clear 57 = .ok (.iastore, 1) := by decide +kernel
theorem dX7_clear_58 : decode cX7_clear 58 = .ok (.aload_n 0, 1) := by decide +kernel
theorem dX7_clear_59 : decode cX7_clear 59 = .ok (.sipush 1024, 3) := by decide +kernel
theorem dX7_clear_62 : decode cX7_clear 62 = .ok (.putfield 47, 3) := by decide +kernel
theorem dX7_clear_65 : decode cX7_clear 65 = .ok (.aload_n 0, 1) := by decide +kernel
theorem dX7_clear_66 : decode cX7_clear 66 = .ok (.sipush 8192, 3) := by decide +kernel
theorem dX7_clear_69 : decode cX7_clear 69 = .ok (.putfield 50, 3) := by decide +kernel
theorem dX7_clear_72 : decode cX7_clear 72 = .ok (.aload_n 0, 1) := by decide +kernel
theorem dX7_clear_73 : decode cX7_clear 73 = .ok (.iconst 0, 1) := by decide +kernel
theorem dX7_clear_74 : decode cX7_clear 74 = .ok (.putfield 53, 3) := by decide +kernel
theorem dX7_clear_77 : decode cX7_clear 77 = .ok (.aload_n 0, 1) := by decide +kernel
theorem dX7_clear_78 : decode cX7_clear 78 = .ok (.iconst 0, 1) := by decide +kernel
theorem dX7_clear_79 : decode cX7_clear 79 = .ok (.putfield 57, 3) := by decide +kernel
theorem dX7_clear_82 : decode cX7_clear 82 = .ok (.aload_n 0, 1) := by decide +kernel
theorem dX7_clear_83 : decode cX7_clear 83 = .ok (.iconst 0, 1) := by decide +kernel
theorem dX7_clear_84 : decode cX7_clear 84 = .ok (.putfield 60, 3) := by decide +kernel
theorem dX7_clear_87 : decode cX7_clear 87 = .ok (.aload_n 0, 1) := by decide +kernel
theorem dX7_clear_88 : decode cX7_clear 88 = .ok (.iconst 0, 1) := by decide +kernel
theorem dX7_clear_89 : decode cX7_clear 89 = .ok (.putfield 63, 3) := by decide +kernel
theorem dX7_clear_92 : decode cX7_clear 92 = .ok (.iconst 0, 1) := by decide +kernel
theorem dX7_clear_93 : decode cX7_clear 93 = .ok (.istore_n 1, 1) := by decide +kernel
theorem dX7_clear_94 : decode cX7_clear 94 = .ok (.iload_n 1, 1) := by decide +kernel
theorem dX7_clear_95 : decode cX7_clear 95 = .ok (.bipush 64, 2) := by decide +kernel
theorem dX7_clear_97 : decode cX7_clear 97 = .ok (.if_icmp .ge 16, 3) := by decide +kernel
theorem dX7_clear_100 : decode cX7_clear 100 = .ok (.aload_n 0, 1) := by decide +kernel
theorem dX7_clear_101 : decode cX7_clear 101 = .ok (.getfield 22, 3) := by decide +kernel
theorem dX7_clear_104 : decode cX7_clear 104 = .ok (.iload_n 1, 1) := by decide +kernel
theorem dX7_clear_105 : decode cX7_clear 105 = .ok (.iconst 0, 1) := by decide +kernel
theorem dX7_clear_106 : decode cX7_clear 106 = .ok (.iastore, 1) := by decide +kernel
theorem dX7_clear_107 : decode cX7_clear 107 = .ok (.iinc 1 1, 3) := by decide +kernel
theorem dX7_clear_110 : decode cX7_clear 110 = .ok (.goto (-16), 3) := by decide +kernel
theorem dX7_clear_113 : decode cX7_clear 113 = .ok (.return_, 1) := by decide +kernel
theorem dX7_reset_0 : decode cX7_reset 0 = .ok (.aload_n 0, 1) := by decide +kernel
theorem dX7_reset_1 : decode cX7_reset 1 = .ok (.iconst 0, 1) := by decide +kernel
theorem dX7_reset_2 : decode cX7_reset 2 = .ok (.putfield 43, 3) := by decide +kernel
theorem dX7_reset_5 : decode cX7_reset 5 = .ok (.aload_n 0, 1) := by decide +kernel
theorem dX7_reset_6 : decode cX7_reset 6 = .ok (.invokevirtual 40, 3) := by decide +kernel
theorem dX7_reset_9 : decode cX7_reset 9 = .ok (.return_, 1) := by decide +kernel
theorem dX7_mode_0 : decode cX7_mode 0 = .ok (.aload_n 0, 1) := by decide +kernel
theorem dX7_mode_1 : decode cX7_mode 1 = .ok (.getfield 50, 3) := by decide +kernel
theorem dX7_mode_4 : decode cX7_mode 4 = .ok (.sipush 8192, 3) := by decide +kernel
theorem dX7_mode_7 : decode cX7_mode 7 = .ok (.iand, 1) := by decide +kernel
theorem dX7_mode_8 : decode cX7_mode 8 = .ok (.ifCond .eq 7, 3) := by decide +kernel
theorem dX7_mode_11 : decode cX7_mode 11 = .ok (.iconst 1, 1) := by decide +kernel
theorem dX7_mode_12 : decode cX7_mode 12 = .ok (.goto 4, 3) := by decide +kernel
theorem dX7_mode_15 : decode cX7_mode 15 = .ok (.iconst 0, 1) := by decide +kernel
theorem dX7_mode_16 : decode cX7_mode 16 = .ok (.ireturn, 1) := by decide +kernel
theorem dX7_getA_0 : decode cX7_getA 0 = .ok (.iload_n 1, 1) := by decide +kernel
theorem dX7_getA_1 : decode cX7_getA 1 = .ok (.bipush 7, 2) := by decide +kernel
theorem dX7_getA_3 : decode cX7_getA 3 = .ok (.if_icmp .ne 15, 3) := by decide +kernel
theorem dX7_getA_6 : decode cX7_getA 6 = .ok (.aload_n 0, 1) := by decide +kernel
theorem dX7_getA_7 : decode cX7_getA 7 = .ok (.getfield 19, 3) := by decide +kernel
theorem dX7_getA_10 : decode cX7_getA 10 = .ok (.aload_n 0, 1) := by decide +kernel
theorem dX7_getA_11 : decode cX7_getA 11 = .ok (.invokevirtual 66, 3) := by decide +kernel
theorem dX7_getA_14 : decode cX7_getA 14 = .ok (.iaload, 1) := by decide +kernel
theorem dX7_getA_15 : decode cX7_getA 15 = .ok (.goto 9, 3) := by decide +kernel
theorem dX7_getA_18 : decode cX7_getA 18 = .ok (.aload_n 0, 1) := by decide +kernel
theorem dX7_getA_19 : decode cX7_getA 19 = .ok (.getfield 16, 3) := by decide +kernel
theorem dX7_getA_22 : decode cX7_getA 22 = .ok (.iload_n 1, 1) := by decide +kernel
theorem dX7_getA_23 : decode cX7_getA 23 = .ok (.iaload, 1) := by decide +kernel
theorem dX7_getA_24 : decode cX7_getA 24 = .ok (.ireturn, 1) := by decide +kernel
theorem dX7_setA_0 : decode cX7_setA 0 = .ok (.iload_n 1, 1) := by decide +kernel
theorem dX7_setA_1 : decode cX7_setA 1 = .ok (.bipush 7, 2) := by decide +kernel
theorem dX7_setA_3 : decode cX7_setA 3 = .ok (.if_icmp .ne 16, 3) := by decide +kernel
theorem dX7_setA_6 : decode cX7_setA 6 = .ok (.aload_n 0, 1) := by decide +kernel
theorem dX7_setA_7 : decode cX7_setA 7 = .ok (.getfield 19, 3) := by decide +kernel
theorem dX7_setA_10 : decode cX7_setA 10 = .ok (.aload_n 0, 1) := by decide +kernel
theorem dX7_setA_11 : decode cX7_setA 11 = .ok (.invokevirtual 66, 3) := by decide +kernel
theorem dX7_setA_14 : decode cX7_setA 14 = .ok (.iload_n 2, 1) := by decide +kernel
theorem dX7_setA_15 : decode cX7_setA 15 = .ok (.iastore, 1) := by decide +kernel
theorem dX7_setA_16 : decode cX7_setA 16 = .ok (.goto 10, 3) := by decide +kernel
theorem dX7_setA_19 : decode cX7_setA 19 = .ok (.aload_n 0, 1) := by decide +kernel
theorem dX7_setA_20 : decode cX7_setA 20 = .ok (.getfield 16, 3) := by decide +kernel
theorem dX7_setA_23 : decode cX7_setA 23 = .ok (.iload_n 1, 1) := by decide +kernel
theorem dX7_setA_24 : decode cX7_setA 24 = .ok (.iload_n 2, 1) := by decide +kernel
theorem dX7_setA_25 : decode cX7_setA 25 = .ok (.iastore, 1) := by decide +kernel
theorem dX7_setA_26 : decode cX7_setA 26 = .ok (.return_, 1) := by decide +kernel
theorem dX7_register_0 : decode cX7_register 0 = .ok (.aload_n 0, 1) := by decide +kernel
theorem dX7_register_1 : decode cX7_register 1 = .ok (.iload_n 1, 1) := by decide +kernel
theorem dX7_register_2 : decode cX7_register 2 = .ok (.ifCond .lt 9, 3) := by decide +kernel
theorem dX7_register_5 : decode cX7_register 5 = .ok (.iload_n 1, 1) := by decide +kernel
theorem dX7_register_6 : decode cX7_register 6 = .ok (.bipush 19, 2) := by decide +kernel
theorem dX7_register_8 : decode cX7_register 8 = .ok (.if_icmp .le 7, 3) := by decide +kernel
theorem dX7_register_11 : decode cX7_register 11 = .ok (.iconst 1, 1) := by decide +kernel
theorem dX7_register_12 : decode cX7_register 12 = .ok (.goto 4, 3) := by decide +kernel
theorem dX7_register_15 : decode cX7_register 15 = .ok (.iconst 0, 1) := by decide +kernel
theorem dX7_register_16 : decode cX7_register 16 = .ok (.putfield 43, 3) := by decide +kernel
theorem dX7_register_19 : decode cX7_register 19 = .ok (.aload_n 0, 1) := by decide +kernel
theorem dX7_register_20 : decode cX7_register 20 = .ok (.getfield 43, 3) := by decide +kernel
theorem dX7_register_23 : decode cX7_register 23 = .ok (.ifCond .le 5, 3) := by decide +kernel
theorem dX7_register_26 : decode cX7_register 26 = .ok (.iconst 0, 1) := by decide +kernel
theorem dX7_register_27 : decode cX7_register 27 = .ok (.ireturn, 1) := by decide +kernel
theorem dX7_register_28 : decode cX7_register 28 = .ok (.iload_n 1, 1) := by decide +kernel
theorem dX7_register_29 : decode cX7_register 29 = .ok (.bipush 8, 2) := by decide +kernel
theorem dX7_register_31 : decode cX7_register 31 = .ok (.if_icmp .ge 12, 3) := by decide +kernel
theorem dX7_register_34 : decode cX7_register 34 = .ok (.aload_n 0, 1) := by decide +kernel
theorem dX7_register_35 : decode cX7_register 35 = .ok (.getfield 13, 3) := by decide +kernel
theorem dX7_register_38 : decode cX7_register 38 = .ok (.iload_n 1, 1) := by decide +kernel
theorem dX7_register_39 : decode cX7_register 39 = .ok (.iaload, 1) := by decide +kernel
theorem dX7_register_40 : decode cX7_register 40 = .ok (.goto 55, 3) := by decide +kernel
theorem dX7_register_43 : decode cX7_register 43 = .ok (.iload_n 1, 1) := by decide +kernel
theorem dX7_register_44 : decode cX7_register 44 = .ok (.bipush 16, 2) := by decide +kernel
theorem dX7_register_46 : decode cX7_register 46 = .ok (.if_icmp .ge 14, 3) := by decide +kernel
theorem dX7_register_49 : decode cX7_register 49 = .ok (.aload_n 0, 1) := by decide +kernel
theorem dX7_register_50 : decode cX7_register 50 = .ok (.iload_n 1, 1) := by decide +kernel
theorem dX7_register_51 : decode cX7_register 51 = .ok (.bipush 8, 2) := by decide +kernel
theorem dX7_register_53 : decode cX7_register 53 = .ok (.isub, 1) := by decide +kernel
theorem dX7_register_54 : decode cX7_register 54 = .ok (.invokevirtual 70, 3) := by decide +kernel
theorem dX7_register_57 : decode cX7_register 57 = .ok (.goto 38, 3) := by decide +kernel
theorem dX7_register_60 : decode cX7_register 60 = .ok (.iload_n 1, 1) := by decide +kernel
theorem dX7_register_61 : decode cX7_register 61 = .ok (.bipush 16, 2) := by decide +kernel
theorem dX7_register_63 : decode cX7_register 63 = .ok (.if_icmp .ne 10, 3) := by decide +kernel
theorem dX7_register_66 : decode cX7_register 66 = .ok (.aload_n 0, 1) := by decide +kernel
theorem dX7_register_67 : decode cX7_register 67 = .ok (.getfield 47, 3) := by decide +kernel
theorem dX7_register_70 : decode cX7_register 70 = .ok (.goto 25, 3) := by decide +kernel
theorem dX7_register_73 : decode cX7_register 73 = .ok (.iload_n 1, 1) := by decide +kernel
theorem dX7_register_74 : decode cX7_register 74 = .ok (.bipush 17, 2) := by decide +kernel
theorem dX7_register_76 : decode cX7_register 76 = .ok (.if_icmp .ne 10, 3) := by decide +kernel
theorem dX7_register_79 : decode cX7_register 79 = .ok (.aload_n 0, 1) := by decide +kernel
theorem dX7_register_80 : decode cX7_register 80 = .ok (.getfield 50, 3) := by decide +kernel
theorem dX7_register_83 : decode cX7_register 83 = .ok (.goto 12, 3) := by decide +kernel
theorem dX7_register_86 : decode cX7_register 86 = .ok (.aload_n 0, 1) := by decide +kernel
theorem dX7_register_87 : decode cX7_register 87 = .ok (.getfield 19, 3) := by decide +kernel
theorem dX7_register_90 : decode cX7_register 90 = .ok (.iload_n 1, 1) := by decide +kernel
theorem dX7_register_91 : decode cX7_register 91 = .ok (.bipush 18, 2) := by decide +kernel
theorem dX7_register_93 : decode cX7_register 93 = .ok (.isub, 1) := by decide +kernel
theorem dX7_register_94 : decode cX7_register 94 = .ok (.iaload, 1) := by decide +kernel
theorem dX7_register_95 : decode cX7_register 95 = .ok (.ireturn, 1) := by decide +kernel
theorem dX7_put_0 : decode cX7_put 0 = .ok (.aload_n 0, 1) := by decide +kernel
theorem dX7_put_1 : decode cX7_put 1 = .ok (.iload_n 1, 1) := by decide +kernel
theorem dX7_put_2 : decode cX7_put 2 = .ok (.ifCond .lt 9, 3) := by decide +kernel
theorem dX7_put_5 : decode cX7_put 5 = .ok (.iload_n 1, 1) := by decide +kernel
theorem dX7_put_6 : decode cX7_put 6 = .ok (.bipush 19, 2) := by decide +kernel
theorem dX7_put_8 : decode cX7_put 8 = .ok (.if_icmp .le 7, 3) := by decide +kernel
theorem dX7_put_11 : decode cX7_put 11 = .ok (.iconst 1, 1) := by decide +kernel
theorem dX7_put_12 : decode cX7_put 12 = .ok (.goto 4, 3) := by decide +kernel
theorem dX7_put_15 : decode cX7_put 15 = .ok (.iconst 0, 1) := by decide +kernel
theorem dX7_put_16 : decode cX7_put 16 = .ok (.putfield 43, 3) := by decide +kernel
theorem dX7_put_19 : decode cX7_put 19 = .ok (.aload_n 0, 1) := by decide +kernel
theorem dX7_put_20 : decode cX7_put 20 = .ok (.getfield 43, 3) := by decide +kernel
theorem dX7_put_23 : decode cX7_put 23 = .ok (.ifCond .le 4, 3) := by decide +kernel
theorem dX7_put_26 : decode cX7_put 26 = .ok (.return_, 1) := by decide +kernel
theorem dX7_put_27 : decode cX7_put 27 = .ok (.iload_n 1, 1) := by decide +kernel
theorem dX7_put_28 : decode cX7_put 28 = .ok (.bipush 8, 2) := by decide +kernel
theorem dX7_put_30 : decode cX7_put 30 = .ok (.if_icmp .ge 13, 3) := by decide +kernel
theorem dX7_put_33 : decode cX7_put 33 = .ok (.aload_n 0, 1) := by decide +kernel
theorem dX7_put_34 : decode cX7_put 34 = .ok (.getfield 13, 3) := by decide +kernel
theorem dX7_put_37 : decode cX7_put 37 = .ok (.iload_n 1, 1) := by decide +kernel
theorem dX7_put_38 : decode cX7_put 38 = .ok (.iload_n 2, 1) := by decide +kernel
theorem dX7_put_39 : decode cX7_put 39 = .ok (.iastore, 1) := by decide +kernel
theorem dX7_put_40 : decode cX7_put 40 = .ok (.goto 62, 3) := by decide +kernel
theorem dX7_put_43 : decode cX7_put 43 = .ok (.iload_n 1, 1) := by decide +kernel
theorem dX7_put_44 : decode cX7_put 44 = .ok (.bipush 16, 2) := by decide +kernel
theorem dX7_put_46 : decode cX7_put 46 = .ok (.if_icmp .ge 15, 3) := by decide +kernel
theorem dX7_put_49 : decode cX7_put 49 = .ok (.aload_n 0, 1) := by decide +kernel
theorem dX7_put_50 : decode cX7_put 50 = .ok (.iload_n 1, 1) := by decide +kernel
theorem dX7_put_51 : decode cX7_put 51 = .ok (.bipush 8, 2) := by decide +kernel
theorem dX7_put_53 : decode cX7_put 53 = .ok (.isub, 1) := by decide +kernel
theorem dX7_put_54 : decode cX7_put 54 = .ok (.iload_n 2, 1) := by decide +kernel
theorem dX7_put_55 : decode cX7_put 55 = .ok (.invokevirtual 74, 3) := by decide +kernel
theorem dX7_put_58 : decode cX7_put 58 = .ok (.goto 44, 3) := by decide +kernel
theorem dX7_put_61 : decode cX7_put 61 = .ok (.iload_n 1, 1) := by decide +kernel
theorem dX7_put_62 : decode cX7_put 62 = .ok (.bipush 16, 2) := by decide +kernel
theorem dX7_put_64 : decode cX7_put 64 = .ok (.if_icmp .ne 11, 3) := by decide +kernel
theorem dX7_put_67 : decode cX7_put 67 = .ok (.aload_n 0, 1) := by decide +kernel
theorem dX7_put_68 : decode cX7_put 68 = .ok (.iload_n 2, 1) := by decide +kernel
theorem dX7_put_69 : decode cX7_put 69 = .ok (.putfield 47, 3) := by decide +kernel
theorem dX7_put_72 : decode cX7_put 72 = .ok (.goto 30, 3) := by decide +kernel
theorem dX7_put_75 : decode cX7_put 75 = .ok (.iload_n 1, 1) := by decide +kernel
theorem dX7_put_76 : decode cX7_put 76 = .ok (.bipush 17, 2) := by decide +kernel
theorem dX7_put_78 : decode cX7_put 78 = .ok (.if_icmp .ne 14, 3) := by decide +kernel
theorem dX7_put_81 : decode cX7_put 81 = .ok (.aload_n 0, 1) := by decide +kernel
theorem dX7_put_82 : decode cX7_put 82 = .ok (.iload_n 2, 1) := by decide +kernel
theorem dX7_put_83 : decode cX7_put 83 = .ok (.ldc 78, 2) := by decide +kernel
theorem dX7_put_85 : decode cX7_put 85 = .ok (.iand, 1) := by decide +kernel
theorem dX7_put_86 : decode cX7_put 86 = .ok (.putfield 50, 3) := by decide +kernel
theorem dX7_put_89 : decode cX7_put 89 = .ok (.goto 13, 3) := by decide +kernel
theorem dX7_put_92 : decode cX7_put 92 = .ok (.aload_n 0, 1) := by decide +kernel
theorem dX7_put_93 : decode cX7_put 93 = .ok (.getfield 19, 3) := by decide +kernel
theorem dX7_put_96 : decode cX7_put 96 = .ok (.iload_n 1, 1) := by decide +kernel
theorem dX7_put_97 : decode cX7_put 97 = .ok (.bipush 18, 2) := by decide +kernel
theorem dX7_put_99 : decode cX7_put 99 = .ok (.isub, 1) := by decide +kernel
theorem dX7_put_100 : decode cX7_put 100 = .ok (.iload_n 2, 1) := by decide +kernel
theorem dX7_put_101 : decode cX7_put 101 = .ok (.iastore, 1) := by decide +kernel
theorem dX7_put_102 : decode cX7_put 102 = .ok (.return_, 1) := by decide +kernel
theorem dX7_byteAt_0 : decode cX7_byteAt 0 = .ok (.aload_n 0, 1) := by decide +kernel
theorem dX7_byteAt_1 : decode cX7_byteAt 1 = .ok (.getfield 7, 3) := by decide +kernel
theorem dX7_byteAt_4 : decode cX7_byteAt 4 = .ok (.iload_n 1, 1) := by decide +kernel
theorem dX7_byteAt_5 : decode cX7_byteAt 5 = .ok (.sipush 4095, 3) := by decide +kernel
theorem dX7_byteAt_8 : decode cX7_byteAt 8 = .ok (.iand, 1) := by decide +kernel
theorem dX7_byteAt_9 : decode cX7_byteAt 9 = .ok (.iaload, 1) := by decide +kernel
theorem dX7_byteAt_10 : decode cX7_byteAt 10 = .ok (.ireturn, 1) := by decide +kernel
theorem dX7_setByte_0 : decode cX7_setByte 0 = .ok (.aload_n 0, 1) := by decide +kernel
theorem dX7_setByte_1 : decode cX7_setByte 1 = .ok (.getfield 79, 3) := by decide +kernel
theorem dX7_setByte_4 : decode cX7_setByte 4 = .ok (.sipush 400, 3) := by decide +kernel
theorem dX7_setByte_7 : decode cX7_setByte 7 = .ok (.if_icmp .ge 46, 3) := by decide +kernel
theorem dX7_setByte_10 : decode cX7_setByte 10 = .ok (.aload_n 0, 1) := by decide +kernel
theorem dX7_setByte_11 : decode cX7_setByte 11 = .ok (.getfield 34, 3) := by decide +kernel
theorem dX7_setByte_14 : decode cX7_setByte 14 = .ok (.aload_n 0, 1) := by decide +kernel
theorem dX7_setByte_15 : decode cX7_setByte 15 = .ok (.getfield 79, 3) := by decide +kernel
theorem dX7_setByte_18 : decode cX7_setByte 18 = .ok (.iload_n 1, 1) := by decide +kernel
theorem dX7_setByte_19 : decode cX7_setByte 19 = .ok (.sipush 4095, 3) := by decide +kernel
theorem dX7_setByte_22 : decode cX7_setByte 22 = .ok (.iand, 1) := by decide +kernel
theorem dX7_setByte_23 : decode cX7_setByte 23 = .ok (.iastore, 1) := by decide +kernel
theorem dX7_setByte_24 : decode cX7_setByte 24 = .ok (.aload_n 0, 1) := by decide +kernel
theorem dX7_setByte_25 : decode cX7_setByte 25 = .ok (.getfield 37, 3) := by decide +kernel
theorem dX7_setByte_28 : decode cX7_setByte 28 = .ok (.aload_n 0, 1) := by decide +kernel
theorem dX7_setByte_29 : decode cX7_setByte 29 = .ok (.getfield 79, 3) := by decide +kernel
theorem dX7_setByte_32 : decode cX7_setByte 32 = .ok (.aload_n 0, 1) := by decide +kernel
theorem dX7_setByte_33 : decode cX7_setByte 33 = .ok (.getfield 7, 3) := by decide +kernel
theorem dX7_setByte_36 : decode cX7_setByte 36 = .ok (.iload_n 1, 1) := by decide +kernel
theorem dX7_setByte_37 : decode cX7_setByte 37 = .ok (.sipush 4095, 3) := by decide +kernel
theorem dX7_setByte_40 : decode cX7_setByte 40 = .ok (.iand, 1) := by decide +kernel
theorem dX7_setByte_41 : decode cX7_setByte 41 = .ok (.iaload, 1) := by decide +kernel
theorem dX7_setByte_42 : decode cX7_setByte 42 = .ok (.iastore, 1) := by decide +kernel
theorem dX7_setByte_43 : decode cX7_setByte 43 = .ok (.aload_n 0, 1) := by decide +kernel
theorem dX7_setByte_44 : decode cX7_setByte 44 = .ok (.dup, 1) := by decide +kernel
theorem dX7_setByte_45 : decode cX7_setByte 45 = .ok (.getfield 79, 3) := by decide +kernel
theorem dX7_setByte_48 : decode cX7_setByte 48 = .ok (.iconst 1, 1) := by decide +kernel
theorem dX7_setByte_49 : decode cX7_setByte 49 = .ok (.iadd, 1) := by decide +kernel
theorem dX7_setByte_50 : decode cX7_setByte 50 = .ok (.putfield 79, 3) := by decide +kernel
theorem dX7_setByte_53 : decode cX7_setByte 53 = .ok (.aload_n 0, 1) := by decide +kernel
theorem dX7_setByte_54 : decode cX7_setByte 54 = .ok (.getfield 7, 3) := by decide +kernel
theorem dX7_setByte_57 : decode cX7_setByte 57 = .ok (.iload_n 1, 1) := by decide +kernel
theorem dX7_setByte_58 : decode cX7_setByte 58 = .ok (.sipush 4095, 3) := by decide +kernel
theorem dX7_setByte_61 : decode cX7_setByte 61 = .ok (.iand, 1) := by decide +kernel
theorem dX7_setByte_62 : decode cX7_setByte 62 = .ok (.iload_n 2, 1) := by decide +kernel
theorem dX7_setByte_63 : decode cX7_setByte 63 = .ok (.sipush 255, 3) := by decide +kernel
theorem dX7_setByte_66 : decode cX7_setByte 66 = .ok (.iand, 1) := by decide +kernel
theorem dX7_setByte_67 : decode cX7_setByte 67 = .ok (.iastore, 1) := by decide +kernel
theorem dX7_setByte_68 : decode cX7_setByte 68 = .ok (.return_, 1) := by decide +kernel
theorem dX7_fetch_0 : decode cX7_fetch 0 = .ok (.iconst 0, 1) := by decide +kernel
theorem dX7_fetch_1 : decode cX7_fetch 1 = .ok (.istore_n 3, 1) := by decide +kernel
theorem dX7_fetch_2 : decode cX7_fetch 2 = .ok (.iconst 0, 1) := by decide +kernel
theorem dX7_fetch_3 : decode cX7_fetch 3 = .ok (.istore 4, 2) := by decide +kernel
theorem dX7_fetch_5 : decode cX7_fetch 5 = .ok (.iload 4, 2) := by decide +kernel
theorem dX7_fetch_7 : decode cX7_fetch 7 = .ok (.iload_n 2, 1) := by decide +kernel
theorem dX7_fetch_8 : decode cX7_fetch 8 = .ok (.if_icmp .ge 23, 3) := by decide +kernel
theorem dX7_fetch_11 : decode cX7_fetch 11 = .ok (.iload_n 3, 1) := by decide +kernel
theorem dX7_fetch_12 : decode cX7_fetch 12 = .ok (.bipush 8, 2) := by decide +kernel
theorem dX7_fetch_14 : decode cX7_fetch 14 = .ok (.ishl, 1) := by decide +kernel
theorem dX7_fetch_15 : decode cX7_fetch 15 = .ok (.aload_n 0, 1) := by decide +kernel
theorem dX7_fetch_16 : decode cX7_fetch 16 = .ok (.iload_n 1, 1) := by decide +kernel
theorem dX7_fetch_17 : decode cX7_fetch 17 = .ok (.iload 4, 2) := by decide +kernel
theorem dX7_fetch_19 : decode cX7_fetch 19 = .ok (.iadd, 1) := by decide +kernel
theorem dX7_fetch_20 : decode cX7_fetch 20 = .ok (.invokevirtual 82, 3) := by decide +kernel
theorem dX7_fetch_23 : decode cX7_fetch 23 = .ok (.ior, 1) := by decide +kernel
theorem dX7_fetch_24 : decode cX7_fetch 24 = .ok (.istore_n 3, 1) := by decide +kernel
theorem dX7_fetch_25 : decode cX7_fetch 25 = .ok (.iinc 4 1, 3) := by decide +kernel
theorem dX7_fetch_28 : decode cX7_fetch 28 = .ok (.goto (-23), 3) := by decide +kernel
theorem dX7_fetch_31 : decode cX7_fetch 31 = .ok (.iload_n 3, 1) := by decide +kernel
theorem dX7_fetch_32 : decode cX7_fetch 32 = .ok (.ireturn, 1) := by decide +kernel
theorem dX7_store_0 : decode cX7_store 0 = .ok (.iconst 0, 1) := by decide +kernel
theorem dX7_store_1 : decode cX7_store 1 = .ok (.istore 4, 2) := by decide +kernel
theorem dX7_store_3 : decode cX7_store 3 = .ok (.iload 4, 2) := by decide +kernel
theorem dX7_store_5 : decode cX7_store 5 = .ok (.iload_n 3, 1) := by decide +kernel
theorem dX7_store_6 : decode cX7_store 6 = .ok (.if_icmp .ge 28, 3) := by decide +kernel
theorem dX7_store_9 : decode cX7_store 9 = .ok (.aload_n 0, 1) := by decide +kernel
theorem dX7_store_10 : decode cX7_store 10 = .ok (.iload_n 1, 1) := by decide +kernel
theorem dX7_store_11 : decode cX7_store 11 = .ok (.iload 4, 2) := by decide +kernel
theorem dX7_store_13 : decode cX7_store 13 = .ok (.iadd, 1) := by decide +kernel
theorem dX7_store_14 : decode cX7_store 14 = .ok (.iload_n 2, 1) := by decide +kernel
theorem dX7_store_15 : decode cX7_store 15 = .ok (.bipush 8, 2) := by decide +kernel
theorem dX7_store_17 : decode cX7_store 17 = .ok (.iload_n 3, 1) := by decide +kernel
theorem dX7_store_18 : decode cX7_store 18 = .ok (.iconst 1, 1) := by decide +kernel
theorem dX7_store_19 : decode cX7_store 19 = .ok (.isub, 1) := by decide +kernel
theorem dX7_store_20 : decode cX7_store 20 = .ok (.iload 4, 2) := by decide +kernel
theorem dX7_store_22 : decode cX7_store 22 = .ok (.isub, 1) := by decide +kernel
theorem dX7_store_23 : decode cX7_store 23 = .ok (.imul, 1) := by decide +kernel
theorem dX7_store_24 : decode cX7_store 24 = .ok (.ishr, 1) := by decide +kernel
theorem dX7_store_25 : decode cX7_store 25 = .ok (.invokevirtual 85, 3) := by decide +kernel
theorem dX7_store_28 : decode cX7_store 28 = .ok (.iinc 4 1, 3) := by decide +kernel
theorem dX7_store_31 : decode cX7_store 31 = .ok (.goto (-28), 3) := by decide +kernel
theorem dX7_store_34 : decode cX7_store 34 = .ok (.return_, 1) := by decide +kernel
theorem dX7_isNumber_0 : decode cX7_isNumber 0 = .ok (.iload_n 0, 1) := by decide +kernel
theorem dX7_isNumber_1 : decode cX7_isNumber 1 = .ok (.iconst 1, 1) := by decide +kernel
theorem dX7_isNumber_2 : decode cX7_isNumber 2 = .ok (.if_icmp .eq 13, 3) := by decide +kernel
theorem dX7_isNumber_5 : decode cX7_isNumber 5 = .ok (.iload_n 0, 1) := by decide +kernel
theorem dX7_isNumber_6 : decode cX7_isNumber 6 = .ok (.iconst 2, 1) := by decide +kernel
theorem dX7_isNumber_7 : decode cX7_isNumber 7 = .ok (.if_icmp .eq 8, 3) := by decide +kernel
theorem dX7_isNumber_10 : decode cX7_isNumber 10 = .ok (.iload_n 0, 1) := by decide +kernel
theorem dX7_isNumber_11 : decode cX7_isNumber 11 = .ok (.iconst 4, 1) := by decide +kernel
theorem dX7_isNumber_12 : decode cX7_isNumber 12 = .ok (.if_icmp .ne 7, 3) := by decide +kernel
theorem dX7_isNumber_15 : decode cX7_isNumber 15 = .ok (.iconst 1, 1) := by decide +kernel
theorem dX7_isNumber_16 : decode cX7_isNumber 16 = .ok (.goto 4, 3) := by decide +kernel
theorem dX7_isNumber_19 : decode cX7_isNumber 19 = .ok (.iconst 0, 1) := by decide +kernel
theorem dX7_isNumber_20 : decode cX7_isNumber 20 = .ok (.ireturn, 1) := by decide +kernel
theorem dX7_write_0 : decode cX7_write 0 = .ok (.aload_n 0, 1) := by decide +kernel
theorem dX7_write_1 : decode cX7_write 1 = .ok (.iload_n 3, 1) := by decide +kernel
theorem dX7_write_2 : decode cX7_write 2 = .ok (.invokestatic 88, 3) := by decide +kernel
theorem dX7_write_5 : decode cX7_write 5 = .ok (.ifCond .eq 7, 3) := by decide +kernel
theorem dX7_write_8 : decode cX7_write 8 = .ok (.iconst 0, 1) := by decide +kernel
theorem dX7_write_9 : decode cX7_write 9 = .ok (.goto 4, 3) := by decide +kernel
theorem dX7_write_12 : decode cX7_write 12 = .ok (.iconst 1, 1) := by decide +kernel
theorem dX7_write_13 : decode cX7_write 13 = .ok (.putfield 43, 3) := by decide +kernel
theorem dX7_write_16 : decode cX7_write 16 = .ok (.aload_n 0, 1) := by decide +kernel
theorem dX7_write_17 : decode cX7_write 17 = .ok (.getfield 43, 3) := by decide +kernel
theorem dX7_write_20 : decode cX7_write 20 = .ok (.ifCond .ne 15, 3) := by decide +kernel
theorem dX7_write_23 : decode cX7_write 23 = .ok (.aload_n 0, 1) := by decide +kernel
theorem dX7_write_24 : decode cX7_write 24 = .ok (.iconst 0, 1) := by decide +kernel
theorem dX7_write_25 : decode cX7_write 25 = .ok (.putfield 79, 3) := by decide +kernel
theorem dX7_write_28 : decode cX7_write 28 = .ok (.aload_n 0, 1) := by decide +kernel
theorem dX7_write_29 : decode cX7_write 29 = .ok (.iload_n 1, 1) := by decide +kernel
theorem dX7_write_30 : decode cX7_write 30 = .ok (.iload_n 2, 1) := by decide +kernel
theorem dX7_write_31 : decode cX7_write 31 = .ok (.iload_n 3, 1) := by decide +kernel
theorem dX7_write_32 : decode cX7_write 32 = .ok (.invokevirtual 92, 3) := by decide +kernel
theorem dX7_write_35 : decode cX7_write 35 = .ok (.return_, 1) := by decide +kernel
theorem dX7_read_0 : decode cX7_read 0 = .ok (.aload_n 0, 1) := by decide +kernel
theorem dX7_read_1 : decode cX7_read 1 = .ok (.iload_n 2, 1) := by decide +kernel
theorem dX7_read_2 : decode cX7_read 2 = .ok (.invokestatic 88, 3) := by decide +kernel
theorem dX7_read_5 : decode cX7_read 5 = .ok (.ifCond .eq 7, 3) := by decide +kernel
theorem dX7_read_8 : decode cX7_read 8 = .ok (.iconst 0, 1) := by decide +kernel
theorem dX7_read_9 : decode cX7_read 9 = .ok (.goto 4, 3) := by decide +kernel
theorem dX7_read_12 : decode cX7_read 12 = .ok (.iconst 1, 1) := by decide +kernel
theorem dX7_read_13 : decode cX7_read 13 = .ok (.putfield 43, 3) := by decide +kernel
theorem dX7_read_16 : decode cX7_read 16 = .ok (.aload_n 0, 1) := by decide +kernel
theorem dX7_read_17 : decode cX7_read 17 = .ok (.getfield 43, 3) := by decide +kernel
theorem dX7_read_20 : decode cX7_read 20 = .ok (.ifCond .le 7, 3) := by decide +kernel
theorem dX7_read_23 : decode cX7_read 23 = .ok (.iconst 0, 1) := by decide +kernel
theorem dX7_read_24 : decode cX7_read 24 = .ok (.goto 9, 3) := by decide +kernel
theorem dX7_read_27 : decode cX7_read 27 = .ok (.aload_n 0, 1) := by decide +kernel
theorem dX7_read_28 : decode cX7_read 28 = .ok (.iload_n 1, 1) := by decide +kernel
theorem dX7_read_29 : decode cX7_read 29 = .ok (.iload_n 2, 1) := by decide +kernel
theorem dX7_read_30 : decode cX7_read 30 = .ok (.invokevirtual 96, 3) := by decide +kernel
theorem dX7_read_33 : decode cX7_read 33 = .ok (.ireturn, 1) := by decide +kernel
theorem dX7_sum_0 : decode cX7_sum 0 = .ok (.aload_n 0, 1) := by decide +kernel
theorem dX7_sum_1 : decode cX7_sum 1 = .ok (.iconst 0, 1) := by decide +kernel
theorem dX7_sum_2 : decode cX7_sum 2 = .ok (.putfield 43, 3) := by decide +kernel
theorem dX7_sum_5 : decode cX7_sum 5 = .ok (.iconst 0, 1) := by decide +kernel
theorem dX7_sum_6 : decode cX7_sum 6 = .ok (.istore_n 1, 1) := by decide +kernel
theorem dX7_sum_7 : decode cX7_sum 7 = .ok (.iconst 0, 1) := by decide +kernel
theorem dX7_sum_8 : decode cX7_sum 8 = .ok (.istore_n 2, 1) := by decide +kernel
theorem dX7_sum_9 : decode cX7_sum 9 = .ok (.iload_n 2, 1) := by decide +kernel
theorem dX7_sum_10 : decode cX7_sum 10 = .ok (.sipush 4096, 3) := by decide +kernel
theorem dX7_sum_13 : decode cX7_sum 13 = .ok (.if_icmp .ge 22, 3) := by decide +kernel
theorem dX7_sum_16 : decode cX7_sum 16 = .ok (.iload_n 1, 1) := by decide +kernel
theorem dX7_sum_17 : decode cX7_sum 17 = .ok (.aload_n 0, 1) := by decide +kernel
theorem dX7_sum_18 : decode cX7_sum 18 = .ok (.getfield 7, 3) := by decide +kernel
theorem dX7_sum_21 : decode cX7_sum 21 = .ok (.iload_n 2, 1) := by decide +kernel
theorem dX7_sum_22 : decode cX7_sum 22 = .ok (.iaload, 1) := by decide +kernel
theorem dX7_sum_23 : decode cX7_sum 23 = .ok (.iload_n 2, 1) := by decide +kernel
theorem dX7_sum_24 : decode cX7_sum 24 = .ok (.iconst 1, 1) := by decide +kernel
theorem dX7_sum_25 : decode cX7_sum 25 = .ok (.iadd, 1) := by decide +kernel
theorem dX7_sum_26 : decode cX7_sum 26 = .ok (.imul, 1) := by decide +kernel
theorem dX7_sum_27 : decode cX7_sum 27 = .ok (.iadd, 1) := by decide +kernel
theorem dX7_sum_28 : decode cX7_sum 28 = .ok (.istore_n 1, 1) := by decide +kernel
theorem dX7_sum_29 : decode cX7_sum 29 = .ok (.iinc 2 1, 3) := by decide +kernel
theorem dX7_sum_32 : decode cX7_sum 32 = .ok (.goto (-23), 3) := by decide +kernel
theorem dX7_sum_35 : decode cX7_sum 35 = .ok (.iload_n 1, 1) := by decide +kernel
theorem dX7_sum_36 : decode cX7_sum 36 = .ok (.ireturn, 1) := by decide +kernel
theorem dX7_fault_0 : decode cX7_fault 0 = .ok (.aload_n 0, 1) := by decide +kernel
theorem dX7_fault_1 : decode cX7_fault 1 = .ok (.getfield 100, 3) := by decide +kernel
theorem dX7_fault_4 : decode cX7_fault 4 = .ok (.ifCond .ne 13, 3) := by decide +kernel
theorem dX7_fault_7 : decode cX7_fault 7 = .ok (.aload_n 0, 1) := by decide +kernel
theorem dX7_fault_8 : decode cX7_fault 8 = .ok (.iload_n 1, 1) := by decide +kernel
theorem dX7_fault_9 : decode cX7_fault 9 = .ok (.putfield 100, 3) := by decide +kernel
theorem dX7_fault_12 : decode cX7_fault 12 = .ok (.aload_n 0, 1) := by decide +kernel
theorem dX7_fault_13 : decode cX7_fault 13 = .ok (.iload_n 2, 1) := by decide +kernel
theorem dX7_fault_14 : decode cX7_fault 14 = .ok (.putfield 103, 3) := by decide +kernel
theorem dX7_fault_17 : decode cX7_fault 17 = .ok (.return_, 1) := by decide +kernel
theorem dX7_isOdd_0 : decode cX7_isOdd 0 = .ok (.aload_n 0, 1) := by decide +kernel
theorem dX7_isOdd_1 : decode cX7_isOdd 1 = .ok (.getfield 100, 3) := by decide +kernel
theorem dX7_isOdd_4 : decode cX7_isOdd 4 = .ok (.ifCond .ne 21, 3) := by decide +kernel
theorem dX7_isOdd_7 : decode cX7_isOdd 7 = .ok (.iload_n 2, 1) := by decide +kernel
theorem dX7_isOdd_8 : decode cX7_isOdd 8 = .ok (.iconst 1, 1) := by decide +kernel
theorem dX7_isOdd_9 : decode cX7_isOdd 9 = .ok (.if_icmp .le 16, 3) := by decide +kernel
theorem dX7_isOdd_12 : decode cX7_isOdd 12 = .ok (.iload_n 1, 1) := by decide +kernel
theorem dX7_isOdd_13 : decode cX7_isOdd 13 = .ok (.iconst 1, 1) := by decide +kernel
theorem dX7_isOdd_14 : decode cX7_isOdd 14 = .ok (.iand, 1) := by decide +kernel
theorem dX7_isOdd_15 : decode cX7_isOdd 15 = .ok (.iconst 1, 1) := by decide +kernel
theorem dX7_isOdd_16 : decode cX7_isOdd 16 = .ok (.if_icmp .ne 9, 3) := by decide +kernel
theorem dX7_isOdd_19 : decode cX7_isOdd 19 = .ok (.aload_n 0, 1) := by decide +kernel
theorem dX7_isOdd_20 : decode cX7_isOdd 20 = .ok (.iconst 3, 1) := by decide +kernel
theorem dX7_isOdd_21 : decode cX7_isOdd 21 = .ok (.iload_n 1, 1) := by decide +kernel
theorem dX7_isOdd_22 : decode cX7_isOdd 22 = .ok (.invokevirtual 106, 3) := by decide +kernel
theorem dX7_isOdd_25 : decode cX7_isOdd 25 = .ok (.aload_n 0, 1) := by decide +kernel
theorem dX7_isOdd_26 : decode cX7_isOdd 26 = .ok (.getfield 100, 3) := by decide +kernel
theorem dX7_isOdd_29 : decode cX7_isOdd 29 = .ok (.ifCond .le 7, 3) := by decide +kernel
theorem dX7_isOdd_32 : decode cX7_isOdd 32 = .ok (.iconst 1, 1) := by decide +kernel
theorem dX7_isOdd_33 : decode cX7_isOdd 33 = .ok (.goto 4, 3) := by decide +kernel
theorem dX7_isOdd_36 : decode cX7_isOdd 36 = .ok (.iconst 0, 1) := by decide +kernel
theorem dX7_isOdd_37 : decode cX7_isOdd 37 = .ok (.ireturn, 1) := by decide +kernel
theorem dX7_get_0 : decode cX7_get 0 = .ok (.aload_n 0, 1) := by decide +kernel
theorem dX7_get_1 : decode cX7_get 1 = .ok (.iload_n 1, 1) := by decide +kernel
theorem dX7_get_2 : decode cX7_get 2 = .ok (.iload_n 2, 1) := by decide +kernel
theorem dX7_get_3 : decode cX7_get 3 = .ok (.invokevirtual 109, 3) := by decide +kernel
theorem dX7_get_6 : decode cX7_get 6 = .ok (.ifCond .eq 7, 3) := by decide +kernel
theorem dX7_get_9 : decode cX7_get 9 = .ok (.iconst 0, 1) := by decide +kernel
theorem dX7_get_10 : decode cX7_get 10 = .ok (.goto 9, 3) := by decide +kernel
theorem dX7_get_13 : decode cX7_get 13 = .ok (.aload_n 0, 1) := by decide +kernel
theorem dX7_get_14 : decode cX7_get 14 = .ok (.iload_n 1, 1) := by decide +kernel
theorem dX7_get_15 : decode cX7_get 15 = .ok (.iload_n 2, 1) := by decide +kernel
theorem dX7_get_16 : decode cX7_get 16 = .ok (.invokevirtual 96, 3) := by decide +kernel
theorem dX7_get_19 : decode cX7_get 19 = .ok (.ireturn, 1) := by decide +kernel
theorem dX7_set_0 : decode cX7_set 0 = .ok (.aload_n 0, 1) := by decide +kernel
theorem dX7_set_1 : decode cX7_set 1 = .ok (.iload_n 1, 1) := by decide +kernel
theorem dX7_set_2 : decode cX7_set 2 = .ok (.iload_n 3, 1) := by decide +kernel
theorem dX7_set_3 : decode cX7_set 3 = .ok (.invokevirtual 109, 3) := by decide +kernel
theorem dX7_set_6 : decode cX7_set 6 = .ok (.ifCond .ne 10, 3) := by decide +kernel
theorem dX7_set_9 : decode cX7_set 9 = .ok (.aload_n 0, 1) := by decide +kernel
theorem dX7_set_10 : decode cX7_set 10 = .ok (.iload_n 1, 1) := by decide +kernel
theorem dX7_set_11 : decode cX7_set 11 = .ok (.iload_n 2, 1) := by decide +kernel
theorem dX7_set_12 : decode cX7_set 12 = .ok (.iload_n 3, 1) := by decide +kernel
theorem dX7_set_13 : decode cX7_set 13 = .ok (.invokevirtual 92, 3) := by decide +kernel
theorem dX7_set_16 : decode cX7_set 16 = .ok (.return_, 1) := by decide +kernel
theorem dX7_push_0 : decode cX7_push 0 = .ok (.aload_n 0, 1) := by decide +kernel
theorem dX7_push_1 : decode cX7_push 1 = .ok (.bipush 7, 2) := by decide +kernel
theorem dX7_push_3 : decode cX7_push 3 = .ok (.aload_n 0, 1) := by decide +kernel
theorem dX7_push_4 : decode cX7_push 4 = .ok (.bipush 7, 2) := by decide +kernel
theorem dX7_push_6 : decode cX7_push 6 = .ok (.invokevirtual 70, 3) := by decide +kernel
theorem dX7_push_9 : decode cX7_push 9 = .ok (.iload_n 2, 1) := by decide +kernel
theorem dX7_push_10 : decode cX7_push 10 = .ok (.isub, 1) := by decide +kernel
theorem dX7_push_11 : decode cX7_push 11 = .ok (.invokevirtual 74, 3) := by decide +kernel
theorem dX7_push_14 : decode cX7_push 14 = .ok (.aload_n 0, 1) := by decide +kernel
