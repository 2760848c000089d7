theorem dX7_checkOrAddress_102 : decode cX7_checkOrAddress 102 = .ok (.aload_n 0, 1) := by decide +kernel
theorem dX7_checkOrAddress_103 : decode cX7_checkOrAddress 103 = .ok (.getfield 100, 3) := by decide +kernel
theorem dX7_checkOrAddress_106 : decode cX7_checkOrAddress 106 = .ok (.ifCond .ne 36, 3) := by decide +kernel
theorem dX7_checkOrAddress_109 : decode cX7_checkOrAddress 109 = .ok (.iload 4, 2) := by decide +kernel
theorem dX7_checkOrAddress_111 : decode cX7_checkOrAddress 111 = .ok (.ifCond .lt 9, 3) := by decide +kernel
theorem dX7_checkOrAddress_114 : decode cX7_checkOrAddress 114 = .ok (.iload 4, 2) := by decide +kernel
theorem dX7_checkOrAddress_116 : decode cX7_checkOrAddress 116 = .ok (.iload_n 3, 1) := by decide +kernel
theorem dX7_checkOrAddress_117 : decode cX7_checkOrAddress 117 = .ok (.if_icmp .le 25, 3) := by decide +kernel
theorem dX7_checkOrAddress_120 : decode cX7_checkOrAddress 120 = .ok (.aload_n 0, 1) := by decide +kernel
theorem dX7_checkOrAddress_121 : decode cX7_checkOrAddress 121 = .ok (.bipush 8, 2) := by decide +kernel
theorem dX7_checkOrAddress_123 : decode cX7_checkOrAddress 123 = .ok (.iload 4, 2) := by decide +kernel
theorem dX7_checkOrAddress_125 : decode cX7_checkOrAddress 125 = .ok (.ifCond .ge 7, 3) := by decide +kernel
theorem dX7_checkOrAddress_128 : decode cX7_checkOrAddress 128 = .ok (.iconst 1, 1) := by decide +kernel
theorem dX7_checkOrAddress_129 : decode cX7_checkOrAddress 129 = .ok (.goto 4, 3) := by decide +kernel
theorem dX7_checkOrAddress_132 : decode cX7_checkOrAddress 132 = .ok (.iconst 0, 1) := by decide +kernel
theorem dX7_checkOrAddress_133 : decode cX7_checkOrAddress 133 = .ok (.invokevirtual 160, 3) := by decide +kernel
theorem dX7_checkOrAddress_136 : decode cX7_checkOrAddress 136 = .ok (.aload_n 0, 1) := by decide +kernel
theorem dX7_checkOrAddress_137 : decode cX7_checkOrAddress 137 = .ok (.bipush 6, 2) := by decide +kernel
theorem dX7_checkOrAddress_139 : decode cX7_checkOrAddress 139 = .ok (.putfield 245, 3) := by decide +kernel
theorem dX7_checkOrAddress_142 : decode cX7_checkOrAddress 142 = .ok (.iconst 1, 1) := by decide +kernel
theorem dX7_checkOrAddress_143 : decode cX7_checkOrAddress 143 = .ok (.ireturn, 1) := by decide +kernel
theorem dX7_group4_0 : decode cX7_group4 0 = .ok (.aload_n 0, 1) := by decide +kernel
theorem dX7_group4_1 : decode cX7_group4 1 = .ok (.getfield 174, 3) := by decide +kernel
theorem dX7_group4_4 : decode cX7_group4 4 = .ok (.sipush 256, 3) := by decide +kernel
theorem dX7_group4_7 : decode cX7_group4 7 = .ok (.iand, 1) := by decide +kernel
theorem dX7_group4_8 : decode cX7_group4 8 = .ok (.ifCond .eq 8, 3) := by decide +kernel
theorem dX7_group4_11 : decode cX7_group4 11 = .ok (.aload_n 0, 1) := by decide +kernel
theorem dX7_group4_12 : decode cX7_group4 12 = .ok (.invokevirtual 254, 3) := by decide +kernel
theorem dX7_group4_15 : decode cX7_group4 15 = .ok (.ireturn, 1) := by decide +kernel
theorem dX7_group4_16 : decode cX7_group4 16 = .ok (.aload_n 0, 1) := by decide +kernel
theorem dX7_group4_17 : decode cX7_group4 17 = .ok (.getfield 174, 3) := by decide +kernel
theorem dX7_group4_20 : decode cX7_group4 20 = .ok (.bipush 8, 2) := by decide +kernel
theorem dX7_group4_22 : decode cX7_group4 22 = .ok (.ishr, 1) := by decide +kernel
theorem dX7_group4_23 : decode cX7_group4 23 = .ok (.bipush 15, 2) := by decide +kernel
theorem dX7_group4_25 : decode cX7_group4 25 = .ok (.iand, 1) := by decide +kernel
theorem dX7_group4_26 : decode cX7_group4 26 = .ok (.istore_n 1, 1) := by decide +kernel
theorem dX7_group4_27 : decode cX7_group4 27 = .ok (.aload_n 0, 1) := by decide +kernel
theorem dX7_group4_28 : decode cX7_group4 28 = .ok (.getfield 174, 3) := by decide +kernel
theorem dX7_group4_31 : decode cX7_group4 31 = .ok (.bipush 6, 2) := by decide +kernel
theorem dX7_group4_33 : decode cX7_group4 33 = .ok (.ishr, 1) := by decide +kernel
theorem dX7_group4_34 : decode cX7_group4 34 = .ok (.iconst 3, 1) := by decide +kernel
theorem dX7_group4_35 : decode cX7_group4 35 = .ok (.iand, 1) := by decide +kernel
theorem dX7_group4_36 : decode cX7_group4 36 = .ok (.iconst 3, 1) := by decide +kernel
theorem dX7_group4_37 : decode cX7_group4 37 = .ok (.if_icmp .ne 7, 3) := by decide +kernel
theorem dX7_group4_40 : decode cX7_group4 40 = .ok (.iconst 1, 1) := by decide +kernel
theorem dX7_group4_41 : decode cX7_group4 41 = .ok (.goto 4, 3) := by decide +kernel
theorem dX7_group4_44 : decode cX7_group4 44 = .ok (.iconst 0, 1) := by decide +kernel
theorem dX7_group4_45 : decode cX7_group4 45 = .ok (.istore_n 2, 1) := by decide +kernel
theorem dX7_group4_46 : decode cX7_group4 46 = .ok (.iload_n 1, 1) := by decide +kernel
theorem dX7_group4_47 : decode cX7_group4 47 = .ok (.bipush 8, 2) := by decide +kernel
theorem dX7_group4_49 : decode cX7_group4 49 = .ok (.if_icmp .ge 21, 3) := by decide +kernel
theorem dX7_group4_52 : decode cX7_group4 52 = .ok (.iload_n 2, 1) := by decide +kernel
theorem dX7_group4_53 : decode cX7_group4 53 = .ok (.ifCond .eq 11, 3) := by decide +kernel
theorem dX7_group4_56 : decode cX7_group4 56 = .ok (.aload_n 0, 1) := by decide +kernel
theorem dX7_group4_57 : decode cX7_group4 57 = .ok (.iload_n 1, 1) := by decide +kernel
theorem dX7_group4_58 : decode cX7_group4 58 = .ok (.invokevirtual 257, 3) := by decide +kernel
theorem dX7_group4_61 : decode cX7_group4 61 = .ok (.goto 8, 3) := by decide +kernel
theorem dX7_group4_64 : decode cX7_group4 64 = .ok (.aload_n 0, 1) := by decide +kernel
theorem dX7_group4_65 : decode cX7_group4 65 = .ok (.iload_n 1, 1) := by decide +kernel
theorem dX7_group4_66 : decode cX7_group4 66 = .ok (.invokevirtual 260, 3) := by decide +kernel
theorem dX7_group4_69 : decode cX7_group4 69 = .ok (.ireturn, 1) := by decide +kernel
theorem dX7_group4_70 : decode cX7_group4 70 = .ok (.iload_n 1, 1) := by decide +kernel
theorem dX7_group4_71 : decode cX7_group4 71 = .ok (.bipush 8, 2) := by decide +kernel
theorem dX7_group4_73 : decode cX7_group4 73 = .ok (.if_icmp .ne 8, 3) := by decide +kernel
theorem dX7_group4_76 : decode cX7_group4 76 = .ok (.aload_n 0, 1) := by decide +kernel
theorem dX7_group4_77 : decode cX7_group4 77 = .ok (.invokevirtual 263, 3) := by decide +kernel
theorem dX7_group4_80 : decode cX7_group4 80 = .ok (.ireturn, 1) := by decide +kernel
theorem dX7_group4_81 : decode cX7_group4 81 = .ok (.iload_n 1, 1) := by decide +kernel
theorem dX7_group4_82 : decode cX7_group4 82 = .ok (.bipush 10, 2) := by decide +kernel
theorem dX7_group4_84 : decode cX7_group4 84 = .ok (.if_icmp .ne 60, 3) := by decide +kernel
theorem dX7_group4_87 : decode cX7_group4 87 = .ok (.iload_n 2, 1) := by decide +kernel
theorem dX7_group4_88 : decode cX7_group4 88 = .ok (.ifCond .eq 56, 3) := by decide +kernel
theorem dX7_group4_91 : decode cX7_group4 91 = .ok (.aload_n 0, 1) := by decide +kernel
theorem dX7_group4_92 : decode cX7_group4 92 = .ok (.getfield 174, 3) := by decide +kernel
theorem dX7_group4_95 : decode cX7_group4 95 = .ok (.bipush 63, 2) := by decide +kernel
theorem dX7_group4_97 : decode cX7_group4 97 = .ok (.iand, 1) := by decide +kernel
theorem dX7_group4_98 : decode cX7_group4 98 = .ok (.iconst 4, 1) := by decide +kernel
theorem dX7_group4_99 : decode cX7_group4 99 = .ok (.iconst 1, 1) := by decide +kernel
theorem dX7_group4_100 : decode cX7_group4 100 = .ok (.invokestatic 188, 3) := by decide +kernel
theorem dX7_group4_103 : decode cX7_group4 103 = .ok (.ifCond .ne 5, 3) := by decide +kernel
theorem dX7_group4_106 : decode cX7_group4 106 = .ok (.iconst 0, 1) := by decide +kernel
theorem dX7_group4_107 : decode cX7_group4 107 = .ok (.ireturn, 1) := by decide +kernel
theorem dX7_group4_108 : decode cX7_group4 108 = .ok (.aload_n 0, 1) := by decide +kernel
theorem dX7_group4_109 : decode cX7_group4 109 = .ok (.aload_n 0, 1) := by decide +kernel
theorem dX7_group4_110 : decode cX7_group4 110 = .ok (.getfield 174, 3) := by decide +kernel
theorem dX7_group4_113 : decode cX7_group4 113 = .ok (.bipush 63, 2) := by decide +kernel
theorem dX7_group4_115 : decode cX7_group4 115 = .ok (.iand, 1) := by decide +kernel
theorem dX7_group4_116 : decode cX7_group4 116 = .ok (.iconst 1, 1) := by decide +kernel
theorem dX7_group4_117 : decode cX7_group4 117 = .ok (.invokevirtual 192, 3) := by decide +kernel
theorem dX7_group4_120 : decode cX7_group4 120 = .ok (.aload_n 0, 1) := by decide +kernel
theorem dX7_group4_121 : decode cX7_group4 121 = .ok (.iconst 1, 1) := by decide +kernel
theorem dX7_group4_122 : decode cX7_group4 122 = .ok (.invokevirtual 195, 3) := by decide +kernel
theorem dX7_group4_125 : decode cX7_group4 125 = .ok (.istore_n 3, 1) := by decide +kernel
theorem dX7_group4_126 : decode cX7_group4 126 = .ok (.aload_n 0, 1) := by decide +kernel
theorem dX7_group4_127 : decode cX7_group4 127 = .ok (.iload_n 3, 1) := by decide +kernel
theorem dX7_group4_128 : decode cX7_group4 128 = .ok (.iconst 1, 1) := by decide +kernel
theorem dX7_group4_129 : decode cX7_group4 129 = .ok (.invokevirtual 214, 3) := by decide +kernel
theorem dX7_group4_132 : decode cX7_group4 132 = .ok (.aload_n 0, 1) := by decide +kernel
theorem dX7_group4_133 : decode cX7_group4 133 = .ok (.iload_n 3, 1) := by decide +kernel
theorem dX7_group4_134 : decode cX7_group4 134 = .ok (.sipush 128, 3) := by decide +kernel
theorem dX7_group4_137 : decode cX7_group4 137 = .ok (.ior, 1) := by decide +kernel
theorem dX7_group4_138 : decode cX7_group4 138 = .ok (.iconst 1, 1) := by decide +kernel
theorem dX7_group4_139 : decode cX7_group4 139 = .ok (.invokevirtual 198, 3) := by decide +kernel
theorem dX7_group4_142 : decode cX7_group4 142 = .ok (.iconst 1, 1) := by decide +kernel
theorem dX7_group4_143 : decode cX7_group4 143 = .ok (.ireturn, 1) := by decide +kernel
theorem dX7_group4_144 : decode cX7_group4 144 = .ok (.iload_n 1, 1) := by decide +kernel
theorem dX7_group4_145 : decode cX7_group4 145 = .ok (.bipush 10, 2) := by decide +kernel
theorem dX7_group4_147 : decode cX7_group4 147 = .ok (.if_icmp .ne 10, 3) := by decide +kernel
theorem dX7_group4_150 : decode cX7_group4 150 = .ok (.aload_n 0, 1) := by decide +kernel
theorem dX7_group4_151 : decode cX7_group4 151 = .ok (.bipush 10, 2) := by decide +kernel
theorem dX7_group4_153 : decode cX7_group4 153 = .ok (.invokevirtual 260, 3) := by decide +kernel
theorem dX7_group4_156 : decode cX7_group4 156 = .ok (.ireturn, 1) := by decide +kernel
theorem dX7_group4_157 : decode cX7_group4 157 = .ok (.iload_n 1, 1) := by decide +kernel
theorem dX7_group4_158 : decode cX7_group4 158 = .ok (.bipush 12, 2) := by decide +kernel
theorem dX7_group4_160 : decode cX7_group4 160 = .ok (.if_icmp .ne 28, 3) := by decide +kernel
theorem dX7_group4_163 : decode cX7_group4 163 = .ok (.aload_n 0, 1) := by decide +kernel
theorem dX7_group4_164 : decode cX7_group4 164 = .ok (.getfield 174, 3) := by decide +kernel
theorem dX7_group4_167 : decode cX7_group4 167 = .ok (.sipush 128, 3) := by decide +kernel
theorem dX7_group4_170 : decode cX7_group4 170 = .ok (.iand, 1) := by decide +kernel
theorem dX7_group4_171 : decode cX7_group4 171 = .ok (.ifCond .eq 15, 3) := by decide +kernel
theorem dX7_group4_174 : decode cX7_group4 174 = .ok (.aload_n 0, 1) := by decide +kernel
theorem dX7_group4_175 : decode cX7_group4 175 = .ok (.iconst 0, 1) := by decide +kernel
theorem dX7_group4_176 : decode cX7_group4 176 = .ok (.invokevirtual 226, 3) := by decide +kernel
theorem dX7_group4_179 : decode cX7_group4 179 = .ok (.ifCond .eq 7, 3) := by decide +kernel
theorem dX7_group4_182 : decode cX7_group4 182 = .ok (.iconst 1, 1) := by decide +kernel
theorem dX7_group4_183 : decode cX7_group4 183 = .ok (.goto 4, 3) := by decide +kernel
theorem dX7_group4_186 : decode cX7_group4 186 = .ok (.iconst 0, 1) := by decide +kernel
theorem dX7_group4_187 : decode cX7_group4 187 = .ok (.ireturn, 1) := by decide +kernel
theorem dX7_group4_188 : decode cX7_group4 188 = .ok (.aload_n 0, 1) := by decide +kernel
theorem dX7_group4_189 : decode cX7_group4 189 = .ok (.invokevirtual 266, 3) := by decide +kernel
theorem dX7_group4_192 : decode cX7_group4 192 = .ok (.ireturn, 1) := by decide +kernel
theorem dX7_group5_0 : decode cX7_group5 0 = .ok (.aload_n 0, 1) := by decide +kernel
theorem dX7_group5_1 : decode cX7_group5 1 = .ok (.getfield 174, 3) := by decide +kernel
theorem dX7_group5_4 : decode cX7_group5 4 = .ok (.bipush 6, 2) := by decide +kernel
theorem dX7_group5_6 : decode cX7_group5 6 = .ok (.ishr, 1) := by decide +kernel
theorem dX7_group5_7 : decode cX7_group5 7 = .ok (.iconst 3, 1) := by decide +kernel
theorem dX7_group5_8 : decode cX7_group5 8 = .ok (.iand, 1) := by decide +kernel
theorem dX7_group5_9 : decode cX7_group5 9 = .ok (.istore_n 1, 1) := by decide +kernel
theorem dX7_group5_10 : decode cX7_group5 10 = .ok (.aload_n 0, 1) := by decide +kernel
theorem dX7_group5_11 : decode cX7_group5 11 = .ok (.getfield 174, 3) := by decide +kernel
theorem dX7_group5_14 : decode cX7_group5 14 = .ok (.bipush 8, 2) := by decide +kernel
theorem dX7_group5_16 : decode cX7_group5 16 = .ok (.ishr, 1) := by decide +kernel
theorem dX7_group5_17 : decode cX7_group5 17 = .ok (.bipush 15, 2) := by decide +kernel
theorem dX7_group5_19 : decode cX7_group5 19 = .ok (.iand, 1) := by decide +kernel
theorem dX7_group5_20 : decode cX7_group5 20 = .ok (.istore_n 2, 1) := by decide +kernel
theorem dX7_group5_21 : decode cX7_group5 21 = .ok (.aload_n 0, 1) := by decide +kernel
theorem dX7_group5_22 : decode cX7_group5 22 = .ok (.getfield 174, 3) := by decide +kernel
theorem dX7_group5_25 : decode cX7_group5 25 = .ok (.bipush 63, 2) := by decide +kernel
theorem dX7_group5_27 : decode cX7_group5 27 = .ok (.iand, 1) := by decide +kernel
theorem dX7_group5_28 : decode cX7_group5 28 = .ok (.istore_n 3, 1) := by decide +kernel
theorem dX7_group5_29 : decode cX7_group5 29 = .ok (.iload_n 1, 1) := by decide +kernel
theorem dX7_group5_30 : decode cX7_group5 30 = .ok (.iconst 3, 1) := by decide +kernel
theorem dX7_group5_31 : decode cX7_group5 31 = .ok (.if_icmp .ne 102, 3) := by decide +kernel
theorem dX7_group5_34 : decode cX7_group5 34 = .ok (.iload_n 3, 1) := by decide +kernel
theorem dX7_group5_35 : decode cX7_group5 35 = .ok (.iconst 3, 1) := by decide +kernel
theorem dX7_group5_36 : decode cX7_group5 36 = .ok (.ishr, 1) := by decide +kernel
theorem dX7_group5_37 : decode cX7_group5 37 = .ok (.iconst 1, 1) := by decide +kernel
theorem dX7_group5_38 : decode cX7_group5 38 = .ok (.if_icmp .ne 95, 3) := by decide +kernel
theorem dX7_group5_41 : decode cX7_group5 41 = .ok (.aload_n 0, 1) := by decide +kernel
theorem dX7_group5_42 : decode cX7_group5 42 = .ok (.getfield 47, 3) := by decide +kernel
theorem dX7_group5_45 : decode cX7_group5 45 = .ok (.istore 4, 2) := by decide +kernel
theorem dX7_group5_47 : decode cX7_group5 47 = .ok (.iload 4, 2) := by decide +kernel
theorem dX7_group5_49 : decode cX7_group5 49 = .ok (.aload_n 0, 1) := by decide +kernel
theorem dX7_group5_50 : decode cX7_group5 50 = .ok (.invokevirtual 125, 3) := by decide +kernel
theorem dX7_group5_53 : decode cX7_group5 53 = .ok (.i2s, 1) := by decide +kernel
theorem dX7_group5_54 : decode cX7_group5 54 = .ok (.iadd, 1) := by decide +kernel
theorem dX7_group5_55 : decode cX7_group5 55 = .ok (.istore 5, 2) := by decide +kernel
theorem dX7_group5_57 : decode cX7_group5 57 = .ok (.aload_n 0, 1) := by decide +kernel
theorem dX7_group5_58 : decode cX7_group5 58 = .ok (.iload_n 2, 1) := by decide +kernel
theorem dX7_group5_59 : decode cX7_group5 59 = .ok (.invokevirtual 269, 3) := by decide +kernel
theorem dX7_group5_62 : decode cX7_group5 62 = .ok (.ifCond .ne 69, 3) := by decide +kernel
theorem dX7_group5_65 : decode cX7_group5 65 = .ok (.aload_n 0, 1) := by decide +kernel
theorem dX7_group5_66 : decode cX7_group5 66 = .ok (.getfield 13, 3) := by decide +kernel
theorem dX7_group5_69 : decode cX7_group5 69 = .ok (.aload_n 0, 1) := by decide +kernel
theorem dX7_group5_70 : decode cX7_group5 70 = .ok (.getfield 174, 3) := by decide +kernel
theorem dX7_group5_73 : decode cX7_group5 73 = .ok (.bipush 7, 2) := by decide +kernel
theorem dX7_group5_75 : decode cX7_group5 75 = .ok (.iand, 1) := by decide +kernel
theorem dX7_group5_76 : decode cX7_group5 76 = .ok (.iaload, 1) := by decide +kernel
theorem dX7_group5_77 : decode cX7_group5 77 = .ok (.iconst 1, 1) := by decide +kernel
theorem dX7_group5_78 : decode cX7_group5 78 = .ok (.isub, 1) := by decide +kernel
theorem dX7_group5_79 : decode cX7_group5 79 = .ok (.istore 6, 2) := by decide +kernel
theorem dX7_group5_81 : decode cX7_group5 81 = .ok (.aload_n 0, 1) := by decide +kernel
theorem dX7_group5_82 : decode cX7_group5 82 = .ok (.getfield 13, 3) := by decide +kernel
theorem dX7_group5_85 : decode cX7_group5 85 = .ok (.aload_n 0, 1) := by decide +kernel
theorem dX7_group5_86 : decode cX7_group5 86 = .ok (.getfield 174, 3) := by decide +kernel
theorem dX7_group5_89 : decode cX7_group5 89 = .ok (.bipush 7, 2) := by decide +kernel
theorem dX7_group5_91 : decode cX7_group5 91 = .ok (.iand, 1) := by decide +kernel
theorem dX7_group5_92 : decode cX7_group5 92 = .ok (.aload_n 0, 1) := by decide +kernel
theorem dX7_group5_93 : decode cX7_group5 93 = .ok (.getfield 13, 3) := by decide +kernel
theorem dX7_group5_96 : decode cX7_group5 96 = .ok (.aload_n 0, 1) := by decide +kernel
theorem dX7_group5_97 : decode cX7_group5 97 = .ok (.getfield 174, 3) := by decide +kernel
theorem dX7_group5_100 : decode cX7_group5 100 = .ok (.bipush 7, 2) := by decide +kernel
theorem dX7_group5_102 : decode cX7_group5 102 = .ok (.iand, 1) := by decide +kernel
theorem dX7_group5_103 : decode cX7_group5 103 = .ok (.iaload, 1) := by decide +kernel
theorem dX7_group5_104 : decode cX7_group5 104 = .ok (.iload 6, 2) := by decide +kernel
theorem dX7_group5_106 : decode cX7_group5 106 = .ok (.iconst 2, 1) := by decide +kernel
theorem dX7_group5_107 : decode cX7_group5 107 = .ok (.invokestatic 150, 3) := by decide +kernel
theorem dX7_group5_110 : decode cX7_group5 110 = .ok (.iastore, 1) := by decide +kernel
theorem dX7_group5_111 : decode cX7_group5 111 = .ok (.aload_n 0, 1) := by decide +kernel
theorem dX7_group5_112 : decode cX7_group5 112 = .ok (.iload 6, 2) := by decide +kernel
theorem dX7_group5_114 : decode cX7_group5 114 = .ok (.i2s, 1) := by decide +kernel
theorem dX7_group5_115 : decode cX7_group5 115 = .ok (.iconst (-1), 1) := by decide +kernel
theorem dX7_group5_116 : decode cX7_group5 116 = .ok (.if_icmp .ne 10, 3) := by decide +kernel
theorem dX7_group5_119 : decode cX7_group5 119 = .ok (.aload_n 0, 1) := by decide +kernel
theorem dX7_group5_120 : decode cX7_group5 120 = .ok (.getfield 47, 3) := by decide +kernel
theorem dX7_group5_123 : decode cX7_group5 123 = .ok (.goto 5, 3) := by decide +kernel
theorem dX7_group5_126 : decode cX7_group5 126 = .ok (.iload 5, 2) := by decide +kernel
theorem dX7_group5_128 : decode cX7_group5 128 = .ok (.putfield 47, 3) := by decide +kernel
theorem dX7_group5_131 : decode cX7_group5 131 = .ok (.iconst 1, 1) := by decide +kernel
theorem dX7_group5_132 : decode cX7_group5 132 = .ok (.ireturn, 1) := by decide +kernel
theorem dX7_group5_133 : decode cX7_group5 133 = .ok (.iload_n 1, 1) := by decide +kernel
theorem dX7_group5_134 : decode cX7_group5 134 = .ok (.iconst 3, 1) := by decide +kernel
theorem dX7_group5_135 : decode cX7_group5 135 = .ok (.if_icmp .ne 42, 3) := by decide +kernel
theorem dX7_group5_138 : decode cX7_group5 138 = .ok (.iload_n 3, 1) := by decide +kernel
theorem dX7_group5_139 : decode cX7_group5 139 = .ok (.iconst 4, 1) := by decide +kernel
theorem dX7_group5_140 : decode cX7_group5 140 = .ok (.iconst 1, 1) := by decide +kernel
theorem dX7_group5_141 : decode cX7_group5 141 = .ok (.invokestatic 188, 3) := by decide +kernel
theorem dX7_group5_144 : decode cX7_group5 144 = .ok (.ifCond .ne 5, 3) := by decide +kernel
theorem dX7_group5_147 : decode cX7_group5 147 = .ok (.iconst 0, 1) := by decide +kernel
theorem dX7_group5_148 : decode cX7_group5 148 = .ok (.ireturn, 1) := by decide +kernel
theorem dX7_group5_149 : decode cX7_group5 149 = .ok (.aload_n 0, 1) := by decide +kernel
theorem dX7_group5_150 : decode cX7_group5 150 = .ok (.iload_n 3, 1) := by decide +kernel
theorem dX7_group5_151 : decode cX7_group5 151 = .ok (.iconst 1, 1) := by decide +kernel
theorem dX7_group5_152 : decode cX7_group5 152 = .ok (.invokevirtual 192, 3) := by decide +kernel
theorem dX7_group5_155 : decode cX7_group5 155 = .ok (.aload_n 0, 1) := by decide +kernel
theorem dX7_group5_156 : decode cX7_group5 156 = .ok (.aload_n 0, 1) := by decide +kernel
theorem dX7_group5_157 : decode cX7_group5 157 = .ok (.iload_n 2, 1) := by decide +kernel
theorem dX7_group5_158 : decode cX7_group5 158 = .ok (.invokevirtual 269, 3) := by decide +kernel
theorem dX7_group5_161 : decode cX7_group5 161 = .ok (.ifCond .eq 9, 3) := by decide +kernel
theorem dX7_group5_164 : decode cX7_group5 164 = .ok (.sipush 255, 3) := by decide +kernel
theorem dX7_group5_167 : decode cX7_group5 167 = .ok (.goto 4, 3) := by decide +kernel
theorem dX7_group5_170 : decode cX7_group5 170 = .ok (.iconst 0, 1) := by decide +kernel
theorem dX7_group5_171 : decode cX7_group5 171 = .ok (.iconst 1, 1) := by decide +kernel
theorem dX7_group5_172 : decode cX7_group5 172 = .ok (.invokevirtual 198, 3) := by decide +kernel
theorem dX7_group5_175 : decode cX7_group5 175 = .ok (.iconst 1, 1) := by decide +kernel
theorem dX7_group5_176 : decode cX7_group5 176 = .ok (.ireturn, 1) := by decide +kernel
theorem dX7_group5_177 : decode cX7_group5 177 = .ok (.iload_n 1, 1) := by decide +kernel
theorem dX7_group5_178 : decode cX7_group5 178 = .ok (.invokestatic 211, 3) := by decide +kernel
theorem dX7_group5_181 : decode cX7_group5 181 = .ok (.istore 4, 2) := by decide +kernel
theorem dX7_group5_183 : decode cX7_group5 183 = .ok (.iload_n 3, 1) := by decide +kernel
theorem dX7_group5_184 : decode cX7_group5 184 = .ok (.iconst 5, 1) := by decide +kernel
theorem dX7_group5_185 : decode cX7_group5 185 = .ok (.iload 4, 2) := by decide +kernel
theorem dX7_group5_187 : decode cX7_group5 187 = .ok (.invokestatic 188, 3) := by decide +kernel
theorem dX7_group5_190 : decode cX7_group5 190 = .ok (.ifCond .ne 5, 3) := by decide +kernel
theorem dX7_group5_193 : decode cX7_group5 193 = .ok (.iconst 0, 1) := by decide +kernel
theorem dX7_group5_194 : decode cX7_group5 194 = .ok (.ireturn, 1) := by decide +kernel
theorem dX7_group5_195 : decode cX7_group5 195 = .ok (.aload_n 0, 1) := by decide +kernel
theorem dX7_group5_196 : decode cX7_group5 196 = .ok (.getfield 174, 3) := by decide +kernel
theorem dX7_group5_199 : decode cX7_group5 199 = .ok (.bipush 9, 2) := by decide +kernel
theorem dX7_group5_201 : decode cX7_group5 201 = .ok (.ishr, 1) := by decide +kernel
theorem dX7_group5_202 : decode cX7_group5 202 = .ok (.bipush 7, 2) := by decide +kernel
theorem dX7_group5_204 : decode cX7_group5 204 = .ok (.iand, 1) := by decide +kernel
theorem dX7_group5_205 : decode cX7_group5 205 = .ok (.istore 5, 2) := by decide +kernel
theorem dX7_group5_207 : decode cX7_group5 207 = .ok (.iload 5, 2) := by decide +kernel
theorem dX7_group5_209 : decode cX7_group5 209 = .ok (.ifCond .ne 8, 3) := by decide +kernel
theorem dX7_group5_212 : decode cX7_group5 212 = .ok (.bipush 8, 2) := by decide +kernel
theorem dX7_group5_214 : decode cX7_group5 214 = .ok (.goto 5, 3) := by decide +kernel
theorem dX7_group5_217 : decode cX7_group5 217 = .ok (.iload 5, 2) := by decide +kernel
theorem dX7_group5_219 : decode cX7_group5 219 = .ok (.istore 5, 2) := by decide +kernel
theorem dX7_group5_221 : decode cX7_group5 221 = .ok (.aload_n 0, 1) := by decide +kernel
theorem dX7_group5_222 : decode cX7_group5 222 = .ok (.getfield 174, 3) := by decide +kernel
theorem dX7_group5_225 : decode cX7_group5 225 = .ok (.sipush 256, 3) := by decide +kernel
theorem dX7_group5_228 : decode cX7_group5 228 = .ok (.iand, 1) := by decide +kernel
theorem dX7_group5_229 : decode cX7_group5 229 = .ok (.ifCond .eq 7, 3) := by decide +kernel
theorem dX7_group5_232 : decode cX7_group5 232 = .ok (.iconst 1, 1) := by decide +kernel
theorem dX7_group5_233 : decode cX7_group5 233 = .ok (.goto 4, 3) := by decide +kernel
theorem dX7_group5_236 : decode cX7_group5 236 = .ok (.iconst 0, 1) := by decide +kernel
theorem dX7_group5_237 : decode cX7_group5 237 = .ok (.istore 6, 2) := by decide +kernel
theorem dX7_group5_239 : decode cX7_group5 239 = .ok (.iload_n 3, 1) := by decide +kernel
theorem dX7_group5_240 : decode cX7_group5 240 = .ok (.iconst 3, 1) := by decide +kernel
theorem dX7_group5_241 : decode cX7_group5 241 = .ok (.ishr, 1) := by decide +kernel
theorem dX7_group5_242 : decode cX7_group5 242 = .ok (.iconst 1, 1) := by decide +kernel
theorem dX7_group5_243 : decode cX7_group5 243 = .ok (.if_icmp .ne 52, 3) := by decide +kernel
theorem dX7_group5_246 : decode cX7_group5 246 = .ok (.aload_n 0, 1) := by decide +kernel
theorem dX7_group5_247 : decode cX7_group5 247 = .ok (.aload_n 0, 1) := by decide +kernel
theorem dX7_group5_248 : decode cX7_group5 248 = .ok (.getfield 174, 3) := by decide +kernel
theorem dX7_group5_251 : decode cX7_group5 251 = .ok (.bipush 7, 2) := by decide +kernel
theorem dX7_group5_253 : decode cX7_group5 253 = .ok (.iand, 1) := by decide +kernel
theorem dX7_group5_254 : decode cX7_group5 254 = .ok (.iload 6, 2) := by decide +kernel
theorem dX7_group5_256 : decode cX7_group5 256 = .ok (.ifCond .eq 20, 3) := by decide +kernel
theorem dX7_group5_259 : decode cX7_group5 259 = .ok (.aload_n 0, 1) := by decide +kernel
theorem dX7_group5_260 : decode cX7_group5 260 = .ok (.aload_n 0, 1) := by decide +kernel
theorem dX7_group5_261 : decode cX7_group5 261 = .ok (.getfield 174, 3) := by decide +kernel
theorem dX7_group5_264 : decode cX7_group5 264 = .ok (.bipush 7, 2) := by decide +kernel
theorem dX7_group5_266 : decode cX7_group5 266 = .ok (.iand, 1) := by decide +kernel
theorem dX7_group5_267 : decode cX7_group5 267 = .ok (.invokevirtual 70, 3) := by decide +kernel
theorem dX7_group5_270 : decode cX7_group5 270 = .ok (.iload 5, 2) := by decide +kernel
theorem dX7_group5_272 : decode cX7_group5 272 = .ok (.isub, 1) := by decide +kernel
theorem dX7_group5_273 : decode cX7_group5 273 = .ok (.goto 17, 3) := by decide +kernel
theorem dX7_group5_276 : decode cX7_group5 276 = .ok (.aload_n 0, 1) := by decide +kernel
theorem dX7_group5_277 : decode cX7_group5 277 = .ok (.aload_n 0, 1) := by decide +kernel
theorem dX7_group5_278 : decode cX7_group5 278 = .ok (.getfield 174, 3) := by decide +kernel
theorem dX7_group5_281 : decode cX7_group5 281 = .ok (.bipush 7, 2) := by decide +kernel
theorem dX7_group5_283 : decode cX7_group5 283 = .ok (.iand, 1) := by decide +kernel
theorem dX7_group5_284 : decode cX7_group5 284 = .ok (.invokevirtual 70, 3) := by decide +kernel
theorem dX7_group5_287 : decode cX7_group5 287 = .ok (.iload 5, 2) := by decide +kernel
theorem dX7_group5_289 : decode cX7_group5 289 = .ok (.iadd, 1) := by decide +kernel
theorem dX7_group5_290 : decode cX7_group5 290 = .ok (.invokevirtual 74, 3) := by decide +kernel
theorem dX7_group5_293 : decode cX7_group5 293 = .ok (.iconst 1, 1) := by decide +kernel
theorem dX7_group5_294 : decode cX7_group5 294 = .ok (.ireturn, 1) := by decide +kernel
theorem dX7_group5_295 : decode cX7_group5 295 = .ok (.aload_n 0, 1) := by decide +kernel
theorem dX7_group5_296 : decode cX7_group5 296 = .ok (.iload_n 3, 1) := by decide +kernel
theorem dX7_group5_297 : decode cX7_group5 297 = .ok (.iload 4, 2) := by decide +kernel
theorem dX7_group5_299 : decode cX7_group5 299 = .ok (.invokevirtual 192, 3) := by decide +kernel
theorem dX7_group5_302 : decode cX7_group5 302 = .ok (.aload_n 0, 1) := by decide +kernel
theorem dX7_group5_303 : decode cX7_group5 303 = .ok (.aload_n 0, 1) := by decide +kernel
theorem dX7_group5_304 : decode cX7_group5 304 = .ok (.aload_n 0, 1) := by decide +kernel
theorem dX7_group5_305 : decode cX7_group5 305 = .ok (.iload 4, 2) := by decide +kernel
theorem dX7_group5_307 : decode cX7_group5 307 = .ok (.invokevirtual 195, 3) := by decide +kernel
theorem dX7_group5_310 : decode cX7_group5 310 = .ok (.iload 5, 2) := by decide +kernel
theorem dX7_group5_312 : decode cX7_group5 312 = .ok (.iconst 0, 1) := by decide +kernel
theorem dX7_group5_313 : decode cX7_group5 313 = .ok (.iload 6, 2) := by decide +kernel
theorem dX7_group5_315 : decode cX7_group5 315 = .ok (.iload 4, 2) := by decide +kernel
theorem dX7_group5_317 : decode cX7_group5 317 = .ok (.iconst 1, 1) := by decide +kernel
theorem dX7_group5_318 : decode cX7_group5 318 = .ok (.iconst 0, 1) := by decide +kernel
theorem dX7_group5_319 : decode cX7_group5 319 = .ok (.invokevirtual 167, 3) := by decide +kernel
theorem dX7_group5_322 : decode cX7_group5 322 = .ok (.iload 4, 2) := by decide +kernel
theorem dX7_group5_324 : decode cX7_group5 324 = .ok (.invokevirtual 198, 3) := by decide +kernel
theorem dX7_group5_327 : decode cX7_group5 327 = .ok (.iconst 1, 1) := by decide +kernel
theorem dX7_group5_328 : decode cX7_group5 328 = .ok (.ireturn, 1) := by decide +kernel
theorem dX7_group6_0 : decode cX7_group6 0 = .ok (.aload_n 0, 1) := by decide +kernel
theorem dX7_group6_1 : decode cX7_group6 1 = .ok (.getfield 174, 3) := by decide +kernel
theorem dX7_group6_4 : decode cX7_group6 4 = .ok (.bipush 8, 2) := by decide +kernel
theorem dX7_group6_6 : decode cX7_group6 6 = .ok (.ishr, 1) := by decide +kernel
theorem dX7_group6_7 : decode cX7_group6 7 = .ok (.bipush 15, 2) := by decide +kernel
theorem dX7_group6_9 : decode cX7_group6 9 = .ok (.iand, 1) := by decide +kernel
theorem dX7_group6_10 : decode cX7_group6 10 = .ok (.istore_n 1, 1) := by decide +kernel
theorem dX7_group6_11 : decode cX7_group6 11 = .ok (.aload_n 0, 1) := by decide +kernel
theorem dX7_group6_12 : decode cX7_group6 12 = .ok (.getfield 47, 3) := by decide +kernel
theorem dX7_group6_15 : decode cX7_group6 15 = .ok (.istore_n 2, 1) := by decide +kernel
theorem dX7_group6_16 : decode cX7_group6 16 = .ok (.aload_n 0, 1) := by decide +kernel
theorem dX7_group6_17 : decode cX7_group6 17 = .ok (.getfield 174, 3) := by decide +kernel
theorem dX7_group6_20 : decode cX7_group6 20 = .ok (.i2b, 1) := by decide +kernel
theorem dX7_group6_21 : decode cX7_group6 21 = .ok (.istore_n 3, 1) := by decide +kernel
theorem dX7_group6_22 : decode cX7_group6 22 = .ok (.iload_n 3, 1) := by decide +kernel
theorem dX7_group6_23 : decode cX7_group6 23 = .ok (.ifCond .ne 9, 3) := by decide +kernel
theorem dX7_group6_26 : decode cX7_group6 26 = .ok (.aload_n 0, 1) := by decide +kernel
theorem dX7_group6_27 : decode cX7_group6 27 = .ok (.invokevirtual 125, 3) := by decide +kernel
theorem dX7_group6_30 : decode cX7_group6 30 = .ok (.i2s, 1) := by decide +kernel
theorem dX7_group6_31 : decode cX7_group6 31 = .ok (.istore_n 3, 1) := by decide +kernel
theorem dX7_group6_32 : decode cX7_group6 32 = .ok (.iload_n 1, 1) := by decide +kernel
theorem dX7_group6_33 : decode cX7_group6 33 = .ok (.iconst 1, 1) := by decide +kernel
theorem dX7_group6_34 : decode cX7_group6 34 = .ok (.if_icmp .ne 12, 3) := by decide +kernel
theorem dX7_group6_37 : decode cX7_group6 37 = .ok (.aload_n 0, 1) := by decide +kernel
theorem dX7_group6_38 : decode cX7_group6 38 = .ok (.aload_n 0, 1) := by decide +kernel
theorem dX7_group6_39 : decode cX7_group6 39 = .ok (.getfield 47, 3) := by decide +kernel
theorem dX7_group6_42 : decode cX7_group6 42 = .ok (.iconst 4, 1) := by decide +kernel
theorem dX7_group6_43 : decode cX7_group6 43 = .ok (.invokevirtual 230, 3) := by decide +kernel
theorem dX7_group6_46 : decode cX7_group6 46 = .ok (.iload_n 1, 1) := by decide +kernel
theorem dX7_group6_47 : decode cX7_group6 47 = .ok (.iconst 2, 1) := by decide +kernel
theorem dX7_group6_48 : decode cX7_group6 48 = .ok (.if_icmp .lt 11, 3) := by decide +kernel
theorem dX7_group6_51 : decode cX7_group6 51 = .ok (.aload_n 0, 1) := by decide +kernel
theorem dX7_group6_52 : decode cX7_group6 52 = .ok (.iload_n 1, 1) := by decide +kernel
theorem dX7_group6_53 : decode cX7_group6 53 = .ok (.invokevirtual 269, 3) := by decide +kernel
theorem dX7_group6_56 : decode cX7_group6 56 = .ok (.ifCond .eq 10, 3) := by decide +kernel
theorem dX7_group6_59 : decode cX7_group6 59 = .ok (.aload_n 0, 1) := by decide +kernel
theorem dX7_group6_60 : decode cX7_group6 60 = .ok (.iload_n 2, 1) := by decide +kernel
theorem dX7_group6_61 : decode cX7_group6 61 = .ok (.iload_n 3, 1) := by decide +kernel
theorem dX7_group6_62 : decode cX7_group6 62 = .ok (.iadd, 1) := by decide +kernel
theorem dX7_group6_63 : decode cX7_group6 63 = .ok (.putfield 47, 3) := by decide +kernel
theorem dX7_group6_66 : decode cX7_group6 66 = .ok (.iconst 1, 1) := by decide +kernel
theorem dX7_group6_67 : decode cX7_group6 67 = .ok (.ireturn, 1) := by decide +kernel
theorem dX7_group7_0 : decode cX7_group7 0 = .ok (.aload_n 0, 1) := by decide +kernel
theorem dX7_group7_1 : decode cX7_group7 1 = .ok (.getfield 174, 3) := by decide +kernel
theorem dX7_group7_4 : decode cX7_group7 4 = .ok (.sipush 256, 3) := by decide +kernel
theorem dX7_group7_7 : decode cX7_group7 7 = .ok (.iand, 1) := by decide +kernel
theorem dX7_group7_8 : decode cX7_group7 8 = .ok (.ifCond .eq 5, 3) := by decide +kernel
theorem dX7_group7_11 : decode cX7_group7 11 = .ok (.iconst 0, 1) := by decide +kernel
theorem dX7_group7_12 : decode cX7_group7 12 = .ok (.ireturn, 1) := by decide +kernel
theorem dX7_group7_13 : decode cX7_group7 13 = .ok (.aload_n 0, 1) := by decide +kernel
theorem dX7_group7_14 : decode cX7_group7 14 = .ok (.getfield 13, 3) := by decide +kernel
theorem dX7_group7_17 : decode cX7_group7 17 = .ok (.aload_n 0, 1) := by decide +kernel
theorem dX7_group7_18 : decode cX7_group7 18 = .ok (.getfield 174, 3) := by decide +kernel
theorem dX7_group7_21 : decode cX7_group7 21 = .ok (.bipush 9, 2) := by decide +kernel
theorem dX7_group7_23 : decode cX7_group7 23 = .ok (.ishr, 1) := by decide +kernel
theorem dX7_group7_24 : decode cX7_group7 24 = .ok (.bipush 7, 2) := by decide +kernel
theorem dX7_group7_26 : decode cX7_group7 26 = .ok (.iand, 1) := by decide +kernel
theorem dX7_group7_27 : decode cX7_group7 27 = .ok (.aload_n 0, 1) := by decide +kernel
theorem dX7_group7_28 : decode cX7_group7 28 = .ok (.getfield 174, 3) := by decide +kernel
theorem dX7_group7_31 : decode cX7_group7 31 = .ok (.i2b, 1) := by decide +kernel
theorem dX7_group7_32 : decode cX7_group7 32 = .ok (.iastore, 1) := by decide +kernel
theorem dX7_group7_33 : decode cX7_group7 33 = .ok (.aload_n 0, 1) := by decide +kernel
theorem dX7_group7_34 : decode cX7_group7 34 = .ok (.aload_n 0, 1) := by decide +kernel
theorem dX7_group7_35 : decode cX7_group7 35 = .ok (.getfield 174, 3) := by decide +kernel
theorem dX7_group7_38 : decode cX7_group7 38 = .ok (.i2b, 1) := by decide +kernel
theorem dX7_group7_39 : decode cX7_group7 39 = .ok (.iconst 4, 1) := by decide +kernel
theorem dX7_group7_40 : decode cX7_group7 40 = .ok (.invokevirtual 214, 3) := by decide +kernel
theorem dX7_group7_43 : decode cX7_group7 43 = .ok (.iconst 1, 1) := by decide +kernel
theorem dX7_group7_44 : decode cX7_group7 44 = .ok (.ireturn, 1) := by decide +kernel
theorem dX7_divide_0 : decode cX7_divide 0 = .ok (.aload_n 0, 1) := by decide +kernel
theorem dX7_divide_1 : decode cX7_divide 1 = .ok (.getfield 174, 3) := by decide +kernel
theorem dX7_divide_4 : decode cX7_divide 4 = .ok (.bipush 9, 2) := by decide +kernel
theorem dX7_divide_6 : decode cX7_divide 6 = .ok (.ishr, 1) := by decide +kernel
theorem dX7_divide_7 : decode cX7_divide 7 = .ok (.bipush 7, 2) := by decide +kernel
theorem dX7_divide_9 : decode cX7_divide 9 = .ok (.iand, 1) := by decide +kernel
theorem dX7_divide_10 : decode cX7_divide 10 = .ok (.istore_n 2, 1) := by decide +kernel
theorem dX7_divide_11 : decode cX7_divide 11 = .ok (.aload_n 0, 1) := by decide +kernel
theorem dX7_divide_12 : decode cX7_divide 12 = .ok (.getfield 174, 3) := by decide +kernel
theorem dX7_divide_15 : decode cX7_divide 15 = .ok (.bipush 63, 2) := by decide +kernel
theorem dX7_divide_17 : decode cX7_divide 17 = .ok (.iand, 1) := by decide +kernel
theorem dX7_divide_18 : decode cX7_divide 18 = .ok (.iconst 1, 1) := by decide +kernel
theorem dX7_divide_19 : decode cX7_divide 19 = .ok (.iconst 2, 1) := by decide +kernel
theorem dX7_divide_20 : decode cX7_divide 20 = .ok (.invokestatic 188, 3) := by decide +kernel
theorem dX7_divide_23 : decode cX7_divide 23 = .ok (.ifCond .ne 5, 3) := by decide +kernel
theorem dX7_divide_26 : decode cX7_divide 26 = .ok (.iconst 0, 1) := by decide +kernel
theorem dX7_divide_27 : decode cX7_divide 27 = .ok (.ireturn, 1) := by decide +kernel
theorem dX7_divide_28 : decode cX7_divide 28 = .ok (.aload_n 0, 1) := by decide +kernel
theorem dX7_divide_29 : decode cX7_divide 29 = .ok (.aload_n 0, 1) := by decide +kernel
theorem dX7_divide_30 : decode cX7_divide 30 = .ok (.getfield 174, 3) := by decide +kernel
theorem dX7_divide_33 : decode cX7_divide 33 = .ok (.bipush 63, 2) := by decide +kernel
theorem dX7_divide_35 : decode cX7_divide 35 = .ok (.iand, 1) := by decide +kernel
theorem dX7_divide_36 : decode cX7_divide 36 = .ok (.iconst 2, 1) := by decide +kernel
theorem dX7_divide_37 : decode cX7_divide 37 = .ok (.invokevirtual 192, 3) := by decide +kernel
theorem dX7_divide_40 : decode cX7_divide 40 = .ok (.aload_n 0, 1) := by decide +kernel
theorem dX7_divide_41 : decode cX7_divide 41 = .ok (.iconst 2, 1) := by decide +kernel
theorem dX7_divide_42 : decode cX7_divide 42 = .ok (.invokevirtual 195, 3) := by decide +kernel
theorem dX7_divide_45 : decode cX7_divide 45 = .ok (.istore_n 3, 1) := by decide +kernel
theorem dX7_divide_46 : decode cX7_divide 46 = .ok (.aload_n 0, 1) := by decide +kernel
theorem dX7_divide_47 : decode cX7_divide 47 = .ok (.getfield 100, 3) := by decide +kernel
theorem dX7_divide_50 : decode cX7_divide 50 = .ok (.ifCond .le 5, 3) := by decide +kernel
theorem dX7_divide_53 : decode cX7_divide 53 = .ok (.iconst 1, 1) := by decide +kernel
theorem dX7_divide_54 : decode cX7_divide 54 = .ok (.ireturn, 1) := by decide +kernel
theorem dX7_divide_55 : decode cX7_divide 55 = .ok (.aload_n 0, 1) := by decide +kernel
theorem dX7_divide_56 : decode cX7_divide 56 = .ok (.iconst 1, 1) := by decide +kernel
theorem dX7_divide_57 : decode cX7_divide 57 = .ok (.iconst 0, 1) := by decide +kernel
theorem dX7_divide_58 : decode cX7_divide 58 = .ok (.invokevirtual 160, 3) := by decide +kernel
theorem dX7_divide_61 : decode cX7_divide 61 = .ok (.iload_n 3, 1) := by decide +kernel
theorem dX7_divide_62 : decode cX7_divide 62 = .ok (.ifCond .ne 10, 3) := by decide +kernel
theorem dX7_divide_65 : decode cX7_divide 65 = .ok (.aload_n 0, 1) := by decide +kernel
theorem dX7_divide_66 : decode cX7_divide 66 = .ok (.iconst 5, 1) := by decide +kernel
theorem dX7_divide_67 : decode cX7_divide 67 = .ok (.putfield 245, 3) := by decide +kernel
theorem dX7_divide_70 : decode cX7_divide 70 = .ok (.iconst 1, 1) := by decide +kernel
theorem dX7_divide_71 : decode cX7_divide 71 = .ok (.ireturn, 1) := by decide +kernel
theorem dX7_divide_72 : decode cX7_divide 72 = .ok (.iload_n 1, 1) := by decide +kernel
theorem dX7_divide_73 : decode cX7_divide 73 = .ok (.ifCond .eq 13, 3) := by decide +kernel
theorem dX7_divide_76 : decode cX7_divide 76 = .ok (.aload_n 0, 1) := by decide +kernel
theorem dX7_divide_77 : decode cX7_divide 77 = .ok (.getfield 13, 3) := by decide +kernel
theorem dX7_divide_80 : decode cX7_divide 80 = .ok (.iload_n 2, 1) := by decide +kernel
theorem dX7_divide_81 : decode cX7_divide 81 = .ok (.iaload, 1) := by decide +kernel
theorem dX7_divide_82 : decode cX7_divide 82 = .ok (.i2l, 1) := by decide +kernel
theorem dX7_divide_83 : decode cX7_divide 83 = .ok (.goto 13, 3) := by decide +kernel
theorem dX7_divide_86 : decode cX7_divide 86 = .ok (.aload_n 0, 1) := by decide +kernel
theorem dX7_divide_87 : decode cX7_divide 87 = .ok (.getfield 13, 3) := by decide +kernel
theorem dX7_divide_90 : decode cX7_divide 90 = .ok (.iload_n 2, 1) := by decide +kernel
theorem dX7_divide_91 : decode cX7_divide 91 = .ok (.iaload, 1) := by decide +kernel
theorem dX7_divide_92 : decode cX7_divide 92 = .ok (.iconst 4, 1) := by decide +kernel
theorem dX7_divide_93 : decode cX7_divide 93 = .ok (.invokestatic 144, 3) := by decide +kernel
theorem dX7_divide_96 : decode cX7_divide 96 = .ok (.lstore 4, 2) := by decide +kernel
theorem dX7_divide_98 : decode cX7_divide 98 = .ok (.iload_n 1, 1) := by decide +kernel
theorem dX7_divide_99 : decode cX7_divide 99 = .ok (.ifCond .eq 9, 3) := by decide +kernel
theorem dX7_divide_102 : decode cX7_divide 102 = .ok (.iload_n 3, 1) := by decide +kernel
theorem dX7_divide_103 : decode cX7_divide 103 = .ok (.i2s, 1) := by decide +kernel
theorem dX7_divide_104 : decode cX7_divide 104 = .ok (.i2l, 1) := by decide +kernel
theorem dX7_divide_105 : decode cX7_divide 105 = .ok (.goto 5, 3) := by decide +kernel
theorem dX7_divide_108 : decode cX7_divide 108 = .ok (.iload_n 3, 1) := by decide +kernel
theorem dX7_divide_109 : decode cX7_divide 109 = .ok (.i2l, 1) := by decide +kernel
theorem dX7_divide_110 : decode cX7_divide 110 = .ok (.lstore 6, 2) := by decide +kernel
theorem dX7_divide_112 : decode cX7_divide 112 = .ok (.lload 4, 2) := by decide +kernel
theorem dX7_divide_114 : decode cX7_divide 114 = .ok (.lload 6, 2) := by decide +kernel
theorem dX7_divide_116 : decode cX7_divide 116 = .ok (.ldiv, 1) := by decide +kernel
theorem dX7_divide_117 : decode cX7_divide 117 = .ok (.lstore 8, 2) := by decide +kernel
theorem dX7_divide_119 : decode cX7_divide 119 = .ok (.iload_n 1, 1) := by decide +kernel
theorem dX7_divide_120 : decode cX7_divide 120 = .ok (.ifCond .eq 29, 3) := by decide +kernel
theorem dX7_divide_123 : decode cX7_divide 123 = .ok (.lload 8, 2) := by decide +kernel
theorem dX7_divide_125 : decode cX7_divide 125 = .ok (.ldc2_w 272, 3) := by decide +kernel
theorem dX7_divide_128 : decode cX7_divide 128 = .ok (.lcmp, 1) := by decide +kernel
theorem dX7_divide_129 : decode cX7_divide 129 = .ok (.ifCond .lt 12, 3) := by decide +kernel
theorem dX7_divide_132 : decode cX7_divide 132 = .ok (.lload 8, 2) := by decide +kernel
theorem dX7_divide_134 : decode cX7_divide 134 = .ok (.ldc2_w 274, 3) := by decide +kernel
theorem dX7_divide_137 : decode cX7_divide 137 = .ok (.lcmp, 1) := by decide +kernel
theorem dX7_divide_138 : decode cX7_divide 138 = .ok (.ifCond .le 7, 3) := by decide +kernel
theorem dX7_divide_141 : decode cX7_divide 141 = .ok (.iconst 1, 1) := by decide +kernel
theorem dX7_divide_142 : decode cX7_divide 142 = .ok (.goto 21, 3) := by decide +kernel
theorem dX7_divide_145 : decode cX7_divide 145 = .ok (.iconst 0, 1) := by decide +kernel
theorem dX7_divide_146 : decode cX7_divide 146 = .ok (.goto 17, 3) := by decide +kernel
theorem dX7_divide_149 : decode cX7_divide 149 = .ok (.lload 8, 2) := by decide +kernel
theorem dX7_divide_151 : decode cX7_divide 151 = .ok (.ldc2_w 121, 3) := by decide +kernel
theorem dX7_divide_154 : decode cX7_divide 154 = .ok (.lcmp, 1) := by decide +kernel
theorem dX7_divide_155 : decode cX7_divide 155 = .ok (.ifCond .le 7, 3) := by decide +kernel
theorem dX7_divide_158 : decode cX7_divide 158 = .ok (.iconst 1, 1) := by decide +kernel
theorem dX7_divide_159 : decode cX7_divide 159 = .ok (.goto 4, 3) := by decide +kernel
theorem dX7_divide_162 : decode cX7_divide 162 = .ok (.iconst 0, 1) := by decide +kernel
theorem dX7_divide_163 : decode cX7_divide 163 = .ok (.istore 10, 2) := by decide +kernel
theorem dX7_divide_165 : decode cX7_divide 165 = .ok (.aload_n 0, 1) := by decide +kernel
theorem dX7_divide_166 : decode cX7_divide 166 = .ok (.iconst 2, 1) := by decide +kernel
theorem dX7_divide_167 : decode cX7_divide 167 = .ok (.iload 10, 2) := by decide +kernel
theorem dX7_divide_169 : decode cX7_divide 169 = .ok (.invokevirtual 160, 3) := by decide +kernel
theorem dX7_divide_172 : decode cX7_divide 172 = .ok (.iload 10, 2) := by decide +kernel
theorem dX7_divide_174 : decode cX7_divide 174 = .ok (.ifCond .ne 33, 3) := by decide +kernel
theorem dX7_divide_177 : decode cX7_divide 177 = .ok (.aload_n 0, 1) := by decide +kernel
theorem dX7_divide_178 : decode cX7_divide 178 = .ok (.getfield 13, 3) := by decide +kernel
theorem dX7_divide_181 : decode cX7_divide 181 = .ok (.iload_n 2, 1) := by decide +kernel
theorem dX7_divide_182 : decode cX7_divide 182 = .ok (.lload 4, 2) := by decide +kernel
theorem dX7_divide_184 : decode cX7_divide 184 = .ok (.lload 6, 2) := by decide +kernel
theorem dX7_divide_186 : decode cX7_divide 186 = .ok (.lrem, 1) := by decide +kernel
theorem dX7_divide_187 : decode cX7_divide 187 = .ok (.l2i, 1) := by decide +kernel
theorem dX7_divide_188 : decode cX7_divide 188 = .ok (.bipush 16, 2) := by decide +kernel
theorem dX7_divide_190 : decode cX7_divide 190 = .ok (.ishl, 1) := by decide +kernel
theorem dX7_divide_191 : decode cX7_divide 191 = .ok (.lload 8, 2) := by decide +kernel
theorem dX7_divide_193 : decode cX7_divide 193 = .ok (.l2i, 1) := by decide +kernel
theorem dX7_divide_194 : decode cX7_divide 194 = .ok (.ldc 149, 2) := by decide +kernel
theorem dX7_divide_196 : decode cX7_divide 196 = .ok (.iand, 1) := by decide +kernel
theorem dX7_divide_197 : decode cX7_divide 197 = .ok (.ior, 1) := by decide +kernel
theorem dX7_divide_198 : decode cX7_divide 198 = .ok (.iastore, 1) := by decide +kernel
theorem dX7_divide_199 : decode cX7_divide 199 = .ok (.aload_n 0, 1) := by decide +kernel
theorem dX7_divide_200 : decode cX7_divide 200 = .ok (.lload 8, 2) := by decide +kernel
theorem dX7_divide_202 : decode cX7_divide 202 = .ok (.l2i, 1) := by decide +kernel
theorem dX7_divide_203 : decode cX7_divide 203 = .ok (.iconst 2, 1) := by decide +kernel
theorem dX7_divide_204 : decode cX7_divide 204 = .ok (.invokevirtual 164, 3) := by decide +kernel
theorem dX7_divide_207 : decode cX7_divide 207 = .ok (.iconst 1, 1) := by decide +kernel
theorem dX7_divide_208 : decode cX7_divide 208 = .ok (.ireturn, 1) := by decide +kernel
theorem dX7_multiply_0 : decode cX7_multiply 0 = .ok (.aload_n 0, 1) := by decide +kernel
theorem dX7_multiply_1 : decode cX7_multiply 1 = .ok (.getfield 174, 3) := by decide +kernel
theorem dX7_multiply_4 : decode cX7_multiply 4 = .ok (.bipush 9, 2) := by decide +kernel
theorem dX7_multiply_6 : decode cX7_multiply 6 = .ok (.ishr, 1) := by decide +kernel
theorem dX7_multiply_7 : decode cX7_multiply 7 = .ok (.bipush 7, 2) := by decide +kernel
theorem dX7_multiply_9 : decode cX7_multiply 9 = .ok (.iand, 1) := by decide +kernel
theorem dX7_multiply_10 : decode cX7_multiply 10 = .ok (.istore_n 2, 1) := by decide +kernel
theorem dX7_multiply_11 : decode cX7_multiply 11 = .ok (.aload_n 0, 1) := by decide +kernel
theorem dX7_multiply_12 : decode cX7_multiply 12 = .ok (.getfield 174, 3) := by decide +kernel
theorem dX7_multiply_15 : decode cX7_multiply 15 = .ok (.bipush 63, 2) := by decide +kernel
theorem dX7_multiply_17 : decode cX7_multiply 17 = .ok (.iand, 1) := by decide +kernel
theorem dX7_multiply_18 : decode cX7_multiply 18 = .ok (.iconst 1, 1) := by decide +kernel
theorem dX7_multiply_19 : decode cX7_multiply 19 = .ok (.iconst 2, 1) := by decide +kernel
theorem dX7_multiply_20 : decode cX7_multiply 20 = .ok (.invokestatic 188, 3) := by decide +kernel
theorem dX7_multiply_23 : decode cX7_multiply 23 = .ok (.ifCond .ne 5, 3) := by decide +kernel
theorem dX7_multiply_26 : decode cX7_multiply 26 = .ok (.iconst 0, 1) := by decide +kernel
theorem dX7_multiply_27 : decode cX7_multiply 27 = .ok (.ireturn, 1) := by decide +kernel
theorem dX7_multiply_28 : decode cX7_multiply 28 = .ok (.aload_n 0, 1) := by decide +kernel
theorem dX7_multiply_29 : decode cX7_multiply 29 = .ok (.aload_n 0, 1) := by decide +kernel
theorem dX7_multiply_30 : decode cX7_multiply 30 = .ok (.getfield 174, 3) := by decide +kernel
theorem dX7_multiply_33 : decode cX7_multiply 33 = .ok (.bipush 63, 2) := by decide +kernel
theorem dX7_multiply_35 : decode cX7_multiply 35 = .ok (.iand, 1) := by decide +kernel
theorem dX7_multiply_36 : decode cX7_multiply 36 = .ok (.iconst 2, 1) := by decide +kernel
theorem dX7_multiply_37 : decode cX7_multiply 37 = .ok (.invokevirtual 192, 3) := by decide +kernel
theorem dX7_multiply_40 : decode cX7_multiply 40 = .ok (.aload_n 0, 1) := by decide +kernel
theorem dX7_multiply_41 : decode cX7_multiply 41 = .ok (.iconst 2, 1) := by decide +kernel
theorem dX7_multiply_42 : decode cX7_multiply 42 = .ok (.invokevirtual 195, 3) := by decide +kernel
theorem dX7_multiply_45 : decode cX7_multiply 45 = .ok (.istore_n 3, 1) := by decide +kernel
theorem dX7_multiply_46 : decode cX7_multiply 46 = .ok (.aload_n 0, 1) := by decide +kernel
theorem dX7_multiply_47 : decode cX7_multiply 47 = .ok (.getfield 13, 3) := by decide +kernel
theorem dX7_multiply_50 : decode cX7_multiply 50 = .ok (.iload_n 2, 1) := by decide +kernel
theorem dX7_multiply_51 : decode cX7_multiply 51 = .ok (.iload_n 1, 1) := by decide +kernel
theorem dX7_multiply_52 : decode cX7_multiply 52 = .ok (.ifCond .eq 16, 3) := by decide +kernel
theorem dX7_multiply_55 : decode cX7_multiply 55 = .ok (.aload_n 0, 1) := by decide +kernel
theorem dX7_multiply_56 : decode cX7_multiply 56 = .ok (.getfield 13, 3) := by decide +kernel
theorem dX7_multiply_59 : decode cX7_multiply 59 = .ok (.iload_n 2, 1) := by decide +kernel
theorem dX7_multiply_60 : decode cX7_multiply 60 = .ok (.iaload, 1) := by decide +kernel
theorem dX7_multiply_61 : decode cX7_multiply 61 = .ok (.i2s, 1) := by decide +kernel
theorem dX7_multiply_62 : decode cX7_multiply 62 = .ok (.iload_n 3, 1) := by decide +kernel
theorem dX7_multiply_63 : decode cX7_multiply 63 = .ok (.i2s, 1) := by decide +kernel
theorem dX7_multiply_64 : decode cX7_multiply 64 = .ok (.imul, 1) := by decide +kernel
theorem dX7_multiply_65 : decode cX7_multiply 65 = .ok (.goto 17, 3) := by decide +kernel
theorem dX7_multiply_68 : decode cX7_multiply 68 = .ok (.aload_n 0, 1) := by decide +kernel
theorem dX7_multiply_69 : decode cX7_multiply 69 = .ok (.getfield 13, 3) := by decide +kernel
theorem dX7_multiply_72 : decode cX7_multiply 72 = .ok (.iload_n 2, 1) := by decide +kernel
theorem dX7_multiply_73 : decode cX7_multiply 73 = .ok (.iaload, 1) := by decide +kernel
theorem dX7_multiply_74 : decode cX7_multiply 74 = .ok (.iconst 2, 1) := by decide +kernel
theorem dX7_multiply_75 : decode cX7_multiply 75 = .ok (.invokestatic 144, 3) := by decide +kernel
theorem dX7_multiply_78 : decode cX7_multiply 78 = .ok (.iload_n 3, 1) := by decide +kernel
theorem dX7_multiply_79 : decode cX7_multiply 79 = .ok (.i2l, 1) := by decide +kernel
theorem dX7_multiply_80 : decode cX7_multiply 80 = .ok (.lmul, 1) := by decide +kernel
theorem dX7_multiply_81 : decode cX7_multiply 81 = .ok (.l2i, 1) := by decide +kernel
theorem dX7_multiply_82 : decode cX7_multiply 82 = .ok (.iastore, 1) := by decide +kernel
theorem dX7_multiply_83 : decode cX7_multiply 83 = .ok (.aload_n 0, 1) := by decide +kernel
theorem dX7_multiply_84 : decode cX7_multiply 84 = .ok (.aload_n 0, 1) := by decide +kernel
theorem dX7_multiply_85 : decode cX7_multiply 85 = .ok (.getfield 13, 3) := by decide +kernel
theorem dX7_multiply_88 : decode cX7_multiply 88 = .ok (.iload_n 2, 1) := by decide +kernel
theorem dX7_multiply_89 : decode cX7_multiply 89 = .ok (.iaload, 1) := by decide +kernel
theorem dX7_multiply_90 : decode cX7_multiply 90 = .ok (.iconst 4, 1) := by decide +kernel
theorem dX7_multiply_91 : decode cX7_multiply 91 = .ok (.invokevirtual 214, 3) := by decide +kernel
theorem dX7_multiply_94 : decode cX7_multiply 94 = .ok (.iconst 1, 1) := by decide +kernel
theorem dX7_multiply_95 : decode cX7_multiply 95 = .ok (.ireturn, 1) := by decide +kernel
theorem dX7_pair_0 : decode cX7_pair 0 = .ok (.aload_n 0, 1) := by decide +kernel
theorem dX7_pair_1 : decode cX7_pair 1 = .ok (.getfield 174, 3) := by decide +kernel
theorem dX7_pair_4 : decode cX7_pair 4 = .ok (.bipush 8, 2) := by decide +kernel
theorem dX7_pair_6 : decode cX7_pair 6 = .ok (.iand, 1) := by decide +kernel
theorem dX7_pair_7 : decode cX7_pair 7 = .ok (.ifCond .eq 8, 3) := by decide +kernel
theorem dX7_pair_10 : decode cX7_pair 10 = .ok (.bipush 32, 2) := by decide +kernel
theorem dX7_pair_12 : decode cX7_pair 12 = .ok (.goto 4, 3) := by decide +kernel
theorem dX7_pair_15 : decode cX7_pair 15 = .ok (.iconst 0, 1) := by decide +kernel
theorem dX7_pair_16 : decode cX7_pair 16 = .ok (.istore_n 2, 1) := by decide +kernel
theorem dX7_pair_17 : decode cX7_pair 17 = .ok (.aload_n 0, 1) := by decide +kernel
theorem dX7_pair_18 : decode cX7_pair 18 = .ok (.iload_n 2, 1) := by decide +kernel
theorem dX7_pair_19 : decode cX7_pair 19 = .ok (.aload_n 0, 1) := by decide +kernel
theorem dX7_pair_20 : decode cX7_pair 20 = .ok (.getfield 174, 3) := by decide +kernel
theorem dX7_pair_23 : decode cX7_pair 23 = .ok (.bipush 7, 2) := by decide +kernel
theorem dX7_pair_25 : decode cX7_pair 25 = .ok (.iand, 1) := by decide +kernel
theorem dX7_pair_26 : decode cX7_pair 26 = .ok (.ior, 1) := by decide +kernel
theorem dX7_pair_27 : decode cX7_pair 27 = .ok (.iload_n 1, 1) := by decide +kernel
theorem dX7_pair_28 : decode cX7_pair 28 = .ok (.invokevirtual 192, 3) := by decide +kernel
theorem dX7_pair_31 : decode cX7_pair 31 = .ok (.aload_n 0, 1) := by decide +kernel
theorem dX7_pair_32 : decode cX7_pair 32 = .ok (.iload_n 1, 1) := by decide +kernel
theorem dX7_pair_33 : decode cX7_pair 33 = .ok (.invokevirtual 195, 3) := by decide +kernel
theorem dX7_pair_36 : decode cX7_pair 36 = .ok (.istore_n 3, 1) := by decide +kernel
theorem dX7_pair_37 : decode cX7_pair 37 = .ok (.aload_n 0, 1) := by decide +kernel
theorem dX7_pair_38 : decode cX7_pair 38 = .ok (.iload_n 2, 1) := by decide +kernel
theorem dX7_pair_39 : decode cX7_pair 39 = .ok (.aload_n 0, 1) := by decide +kernel
theorem dX7_pair_40 : decode cX7_pair 40 = .ok (.getfield 174, 3) := by decide +kernel
theorem dX7_pair_43 : decode cX7_pair 43 = .ok (.bipush 9, 2) := by decide +kernel
theorem dX7_pair_45 : decode cX7_pair 45 = .ok (.ishr, 1) := by decide +kernel
theorem dX7_pair_46 : decode cX7_pair 46 = .ok (.bipush 7, 2) := by decide +kernel
theorem dX7_pair_48 : decode cX7_pair 48 = .ok (.iand, 1) := by decide +kernel
theorem dX7_pair_49 : decode cX7_pair 49 = .ok (.ior, 1) := by decide +kernel
theorem dX7_pair_50 : decode cX7_pair 50 = .ok (.iload_n 1, 1) := by decide +kernel
theorem dX7_pair_51 : decode cX7_pair 51 = .ok (.invokevirtual 192, 3) := by decide +kernel
theorem dX7_pair_54 : decode cX7_pair 54 = .ok (.iload_n 3, 1) := by decide +kernel
theorem dX7_pair_55 : decode cX7_pair 55 = .ok (.ireturn, 1) := by decide +kernel
theorem dX7_decimal_0 : decode cX7_decimal 0 = .ok (.aload_n 0, 1) := by decide +kernel
theorem dX7_decimal_1 : decode cX7_decimal 1 = .ok (.iconst 1, 1) := by decide +kernel
theorem dX7_decimal_2 : decode cX7_decimal 2 = .ok (.invokevirtual 276, 3) := by decide +kernel
theorem dX7_decimal_5 : decode cX7_decimal 5 = .ok (.istore_n 2, 1) := by decide +kernel
theorem dX7_decimal_6 : decode cX7_decimal 6 = .ok (.aload_n 0, 1) := by decide +kernel
theorem dX7_decimal_7 : decode cX7_decimal 7 = .ok (.iconst 1, 1) := by decide +kernel
theorem dX7_decimal_8 : decode cX7_decimal 8 = .ok (.invokevirtual 195, 3) := by decide +kernel
theorem dX7_decimal_11 : decode cX7_decimal 11 = .ok (.istore_n 3, 1) := by decide +kernel
theorem dX7_decimal_12 : decode cX7_decimal 12 = .ok (.aload_n 0, 1) := by decide +kernel
theorem dX7_decimal_13 : decode cX7_decimal 13 = .ok (.iload_n 1, 1) := by decide +kernel
theorem dX7_decimal_14 : decode cX7_decimal 14 = .ok (.ifCond .eq 12, 3) := by decide +kernel
theorem dX7_decimal_17 : decode cX7_decimal 17 = .ok (.aload_n 0, 1) := by decide +kernel
theorem dX7_decimal_18 : decode cX7_decimal 18 = .ok (.iload_n 3, 1) := by decide +kernel
theorem dX7_decimal_19 : decode cX7_decimal 19 = .ok (.iload_n 2, 1) := by decide +kernel
theorem dX7_decimal_20 : decode cX7_decimal 20 = .ok (.invokevirtual 233, 3) := by decide +kernel
theorem dX7_decimal_23 : decode cX7_decimal 23 = .ok (.goto 9, 3) := by decide +kernel
theorem dX7_decimal_26 : decode cX7_decimal 26 = .ok (.aload_n 0, 1) := by decide +kernel
theorem dX7_decimal_27 : decode cX7_decimal 27 = .ok (.iload_n 3, 1) := by decide +kernel
theorem dX7_decimal_28 : decode cX7_decimal 28 = .ok (.iload_n 2, 1) := by decide +kernel
theorem dX7_decimal_29 : decode cX7_decimal 29 = .ok (.invokevirtual 279, 3) := by decide +kernel
theorem dX7_decimal_32 : decode cX7_decimal 32 = .ok (.iconst 1, 1) := by decide +kernel
theorem dX7_decimal_33 : decode cX7_decimal 33 = .ok (.invokevirtual 198, 3) := by decide +kernel
theorem dX7_decimal_36 : decode cX7_decimal 36 = .ok (.iconst 1, 1) := by decide +kernel
theorem dX7_decimal_37 : decode cX7_decimal 37 = .ok (.ireturn, 1) := by decide +kernel
theorem dX7_logicPair_0 : decode cX7_logicPair 0 = .ok (.aload_n 0, 1) := by decide +kernel
theorem dX7_logicPair_1 : decode cX7_logicPair 1 = .ok (.getfield 174, 3) := by decide +kernel
theorem dX7_logicPair_4 : decode cX7_logicPair 4 = .ok (.bipush 6, 2) := by decide +kernel
theorem dX7_logicPair_6 : decode cX7_logicPair 6 = .ok (.ishr, 1) := by decide +kernel
theorem dX7_logicPair_7 : decode cX7_logicPair 7 = .ok (.iconst 3, 1) := by decide +kernel
theorem dX7_logicPair_8 : decode cX7_logicPair 8 = .ok (.iand, 1) := by decide +kernel
theorem dX7_logicPair_9 : decode cX7_logicPair 9 = .ok (.invokestatic 211, 3) := by decide +kernel
theorem dX7_logicPair_12 : decode cX7_logicPair 12 = .ok (.istore_n 2, 1) := by decide +kernel
theorem dX7_logicPair_13 : decode cX7_logicPair 13 = .ok (.aload_n 0, 1) := by decide +kernel
theorem dX7_logicPair_14 : decode cX7_logicPair 14 = .ok (.getfield 174, 3) := by decide +kernel
theorem dX7_logicPair_17 : decode cX7_logicPair 17 = .ok (.sipush 256, 3) := by decide +kernel
theorem dX7_logicPair_20 : decode cX7_logicPair 20 = .ok (.iand, 1) := by decide +kernel
theorem dX7_logicPair_21 : decode cX7_logicPair 21 = .ok (.ifCond .eq 7, 3) := by decide +kernel
theorem dX7_logicPair_24 : decode cX7_logicPair 24 = .ok (.iconst 1, 1) := by decide +kernel
theorem dX7_logicPair_25 : decode cX7_logicPair 25 = .ok (.goto 4, 3) := by decide +kernel
theorem dX7_logicPair_28 : decode cX7_logicPair 28 = .ok (.iconst 0, 1) := by decide +kernel
theorem dX7_logicPair_29 : decode cX7_logicPair 29 = .ok (.istore_n 3, 1) := by decide +kernel
theorem dX7_logicPair_30 : decode cX7_logicPair 30 = .ok (.aload_n 0, 1) := by decide +kernel
theorem dX7_logicPair_31 : decode cX7_logicPair 31 = .ok (.getfield 174, 3) := by decide +kernel
theorem dX7_logicPair_34 : decode cX7_logicPair 34 = .ok (.bipush 9, 2) := by decide +kernel
theorem dX7_logicPair_36 : decode cX7_logicPair 36 = .ok (.ishr, 1) := by decide +kernel
theorem dX7_logicPair_37 : decode cX7_logicPair 37 = .ok (.bipush 7, 2) := by decide +kernel
theorem dX7_logicPair_39 : decode cX7_logicPair 39 = .ok (.iand, 1) := by decide +kernel
theorem dX7_logicPair_40 : decode cX7_logicPair 40 = .ok (.istore 4, 2) := by decide +kernel
theorem dX7_logicPair_42 : decode cX7_logicPair 42 = .ok (.aload_n 0, 1) := by decide +kernel
theorem dX7_logicPair_43 : decode cX7_logicPair 43 = .ok (.getfield 174, 3) := by decide +kernel
theorem dX7_logicPair_46 : decode cX7_logicPair 46 = .ok (.bipush 63, 2) := by decide +kernel
theorem dX7_logicPair_48 : decode cX7_logicPair 48 = .ok (.iand, 1) := by decide +kernel
theorem dX7_logicPair_49 : decode cX7_logicPair 49 = .ok (.iload_n 1, 1) := by decide +kernel
theorem dX7_logicPair_50 : decode cX7_logicPair 50 = .ok (.iconst 2, 1) := by decide +kernel
theorem dX7_logicPair_51 : decode cX7_logicPair 51 = .ok (.if_icmp .ne 7, 3) := by decide +kernel
theorem dX7_logicPair_54 : decode cX7_logicPair 54 = .ok (.iconst 4, 1) := by decide +kernel
theorem dX7_logicPair_55 : decode cX7_logicPair 55 = .ok (.goto 12, 3) := by decide +kernel
theorem dX7_logicPair_58 : decode cX7_logicPair 58 = .ok (.iload_n 3, 1) := by decide +kernel
theorem dX7_logicPair_59 : decode cX7_logicPair 59 = .ok (.ifCond .eq 7, 3) := by decide +kernel
theorem dX7_logicPair_62 : decode cX7_logicPair 62 = .ok (.iconst 2, 1) := by decide +kernel
theorem dX7_logicPair_63 : decode cX7_logicPair 63 = .ok (.goto 4, 3) := by decide +kernel
theorem dX7_logicPair_66 : decode cX7_logicPair 66 = .ok (.iconst 1, 1) := by decide +kernel
theorem dX7_logicPair_67 : decode cX7_logicPair 67 = .ok (.iload_n 2, 1) := by decide +kernel
theorem dX7_logicPair_68 : decode cX7_logicPair 68 = .ok (.invokestatic 188, 3) := by decide +kernel
theorem dX7_logicPair_71 : decode cX7_logicPair 71 = .ok (.ifCond .ne 5, 3) := by decide +kernel
theorem dX7_logicPair_74 : decode cX7_logicPair 74 = .ok (.iconst 0, 1) := by decide +kernel
theorem dX7_logicPair_75 : decode cX7_logicPair 75 = .ok (.ireturn, 1) := by decide +kernel
theorem dX7_logicPair_76 : decode cX7_logicPair 76 = .ok (.aload_n 0, 1) := by decide +kernel
theorem dX7_logicPair_77 : decode cX7_logicPair 77 = .ok (.aload_n 0, 1) := by decide +kernel
theorem dX7_logicPair_78 : decode cX7_logicPair 78 = .ok (.getfield 174, 3) := by decide +kernel
theorem dX7_logicPair_81 : decode cX7_logicPair 81 = .ok (.bipush 63, 2) := by decide +kernel
theorem dX7_logicPair_83 : decode cX7_logicPair 83 = .ok (.iand, 1) := by decide +kernel
theorem dX7_logicPair_84 : decode cX7_logicPair 84 = .ok (.iload_n 2, 1) := by decide +kernel
theorem dX7_logicPair_85 : decode cX7_logicPair 85 = .ok (.invokevirtual 192, 3) := by decide +kernel
theorem dX7_logicPair_88 : decode cX7_logicPair 88 = .ok (.iload_n 1, 1) := by decide +kernel
theorem dX7_logicPair_89 : decode cX7_logicPair 89 = .ok (.aload_n 0, 1) := by decide +kernel
theorem dX7_logicPair_90 : decode cX7_logicPair 90 = .ok (.iload_n 2, 1) := by decide +kernel
theorem dX7_logicPair_91 : decode cX7_logicPair 91 = .ok (.invokevirtual 195, 3) := by decide +kernel
theorem dX7_logicPair_94 : decode cX7_logicPair 94 = .ok (.aload_n 0, 1) := by decide +kernel
theorem dX7_logicPair_95 : decode cX7_logicPair 95 = .ok (.getfield 13, 3) := by decide +kernel
theorem dX7_logicPair_98 : decode cX7_logicPair 98 = .ok (.iload 4, 2) := by decide +kernel
theorem dX7_logicPair_100 : decode cX7_logicPair 100 = .ok (.iaload, 1) := by decide +kernel
theorem dX7_logicPair_101 : decode cX7_logicPair 101 = .ok (.invokestatic 181, 3) := by decide +kernel
theorem dX7_logicPair_104 : decode cX7_logicPair 104 = .ok (.istore 5, 2) := by decide +kernel
theorem dX7_logicPair_106 : decode cX7_logicPair 106 = .ok (.aload_n 0, 1) := by decide +kernel
theorem dX7_logicPair_107 : decode cX7_logicPair 107 = .ok (.iload 5, 2) := by decide +kernel
theorem dX7_logicPair_109 : decode cX7_logicPair 109 = .ok (.iload_n 2, 1) := by decide +kernel
theorem dX7_logicPair_110 : decode cX7_logicPair 110 = .ok (.invokevirtual 214, 3) := by decide +kernel
theorem dX7_logicPair_113 : decode cX7_logicPair 113 = .ok (.iload_n 3, 1) := by decide +kernel
theorem dX7_logicPair_114 : decode cX7_logicPair 114 = .ok (.ifCond .eq 13, 3) := by decide +kernel
theorem dX7_logicPair_117 : decode cX7_logicPair 117 = .ok (.aload_n 0, 1) := by decide +kernel
theorem dX7_logicPair_118 : decode cX7_logicPair 118 = .ok (.iload 5, 2) := by decide +kernel
theorem dX7_logicPair_120 : decode cX7_logicPair 120 = .ok (.iload_n 2, 1) := by decide +kernel
theorem dX7_logicPair_121 : decode cX7_logicPair 121 = .ok (.invokevirtual 198, 3) := by decide +kernel
theorem dX7_logicPair_124 : decode cX7_logicPair 124 = .ok (.goto 30, 3) := by decide +kernel
theorem dX7_logicPair_127 : decode cX7_logicPair 127 = .ok (.aload_n 0, 1) := by decide +kernel
theorem dX7_logicPair_128 : decode cX7_logicPair 128 = .ok (.getfield 100, 3) := by decide +kernel
theorem dX7_logicPair_131 : decode cX7_logicPair 131 = .ok (.ifCond .ne 23, 3) := by decide +kernel
theorem dX7_logicPair_134 : decode cX7_logicPair 134 = .ok (.aload_n 0, 1) := by decide +kernel
theorem dX7_logicPair_135 : decode cX7_logicPair 135 = .ok (.getfield 13, 3) := by decide +kernel
theorem dX7_logicPair_138 : decode cX7_logicPair 138 = .ok (.iload 4, 2) := by decide +kernel
theorem dX7_logicPair_140 : decode cX7_logicPair 140 = .ok (.aload_n 0, 1) := by decide +kernel
theorem dX7_logicPair_141 : decode cX7_logicPair 141 = .ok (.getfield 13, 3) := by decide +kernel
theorem dX7_logicPair_144 : decode cX7_logicPair 144 = .ok (.iload 4, 2) := by decide +kernel
theorem dX7_logicPair_146 : decode cX7_logicPair 146 = .ok (.iaload, 1) := by decide +kernel
theorem dX7_logicPair_147 : decode cX7_logicPair 147 = .ok (.iload 5, 2) := by decide +kernel
theorem dX7_logicPair_149 : decode cX7_logicPair 149 = .ok (.iload_n 2, 1) := by decide +kernel
theorem dX7_logicPair_150 : decode cX7_logicPair 150 = .ok (.invokestatic 150, 3) := by decide +kernel
theorem dX7_logicPair_153 : decode cX7_logicPair 153 = .ok (.iastore, 1) := by decide +kernel
theorem dX7_logicPair_154 : decode cX7_logicPair 154 = .ok (.iconst 1, 1) := by decide +kernel
theorem dX7_logicPair_155 : decode cX7_logicPair 155 = .ok (.ireturn, 1) := by decide +kernel
theorem dX7_group8or12_0 : decode cX7_group8or12 0 = .ok (.aload_n 0, 1) := by decide +kernel
theorem dX7_group8or12_1 : decode cX7_group8or12 1 = .ok (.getfield 174, 3) := by decide +kernel
theorem dX7_group8or12_4 : decode cX7_group8or12 4 = .ok (.bipush 6, 2) := by decide +kernel
theorem dX7_group8or12_6 : decode cX7_group8or12 6 = .ok (.ishr, 1) := by decide +kernel
theorem dX7_group8or12_7 : decode cX7_group8or12 7 = .ok (.iconst 3, 1) := by decide +kernel
theorem dX7_group8or12_8 : decode cX7_group8or12 8 = .ok (.iand, 1) := by decide +kernel
theorem dX7_group8or12_9 : decode cX7_group8or12 9 = .ok (.istore_n 2, 1) := by decide +kernel
theorem dX7_group8or12_10 : decode cX7_group8or12 10 = .ok (.aload_n 0, 1) := by decide +kernel
theorem dX7_group8or12_11 : decode cX7_group8or12 11 = .ok (.getfield 174, 3) := by decide +kernel
theorem dX7_group8or12_14 : decode cX7_group8or12 14 = .ok (.sipush 256, 3) := by decide +kernel
theorem dX7_group8or12_17 : decode cX7_group8or12 17 = .ok (.iand, 1) := by decide +kernel
theorem dX7_group8or12_18 : decode cX7_group8or12 18 = .ok (.ifCond .eq 7, 3) := by decide +kernel
theorem dX7_group8or12_21 : decode cX7_group8or12 21 = .ok (.iconst 1, 1) := by decide +kernel
theorem dX7_group8or12_22 : decode cX7_group8or12 22 = .ok (.goto 4, 3) := by decide +kernel
theorem dX7_group8or12_25 : decode cX7_group8or12 25 = .ok (.iconst 0, 1) := by decide +kernel
theorem dX7_group8or12_26 : decode cX7_group8or12 26 = .ok (.istore_n 3, 1) := by decide +kernel
theorem dX7_group8or12_27 : decode cX7_group8or12 27 = .ok (.iload_n 2, 1) := by decide +kernel
theorem dX7_group8or12_28 : decode cX7_group8or12 28 = .ok (.iconst 3, 1) := by decide +kernel
theorem dX7_group8or12_29 : decode cX7_group8or12 29 = .ok (.if_icmp .ne 21, 3) := by decide +kernel
theorem dX7_group8or12_32 : decode cX7_group8or12 32 = .ok (.iload_n 1, 1) := by decide +kernel
theorem dX7_group8or12_33 : decode cX7_group8or12 33 = .ok (.ifCond .eq 11, 3) := by decide +kernel
theorem dX7_group8or12_36 : decode cX7_group8or12 36 = .ok (.aload_n 0, 1) := by decide +kernel
theorem dX7_group8or12_37 : decode cX7_group8or12 37 = .ok (.iload_n 3, 1) := by decide +kernel
theorem dX7_group8or12_38 : decode cX7_group8or12 38 = .ok (.invokevirtual 282, 3) := by decide +kernel
theorem dX7_group8or12_41 : decode cX7_group8or12 41 = .ok (.goto 8, 3) := by decide +kernel
theorem dX7_group8or12_44 : decode cX7_group8or12 44 = .ok (.aload_n 0, 1) := by decide +kernel
theorem dX7_group8or12_45 : decode cX7_group8or12 45 = .ok (.iload_n 3, 1) := by decide +kernel
theorem dX7_group8or12_46 : decode cX7_group8or12 46 = .ok (.invokevirtual 285, 3) := by decide +kernel
theorem dX7_group8or12_49 : decode cX7_group8or12 49 = .ok (.ireturn, 1) := by decide +kernel
theorem dX7_group8or12_50 : decode cX7_group8or12 50 = .ok (.iload_n 3, 1) := by decide +kernel
theorem dX7_group8or12_51 : decode cX7_group8or12 51 = .ok (.ifCond .eq 28, 3) := by decide +kernel
theorem dX7_group8or12_54 : decode cX7_group8or12 54 = .ok (.aload_n 0, 1) := by decide +kernel
theorem dX7_group8or12_55 : decode cX7_group8or12 55 = .ok (.getfield 174, 3) := by decide +kernel
theorem dX7_group8or12_58 : decode cX7_group8or12 58 = .ok (.sipush 240, 3) := by decide +kernel
theorem dX7_group8or12_61 : decode cX7_group8or12 61 = .ok (.iand, 1) := by decide +kernel
theorem dX7_group8or12_62 : decode cX7_group8or12 62 = .ok (.ifCond .ne 17, 3) := by decide +kernel
theorem dX7_group8or12_65 : decode cX7_group8or12 65 = .ok (.aload_n 0, 1) := by decide +kernel
theorem dX7_group8or12_66 : decode cX7_group8or12 66 = .ok (.iload_n 1, 1) := by decide +kernel
theorem dX7_group8or12_67 : decode cX7_group8or12 67 = .ok (.ifCond .ne 7, 3) := by decide +kernel
theorem dX7_group8or12_70 : decode cX7_group8or12 70 = .ok (.iconst 1, 1) := by decide +kernel
theorem dX7_group8or12_71 : decode cX7_group8or12 71 = .ok (.goto 4, 3) := by decide +kernel
theorem dX7_group8or12_74 : decode cX7_group8or12 74 = .ok (.iconst 0, 1) := by decide +kernel
theorem dX7_group8or12_75 : decode cX7_group8or12 75 = .ok (.invokevirtual 288, 3) := by decide +kernel
theorem dX7_group8or12_78 : decode cX7_group8or12 78 = .ok (.ireturn, 1) := by decide +kernel
theorem dX7_group8or12_79 : decode cX7_group8or12 79 = .ok (.aload_n 0, 1) := by decide +kernel
theorem dX7_group8or12_80 : decode cX7_group8or12 80 = .ok (.getfield 174, 3) := by decide +kernel
theorem dX7_group8or12_83 : decode cX7_group8or12 83 = .ok (.sipush 504, 3) := by decide +kernel
theorem dX7_group8or12_86 : decode cX7_group8or12 86 = .ok (.iand, 1) := by decide +kernel
theorem dX7_group8or12_87 : decode cX7_group8or12 87 = .ok (.istore 4, 2) := by decide +kernel
theorem dX7_group8or12_89 : decode cX7_group8or12 89 = .ok (.aload_n 0, 1) := by decide +kernel
theorem dX7_group8or12_90 : decode cX7_group8or12 90 = .ok (.getfield 174, 3) := by decide +kernel
theorem dX7_group8or12_93 : decode cX7_group8or12 93 = .ok (.bipush 9, 2) := by decide +kernel
theorem dX7_group8or12_95 : decode cX7_group8or12 95 = .ok (.ishr, 1) := by decide +kernel
theorem dX7_group8or12_96 : decode cX7_group8or12 96 = .ok (.bipush 7, 2) := by decide +kernel
theorem dX7_group8or12_98 : decode cX7_group8or12 98 = .ok (.iand, 1) := by decide +kernel
theorem dX7_group8or12_99 : decode cX7_group8or12 99 = .ok (.istore 5, 2) := by decide +kernel
theorem dX7_group8or12_101 : decode cX7_group8or12 101 = .ok (.aload_n 0, 1) := by decide +kernel
theorem dX7_group8or12_102 : decode cX7_group8or12 102 = .ok (.getfield 174, 3) := by decide +kernel
theorem dX7_group8or12_105 : decode cX7_group8or12 105 = .ok (.bipush 7, 2) := by decide +kernel
theorem dX7_group8or12_107 : decode cX7_group8or12 107 = .ok (.iand, 1) := by decide +kernel
theorem dX7_group8or12_108 : decode cX7_group8or12 108 = .ok (.istore 6, 2) := by decide +kernel
theorem dX7_group8or12_110 : decode cX7_group8or12 110 = .ok (.iload_n 1, 1) := by decide +kernel
theorem dX7_group8or12_111 : decode cX7_group8or12 111 = .ok (.ifCond .eq 89, 3) := by decide +kernel
theorem dX7_group8or12_114 : decode cX7_group8or12 114 = .ok (.iload 4, 2) := by decide +kernel
theorem dX7_group8or12_116 : decode cX7_group8or12 116 = .ok (.sipush 320, 3) := by decide +kernel
theorem dX7_group8or12_119 : decode cX7_group8or12 119 = .ok (.if_icmp .eq 11, 3) := by decide +kernel
theorem dX7_group8or12_122 : decode cX7_group8or12 122 = .ok (.iload 4, 2) := by decide +kernel
theorem dX7_group8or12_124 : decode cX7_group8or12 124 = .ok (.sipush 392, 3) := by decide +kernel
theorem dX7_group8or12_127 : decode cX7_group8or12 127 = .ok (.if_icmp .ne 73, 3) := by decide +kernel
theorem dX7_group8or12_130 : decode cX7_group8or12 130 = .ok (.aload_n 0, 1) := by decide +kernel
theorem dX7_group8or12_131 : decode cX7_group8or12 131 = .ok (.getfield 13, 3) := by decide +kernel
theorem dX7_group8or12_134 : decode cX7_group8or12 134 = .ok (.iload 5, 2) := by decide +kernel
theorem dX7_group8or12_136 : decode cX7_group8or12 136 = .ok (.iaload, 1) := by decide +kernel
theorem dX7_group8or12_137 : decode cX7_group8or12 137 = .ok (.istore 7, 2) := by decide +kernel
theorem dX7_group8or12_139 : decode cX7_group8or12 139 = .ok (.aload_n 0, 1) := by decide +kernel
theorem dX7_group8or12_140 : decode cX7_group8or12 140 = .ok (.getfield 13, 3) := by decide +kernel
theorem dX7_group8or12_143 : decode cX7_group8or12 143 = .ok (.iload 5, 2) := by decide +kernel
theorem dX7_group8or12_145 : decode cX7_group8or12 145 = .ok (.iload 4, 2) := by decide +kernel
theorem dX7_group8or12_147 : decode cX7_group8or12 147 = .ok (.sipush 320, 3) := by decide +kernel
theorem dX7_group8or12_150 : decode cX7_group8or12 150 = .ok (.if_icmp .ne 13, 3) := by decide +kernel
theorem dX7_group8or12_153 : decode cX7_group8or12 153 = .ok (.aload_n 0, 1) := by decide +kernel
theorem dX7_group8or12_154 : decode cX7_group8or12 154 = .ok (.getfield 13, 3) := by decide +kernel
theorem dX7_group8or12_157 : decode cX7_group8or12 157 = .ok (.iload 6, 2) := by decide +kernel
theorem dX7_group8or12_159 : decode cX7_group8or12 159 = .ok (.iaload, 1) := by decide +kernel
theorem dX7_group8or12_160 : decode cX7_group8or12 160 = .ok (.goto 9, 3) := by decide +kernel
theorem dX7_group8or12_163 : decode cX7_group8or12 163 = .ok (.aload_n 0, 1) := by decide +kernel
theorem dX7_group8or12_164 : decode cX7_group8or12 164 = .ok (.iload 6, 2) := by decide +kernel
theorem dX7_group8or12_166 : decode cX7_group8or12 166 = .ok (.invokevirtual 70, 3) := by decide +kernel
theorem dX7_group8or12_169 : decode cX7_group8or12 169 = .ok (.iastore, 1) := by decide +kernel
theorem dX7_group8or12_170 : decode cX7_group8or12 170 = .ok (.iload 4, 2) := by decide +kernel
theorem dX7_group8or12_172 : decode cX7_group8or12 172 = .ok (.sipush 320, 3) := by decide +kernel
theorem dX7_group8or12_175 : decode cX7_group8or12 175 = .ok (.if_icmp .ne 15, 3) := by decide +kernel
theorem dX7_group8or12_178 : decode cX7_group8or12 178 = .ok (.aload_n 0, 1) := by decide +kernel
theorem dX7_group8or12_179 : decode cX7_group8or12 179 = .ok (.getfield 13, 3) := by decide +kernel
theorem dX7_group8or12_182 : decode cX7_group8or12 182 = .ok (.iload 6, 2) := by decide +kernel
theorem dX7_group8or12_184 : decode cX7_group8or12 184 = .ok (.iload 7, 2) := by decide +kernel
theorem dX7_group8or12_186 : decode cX7_group8or12 186 = .ok (.iastore, 1) := by decide +kernel
theorem dX7_group8or12_187 : decode cX7_group8or12 187 = .ok (.goto 11, 3) := by decide +kernel
theorem dX7_group8or12_190 : decode cX7_group8or12 190 = .ok (.aload_n 0, 1) := by decide +kernel
theorem dX7_group8or12_191 : decode cX7_group8or12 191 = .ok (.iload 6, 2) := by decide +kernel
theorem dX7_group8or12_193 : decode cX7_group8or12 193 = .ok (.iload 7, 2) := by decide +kernel
theorem dX7_group8or12_195 : decode cX7_group8or12 195 = .ok (.invokevirtual 74, 3) := by decide +kernel
theorem dX7_group8or12_198 : decode cX7_group8or12 198 = .ok (.iconst 1, 1) := by decide +kernel
theorem dX7_group8or12_199 : decode cX7_group8or12 199 = .ok (.ireturn, 1) := by decide +kernel
theorem dX7_group8or12_200 : decode cX7_group8or12 200 = .ok (.iload_n 1, 1) := by decide +kernel
theorem dX7_group8or12_201 : decode cX7_group8or12 201 = .ok (.ifCond .eq 41, 3) := by decide +kernel
theorem dX7_group8or12_204 : decode cX7_group8or12 204 = .ok (.iload 4, 2) := by decide +kernel
theorem dX7_group8or12_206 : decode cX7_group8or12 206 = .ok (.sipush 328, 3) := by decide +kernel
theorem dX7_group8or12_209 : decode cX7_group8or12 209 = .ok (.if_icmp .ne 33, 3) := by decide +kernel
theorem dX7_group8or12_212 : decode cX7_group8or12 212 = .ok (.aload_n 0, 1) := by decide +kernel
theorem dX7_group8or12_213 : decode cX7_group8or12 213 = .ok (.iload 5, 2) := by decide +kernel
theorem dX7_group8or12_215 : decode cX7_group8or12 215 = .ok (.invokevirtual 70, 3) := by decide +kernel
theorem dX7_group8or12_218 : decode cX7_group8or12 218 = .ok (.istore 7, 2) := by decide +kernel
theorem dX7_group8or12_220 : decode cX7_group8or12 220 = .ok (.aload_n 0, 1) := by decide +kernel
theorem dX7_group8or12_221 : decode cX7_group8or12 221 = .ok (.iload 5, 2) := by decide +kernel
theorem dX7_group8or12_223 : decode cX7_group8or12 223 = .ok (.aload_n 0, 1) := by decide +kernel
theorem dX7_group8or12_224 : decode cX7_group8or12 224 = .ok (.iload 6, 2) := by decide +kernel
theorem dX7_group8or12_226 : decode cX7_group8or12 226 = .ok (.invokevirtual 70, 3) := by decide +kernel
theorem dX7_group8or12_229 : decode cX7_group8or12 229 = .ok (.invokevirtual 74, 3) := by decide +kernel
theorem dX7_group8or12_232 : decode cX7_group8or12 232 = .ok (.aload_n 0, 1) := by decide +kernel
theorem dX7_group8or12_233 : decode cX7_group8or12 233 = .ok (.iload 6, 2) := by decide +kernel
theorem dX7_group8or12_235 : decode cX7_group8or12 235 = .ok (.iload 7, 2) := by decide +kernel
theorem dX7_group8or12_237 : decode cX7_group8or12 237 = .ok (.invokevirtual 74, 3) := by decide +kernel
theorem dX7_group8or12_240 : decode cX7_group8or12 240 = .ok (.iconst 1, 1) := by decide +kernel
theorem dX7_group8or12_241 : decode cX7_group8or12 241 = .ok (.ireturn, 1) := by decide +kernel
theorem dX7_group8or12_242 : decode cX7_group8or12 242 = .ok (.aload_n 0, 1) := by decide +kernel
theorem dX7_group8or12_243 : decode cX7_group8or12 243 = .ok (.iload_n 1, 1) := by decide +kernel
theorem dX7_group8or12_244 : decode cX7_group8or12 244 = .ok (.ifCond .eq 7, 3) := by decide +kernel
theorem dX7_group8or12_247 : decode cX7_group8or12 247 = .ok (.iconst 1, 1) := by decide +kernel
theorem dX7_group8or12_248 : decode cX7_group8or12 248 = .ok (.goto 4, 3) := by decide +kernel
theorem dX7_group8or12_251 : decode cX7_group8or12 251 = .ok (.iconst 0, 1) := by decide +kernel
theorem dX7_group8or12_252 : decode cX7_group8or12 252 = .ok (.invokevirtual 291, 3) := by decide +kernel
theorem dX7_group8or12_255 : decode cX7_group8or12 255 = .ok (.ireturn, 1) := by decide +kernel
theorem dX7_sumPair_0 : decode cX7_sumPair 0 = .ok (.aload_n 0, 1) := by decide +kernel
theorem dX7_sumPair_1 : decode cX7_sumPair 1 = .ok (.getfield 174, 3) := by decide +kernel
theorem dX7_sumPair_4 : decode cX7_sumPair 4 = .ok (.bipush 6, 2) := by decide +kernel
theorem dX7_sumPair_6 : decode cX7_sumPair 6 = .ok (.ishr, 1) := by decide +kernel
theorem dX7_sumPair_7 : decode cX7_sumPair 7 = .ok (.iconst 3, 1) := by decide +kernel
theorem dX7_sumPair_8 : decode cX7_sumPair 8 = .ok (.iand, 1) := by decide +kernel
theorem dX7_sumPair_9 : decode cX7_sumPair 9 = .ok (.istore_n 2, 1) := by decide +kernel
theorem dX7_sumPair_10 : decode cX7_sumPair 10 = .ok (.aload_n 0, 1) := by decide +kernel
theorem dX7_sumPair_11 : decode cX7_sumPair 11 = .ok (.getfield 174, 3) := by decide +kernel
theorem dX7_sumPair_14 : decode cX7_sumPair 14 = .ok (.sipush 256, 3) := by decide +kernel
theorem dX7_sumPair_17 : decode cX7_sumPair 17 = .ok (.iand, 1) := by decide +kernel
theorem dX7_sumPair_18 : decode cX7_sumPair 18 = .ok (.ifCond .eq 7, 3) := by decide +kernel
theorem dX7_sumPair_21 : decode cX7_sumPair 21 = .ok (.iconst 1, 1) := by decide +kernel
theorem dX7_sumPair_22 : decode cX7_sumPair 22 = .ok (.goto 4, 3) := by decide +kernel
theorem dX7_sumPair_25 : decode cX7_sumPair 25 = .ok (.iconst 0, 1) := by decide +kernel
theorem dX7_sumPair_26 : decode cX7_sumPair 26 = .ok (.istore_n 3, 1) := by decide +kernel
theorem dX7_sumPair_27 : decode cX7_sumPair 27 = .ok (.aload_n 0, 1) := by decide +kernel
theorem dX7_sumPair_28 : decode cX7_sumPair 28 = .ok (.getfield 174, 3) := by decide +kernel
theorem dX7_sumPair_31 : decode cX7_sumPair 31 = .ok (.bipush 9, 2) := by decide +kernel
theorem dX7_sumPair_33 : decode cX7_sumPair 33 = .ok (.ishr, 1) := by decide +kernel
theorem dX7_sumPair_34 : decode cX7_sumPair 34 = .ok (.bipush 7, 2) := by decide +kernel
theorem dX7_sumPair_36 : decode cX7_sumPair 36 = .ok (.iand, 1) := by decide +kernel
theorem dX7_sumPair_37 : decode cX7_sumPair 37 = .ok (.istore 4, 2) := by decide +kernel
theorem dX7_sumPair_39 : decode cX7_sumPair 39 = .ok (.iload_n 2, 1) := by decide +kernel
theorem dX7_sumPair_40 : decode cX7_sumPair 40 = .ok (.iconst 3, 1) := by decide +kernel
theorem dX7_sumPair_41 : decode cX7_sumPair 41 = .ok (.if_icmp .ne 91, 3) := by decide +kernel
theorem dX7_sumPair_44 : decode cX7_sumPair 44 = .ok (.iload_n 3, 1) := by decide +kernel
theorem dX7_sumPair_45 : decode cX7_sumPair 45 = .ok (.ifCond .eq 7, 3) := by decide +kernel
theorem dX7_sumPair_48 : decode cX7_sumPair 48 = .ok (.iconst 4, 1) := by decide +kernel
theorem dX7_sumPair_49 : decode cX7_sumPair 49 = .ok (.goto 4, 3) := by decide +kernel
theorem dX7_sumPair_52 : decode cX7_sumPair 52 = .ok (.iconst 2, 1) := by decide +kernel
theorem dX7_sumPair_53 : decode cX7_sumPair 53 = .ok (.istore 5, 2) := by decide +kernel
theorem dX7_sumPair_55 : decode cX7_sumPair 55 = .ok (.aload_n 0, 1) := by decide +kernel
theorem dX7_sumPair_56 : decode cX7_sumPair 56 = .ok (.getfield 174, 3) := by decide +kernel
theorem dX7_sumPair_59 : decode cX7_sumPair 59 = .ok (.bipush 63, 2) := by decide +kernel
theorem dX7_sumPair_61 : decode cX7_sumPair 61 = .ok (.iand, 1) := by decide +kernel
theorem dX7_sumPair_62 : decode cX7_sumPair 62 = .ok (.iconst 0, 1) := by decide +kernel
theorem dX7_sumPair_63 : decode cX7_sumPair 63 = .ok (.iload 5, 2) := by decide +kernel
theorem dX7_sumPair_65 : decode cX7_sumPair 65 = .ok (.invokestatic 188, 3) := by decide +kernel
theorem dX7_sumPair_68 : decode cX7_sumPair 68 = .ok (.ifCond .ne 5, 3) := by decide +kernel
theorem dX7_sumPair_71 : decode cX7_sumPair 71 = .ok (.iconst 0, 1) := by decide +kernel
theorem dX7_sumPair_72 : decode cX7_sumPair 72 = .ok (.ireturn, 1) := by decide +kernel
theorem dX7_sumPair_73 : decode cX7_sumPair 73 = .ok (.aload_n 0, 1) := by decide +kernel
theorem dX7_sumPair_74 : decode cX7_sumPair 74 = .ok (.aload_n 0, 1) := by decide +kernel
theorem dX7_sumPair_75 : decode cX7_sumPair 75 = .ok (.getfield 174, 3) := by decide +kernel
theorem dX7_sumPair_78 : decode cX7_sumPair 78 = .ok (.bipush 63, 2) := by decide +kernel
theorem dX7_sumPair_80 : decode cX7_sumPair 80 = .ok (.iand, 1) := by decide +kernel
theorem dX7_sumPair_81 : decode cX7_sumPair 81 = .ok (.iload 5, 2) := by decide +kernel
theorem dX7_sumPair_83 : decode cX7_sumPair 83 = .ok (.invokevirtual 192, 3) := by decide +kernel
theorem dX7_sumPair_86 : decode cX7_sumPair 86 = .ok (.aload_n 0, 1) := by decide +kernel
theorem dX7_sumPair_87 : decode cX7_sumPair 87 = .ok (.iload 5, 2) := by decide +kernel
theorem dX7_sumPair_89 : decode cX7_sumPair 89 = .ok (.invokevirtual 195, 3) := by decide +kernel
theorem dX7_sumPair_92 : decode cX7_sumPair 92 = .ok (.iload 5, 2) := by decide +kernel
theorem dX7_sumPair_94 : decode cX7_sumPair 94 = .ok (.invokestatic 157, 3) := by decide +kernel
theorem dX7_sumPair_97 : decode cX7_sumPair 97 = .ok (.istore 6, 2) := by decide +kernel
theorem dX7_sumPair_99 : decode cX7_sumPair 99 = .ok (.aload_n 0, 1) := by decide +kernel
theorem dX7_sumPair_100 : decode cX7_sumPair 100 = .ok (.iload 4, 2) := by decide +kernel
theorem dX7_sumPair_102 : decode cX7_sumPair 102 = .ok (.iload_n 1, 1) := by decide +kernel
theorem dX7_sumPair_103 : decode cX7_sumPair 103 = .ok (.ifCond .eq 15, 3) := by decide +kernel
theorem dX7_sumPair_106 : decode cX7_sumPair 106 = .ok (.aload_n 0, 1) := by decide +kernel
theorem dX7_sumPair_107 : decode cX7_sumPair 107 = .ok (.iload 4, 2) := by decide +kernel
theorem dX7_sumPair_109 : decode cX7_sumPair 109 = .ok (.invokevirtual 70, 3) := by decide +kernel
theorem dX7_sumPair_112 : decode cX7_sumPair 112 = .ok (.iload 6, 2) := by decide +kernel
theorem dX7_sumPair_114 : decode cX7_sumPair 114 = .ok (.isub, 1) := by decide +kernel
theorem dX7_sumPair_115 : decode cX7_sumPair 115 = .ok (.goto 12, 3) := by decide +kernel
theorem dX7_sumPair_118 : decode cX7_sumPair 118 = .ok (.aload_n 0, 1) := by decide +kernel
theorem dX7_sumPair_119 : decode cX7_sumPair 119 = .ok (.iload 4, 2) := by decide +kernel
theorem dX7_sumPair_121 : decode cX7_sumPair 121 = .ok (.invokevirtual 70, 3) := by decide +kernel
theorem dX7_sumPair_124 : decode cX7_sumPair 124 = .ok (.iload 6, 2) := by decide +kernel
theorem dX7_sumPair_126 : decode cX7_sumPair 126 = .ok (.iadd, 1) := by decide +kernel
theorem dX7_sumPair_127 : decode cX7_sumPair 127 = .ok (.invokevirtual 74, 3) := by decide +kernel
theorem dX7_sumPair_130 : decode cX7_sumPair 130 = .ok (.iconst 1, 1) := by decide +kernel
theorem dX7_sumPair_131 : decode cX7_sumPair 131 = .ok (.ireturn, 1) := by decide +kernel
theorem dX7_sumPair_132 : decode cX7_sumPair 132 = .ok (.iload_n 2, 1) := by decide +kernel
theorem dX7_sumPair_133 : decode cX7_sumPair 133 = .ok (.invokestatic 211, 3) := by decide +kernel
theorem dX7_sumPair_136 : decode cX7_sumPair 136 = .ok (.istore 5, 2) := by decide +kernel
theorem dX7_sumPair_138 : decode cX7_sumPair 138 = .ok (.iload_n 3, 1) := by decide +kernel
theorem dX7_sumPair_139 : decode cX7_sumPair 139 = .ok (.ifCond .eq 54, 3) := by decide +kernel
theorem dX7_sumPair_142 : decode cX7_sumPair 142 = .ok (.aload_n 0, 1) := by decide +kernel
theorem dX7_sumPair_143 : decode cX7_sumPair 143 = .ok (.getfield 174, 3) := by decide +kernel
theorem dX7_sumPair_146 : decode cX7_sumPair 146 = .ok (.bipush 48, 2) := by decide +kernel
theorem dX7_sumPair_148 : decode cX7_sumPair 148 = .ok (.iand, 1) := by decide +kernel
theorem dX7_sumPair_149 : decode cX7_sumPair 149 = .ok (.ifCond .ne 44, 3) := by decide +kernel
theorem dX7_sumPair_152 : decode cX7_sumPair 152 = .ok (.aload_n 0, 1) := by decide +kernel
theorem dX7_sumPair_153 : decode cX7_sumPair 153 = .ok (.iload 5, 2) := by decide +kernel
theorem dX7_sumPair_155 : decode cX7_sumPair 155 = .ok (.invokevirtual 276, 3) := by decide +kernel
theorem dX7_sumPair_158 : decode cX7_sumPair 158 = .ok (.istore 6, 2) := by decide +kernel
theorem dX7_sumPair_160 : decode cX7_sumPair 160 = .ok (.aload_n 0, 1) := by decide +kernel
theorem dX7_sumPair_161 : decode cX7_sumPair 161 = .ok (.iload 5, 2) := by decide +kernel
theorem dX7_sumPair_163 : decode cX7_sumPair 163 = .ok (.invokevirtual 195, 3) := by decide +kernel
theorem dX7_sumPair_166 : decode cX7_sumPair 166 = .ok (.istore 7, 2) := by decide +kernel
theorem dX7_sumPair_168 : decode cX7_sumPair 168 = .ok (.aload_n 0, 1) := by decide +kernel
theorem dX7_sumPair_169 : decode cX7_sumPair 169 = .ok (.aload_n 0, 1) := by decide +kernel
theorem dX7_sumPair_170 : decode cX7_sumPair 170 = .ok (.iload 7, 2) := by decide +kernel
theorem dX7_sumPair_172 : decode cX7_sumPair 172 = .ok (.iload 6, 2) := by decide +kernel
theorem dX7_sumPair_174 : decode cX7_sumPair 174 = .ok (.aload_n 0, 1) := by decide +kernel
theorem dX7_sumPair_175 : decode cX7_sumPair 175 = .ok (.invokevirtual 171, 3) := by decide +kernel
theorem dX7_sumPair_178 : decode cX7_sumPair 178 = .ok (.iload_n 1, 1) := by decide +kernel
theorem dX7_sumPair_179 : decode cX7_sumPair 179 = .ok (.iload 5, 2) := by decide +kernel
theorem dX7_sumPair_181 : decode cX7_sumPair 181 = .ok (.iconst 1, 1) := by decide +kernel
theorem dX7_sumPair_182 : decode cX7_sumPair 182 = .ok (.iconst 1, 1) := by decide +kernel
theorem dX7_sumPair_183 : decode cX7_sumPair 183 = .ok (.invokevirtual 167, 3) := by decide +kernel
theorem dX7_sumPair_186 : decode cX7_sumPair 186 = .ok (.iload 5, 2) := by decide +kernel
theorem dX7_sumPair_188 : decode cX7_sumPair 188 = .ok (.invokevirtual 198, 3) := by decide +kernel
theorem dX7_sumPair_191 : decode cX7_sumPair 191 = .ok (.iconst 1, 1) := by decide +kernel
theorem dX7_sumPair_192 : decode cX7_sumPair 192 = .ok (.ireturn, 1) := by decide +kernel
theorem dX7_sumPair_193 : decode cX7_sumPair 193 = .ok (.aload_n 0, 1) := by decide +kernel
theorem dX7_sumPair_194 : decode cX7_sumPair 194 = .ok (.getfield 174, 3) := by decide +kernel
theorem dX7_sumPair_197 : decode cX7_sumPair 197 = .ok (.bipush 63, 2) := by decide +kernel
theorem dX7_sumPair_199 : decode cX7_sumPair 199 = .ok (.iand, 1) := by decide +kernel
theorem dX7_sumPair_200 : decode cX7_sumPair 200 = .ok (.iload_n 3, 1) := by decide +kernel
theorem dX7_sumPair_201 : decode cX7_sumPair 201 = .ok (.ifCond .eq 7, 3) := by decide +kernel
theorem dX7_sumPair_204 : decode cX7_sumPair 204 = .ok (.iconst 2, 1) := by decide +kernel
theorem dX7_sumPair_205 : decode cX7_sumPair 205 = .ok (.goto 4, 3) := by decide +kernel
theorem dX7_sumPair_208 : decode cX7_sumPair 208 = .ok (.iconst 0, 1) := by decide +kernel
theorem dX7_sumPair_209 : decode cX7_sumPair 209 = .ok (.iload 5, 2) := by decide +kernel
theorem dX7_sumPair_211 : decode cX7_sumPair 211 = .ok (.invokestatic 188, 3) := by decide +kernel
theorem dX7_sumPair_214 : decode cX7_sumPair 214 = .ok (.ifCond .ne 5, 3) := by decide +kernel
theorem dX7_sumPair_217 : decode cX7_sumPair 217 = .ok (.iconst 0, 1) := by decide +kernel
theorem dX7_sumPair_218 : decode cX7_sumPair 218 = .ok (.ireturn, 1) := by decide +kernel
theorem dX7_sumPair_219 : decode cX7_sumPair 219 = .ok (.aload_n 0, 1) := by decide +kernel
theorem dX7_sumPair_220 : decode cX7_sumPair 220 = .ok (.aload_n 0, 1) := by decide +kernel
theorem dX7_sumPair_221 : decode cX7_sumPair 221 = .ok (.getfield 174, 3) := by decide +kernel
theorem dX7_sumPair_224 : decode cX7_sumPair 224 = .ok (.bipush 63, 2) := by decide +kernel
theorem dX7_sumPair_226 : decode cX7_sumPair 226 = .ok (.iand, 1) := by decide +kernel
theorem dX7_sumPair_227 : decode cX7_sumPair 227 = .ok (.iload 5, 2) := by decide +kernel
theorem dX7_sumPair_229 : decode cX7_sumPair 229 = .ok (.invokevirtual 192, 3) := by decide +kernel
theorem dX7_sumPair_232 : decode cX7_sumPair 232 = .ok (.aload_n 0, 1) := by decide +kernel
theorem dX7_sumPair_233 : decode cX7_sumPair 233 = .ok (.iload 5, 2) := by decide +kernel
theorem dX7_sumPair_235 : decode cX7_sumPair 235 = .ok (.invokevirtual 195, 3) := by decide +kernel
theorem dX7_sumPair_238 : decode cX7_sumPair 238 = .ok (.istore 6, 2) := by decide +kernel
theorem dX7_sumPair_240 : decode cX7_sumPair 240 = .ok (.iload_n 3, 1) := by decide +kernel
theorem dX7_sumPair_241 : decode cX7_sumPair 241 = .ok (.ifCond .eq 25, 3) := by decide +kernel
theorem dX7_sumPair_244 : decode cX7_sumPair 244 = .ok (.aload_n 0, 1) := by decide +kernel
theorem dX7_sumPair_245 : decode cX7_sumPair 245 = .ok (.iload 6, 2) := by decide +kernel
theorem dX7_sumPair_247 : decode cX7_sumPair 247 = .ok (.aload_n 0, 1) := by decide +kernel
theorem dX7_sumPair_248 : decode cX7_sumPair 248 = .ok (.getfield 13, 3) := by decide +kernel
theorem dX7_sumPair_251 : decode cX7_sumPair 251 = .ok (.iload 4, 2) := by decide +kernel
theorem dX7_sumPair_253 : decode cX7_sumPair 253 = .ok (.iaload, 1) := by decide +kernel
theorem dX7_sumPair_254 : decode cX7_sumPair 254 = .ok (.iconst 0, 1) := by decide +kernel
theorem dX7_sumPair_255 : decode cX7_sumPair 255 = .ok (.iload_n 1, 1) := by decide +kernel
theorem dX7_sumPair_256 : decode cX7_sumPair 256 = .ok (.iload 5, 2) := by decide +kernel
theorem dX7_sumPair_258 : decode cX7_sumPair 258 = .ok (.iconst 1, 1) := by decide +kernel
theorem dX7_sumPair_259 : decode cX7_sumPair 259 = .ok (.iconst 0, 1) := by decide +kernel
theorem dX7_sumPair_260 : decode cX7_sumPair 260 = .ok (.invokevirtual 167, 3) := by decide +kernel
theorem dX7_sumPair_263 : decode cX7_sumPair 263 = .ok (.goto 22, 3) := by decide +kernel
theorem dX7_sumPair_266 : decode cX7_sumPair 266 = .ok (.aload_n 0, 1) := by decide +kernel
theorem dX7_sumPair_267 : decode cX7_sumPair 267 = .ok (.aload_n 0, 1) := by decide +kernel
theorem dX7_sumPair_268 : decode cX7_sumPair 268 = .ok (.getfield 13, 3) := by decide +kernel
theorem dX7_sumPair_271 : decode cX7_sumPair 271 = .ok (.iload 4, 2) := by decide +kernel
theorem dX7_sumPair_273 : decode cX7_sumPair 273 = .ok (.iaload, 1) := by decide +kernel
theorem dX7_sumPair_274 : decode cX7_sumPair 274 = .ok (.iload 6, 2) := by decide +kernel
theorem dX7_sumPair_276 : decode cX7_sumPair 276 = .ok (.iconst 0, 1) := by decide +kernel
theorem dX7_sumPair_277 : decode cX7_sumPair 277 = .ok (.iload_n 1, 1) := by decide +kernel
theorem dX7_sumPair_278 : decode cX7_sumPair 278 = .ok (.iload 5, 2) := by decide +kernel
theorem dX7_sumPair_280 : decode cX7_sumPair 280 = .ok (.iconst 1, 1) := by decide +kernel
theorem dX7_sumPair_281 : decode cX7_sumPair 281 = .ok (.iconst 0, 1) := by decide +kernel
theorem dX7_sumPair_282 : decode cX7_sumPair 282 = .ok (.invokevirtual 167, 3) := by decide +kernel
theorem dX7_sumPair_285 : decode cX7_sumPair 285 = .ok (.istore 7, 2) := by decide +kernel
theorem dX7_sumPair_287 : decode cX7_sumPair 287 = .ok (.iload_n 3, 1) := by decide +kernel
theorem dX7_sumPair_288 : decode cX7_sumPair 288 = .ok (.ifCond .eq 14, 3) := by decide +kernel
theorem dX7_sumPair_291 : decode cX7_sumPair 291 = .ok (.aload_n 0, 1) := by decide +kernel
theorem dX7_sumPair_292 : decode cX7_sumPair 292 = .ok (.iload 7, 2) := by decide +kernel
theorem dX7_sumPair_294 : decode cX7_sumPair 294 = .ok (.iload 5, 2) := by decide +kernel
theorem dX7_sumPair_296 : decode cX7_sumPair 296 = .ok (.invokevirtual 198, 3) := by decide +kernel
theorem dX7_sumPair_299 : decode cX7_sumPair 299 = .ok (.goto 31, 3) := by decide +kernel
theorem dX7_sumPair_302 : decode cX7_sumPair 302 = .ok (.aload_n 0, 1) := by decide +kernel
theorem dX7_sumPair_303 : decode cX7_sumPair 303 = .ok (.getfield 100, 3) := by decide +kernel
theorem dX7_sumPair_306 : decode cX7_sumPair 306 = .ok (.ifCond .ne 24, 3) := by decide +kernel
theorem dX7_sumPair_309 : decode cX7_sumPair 309 = .ok (.aload_n 0, 1) := by decide +kernel
theorem dX7_sumPair_310 : decode cX7_sumPair 310 = .ok (.getfield 13, 3) := by decide +kernel
theorem dX7_sumPair_313 : decode cX7_sumPair 313 = .ok (.iload 4, 2) := by decide +kernel
theorem dX7_sumPair_315 : decode cX7_sumPair 315 = .ok (.aload_n 0, 1) := by decide +kernel
theorem dX7_sumPair_316 : decode cX7_sumPair 316 = .ok (.getfield 13, 3) := by decide +kernel
theorem dX7_sumPair_319 : decode cX7_sumPair 319 = .ok (.iload 4, 2) := by decide +kernel
theorem dX7_sumPair_321 : decode cX7_sumPair 321 = .ok (.iaload, 1) := by decide +kernel
theorem dX7_sumPair_322 : decode cX7_sumPair 322 = .ok (.iload 7, 2) := by decide +kernel
theorem dX7_sumPair_324 : decode cX7_sumPair 324 = .ok (.iload 5, 2) := by decide +kernel
theorem dX7_sumPair_326 : decode cX7_sumPair 326 = .ok (.invokestatic 150, 3) := by decide +kernel
theorem dX7_sumPair_329 : decode cX7_sumPair 329 = .ok (.iastore, 1) := by decide +kernel
theorem dX7_sumPair_330 : decode cX7_sumPair 330 = .ok (.iconst 1, 1) := by decide +kernel
theorem dX7_sumPair_331 : decode cX7_sumPair 331 = .ok (.ireturn, 1) := by decide +kernel
theorem dX7_group11_0 : decode cX7_group11 0 = .ok (.aload_n 0, 1) := by decide +kernel
theorem dX7_group11_1 : decode cX7_group11 1 = .ok (.getfield 174, 3) := by decide +kernel
theorem dX7_group11_4 : decode cX7_group11 4 = .ok (.bipush 6, 2) := by decide +kernel
theorem dX7_group11_6 : decode cX7_group11 6 = .ok (.ishr, 1) := by decide +kernel
theorem dX7_group11_7 : decode cX7_group11 7 = .ok (.iconst 3, 1) := by decide +kernel
theorem dX7_group11_8 : decode cX7_group11 8 = .ok (.iand, 1) := by decide +kernel
theorem dX7_group11_9 : decode cX7_group11 9 = .ok (.istore_n 1, 1) := by decide +kernel
theorem dX7_group11_10 : decode cX7_group11 10 = .ok (.aload_n 0, 1) := by decide +kernel
theorem dX7_group11_11 : decode cX7_group11 11 = .ok (.getfield 174, 3) := by decide +kernel
theorem dX7_group11_14 : decode cX7_group11 14 = .ok (.sipush 256, 3) := by decide +kernel
theorem dX7_group11_17 : decode cX7_group11 17 = .ok (.iand, 1) := by decide +kernel
theorem dX7_group11_18 : decode cX7_group11 18 = .ok (.ifCond .eq 7, 3) := by decide +kernel
theorem dX7_group11_21 : decode cX7_group11 21 = .ok (.iconst 1, 1) := by decide +kernel
theorem dX7_group11_22 : decode cX7_group11 22 = .ok (.goto 4, 3) := by decide +kernel
theorem dX7_group11_25 : decode cX7_group11 25 = .ok (.iconst 0, 1) := by decide +kernel
theorem dX7_group11_26 : decode cX7_group11 26 = .ok (.istore_n 2, 1) := by decide +kernel
theorem dX7_group11_27 : decode cX7_group11 27 = .ok (.aload_n 0, 1) := by decide +kernel
theorem dX7_group11_28 : decode cX7_group11 28 = .ok (.getfield 174, 3) := by decide +kernel
theorem dX7_group11_31 : decode cX7_group11 31 = .ok (.bipush 9, 2) := by decide +kernel
theorem dX7_group11_33 : decode cX7_group11 33 = .ok (.ishr, 1) := by decide +kernel
theorem dX7_group11_34 : decode cX7_group11 34 = .ok (.bipush 7, 2) := by decide +kernel
theorem dX7_group11_36 : decode cX7_group11 36 = .ok (.iand, 1) := by decide +kernel
theorem dX7_group11_37 : decode cX7_group11 37 = .ok (.istore_n 3, 1) := by decide +kernel
theorem dX7_group11_38 : decode cX7_group11 38 = .ok (.iload_n 1, 1) := by decide +kernel
theorem dX7_group11_39 : decode cX7_group11 39 = .ok (.iconst 3, 1) := by decide +kernel
theorem dX7_group11_40 : decode cX7_group11 40 = .ok (.if_icmp .ge 26, 3) := by decide +kernel
theorem dX7_group11_43 : decode cX7_group11 43 = .ok (.iload_n 2, 1) := by decide +kernel
theorem dX7_group11_44 : decode cX7_group11 44 = .ok (.ifCond .eq 22, 3) := by decide +kernel
theorem dX7_group11_47 : decode cX7_group11 47 = .ok (.aload_n 0, 1) := by decide +kernel
theorem dX7_group11_48 : decode cX7_group11 48 = .ok (.getfield 174, 3) := by decide +kernel
theorem dX7_group11_51 : decode cX7_group11 51 = .ok (.iconst 3, 1) := by decide +kernel
theorem dX7_group11_52 : decode cX7_group11 52 = .ok (.ishr, 1) := by decide +kernel
theorem dX7_group11_53 : decode cX7_group11 53 = .ok (.bipush 7, 2) := by decide +kernel
theorem dX7_group11_55 : decode cX7_group11 55 = .ok (.iand, 1) := by decide +kernel
theorem dX7_group11_56 : decode cX7_group11 56 = .ok (.iconst 1, 1) := by decide +kernel
theorem dX7_group11_57 : decode cX7_group11 57 = .ok (.if_icmp .eq 9, 3) := by decide +kernel
theorem dX7_group11_60 : decode cX7_group11 60 = .ok (.aload_n 0, 1) := by decide +kernel
theorem dX7_group11_61 : decode cX7_group11 61 = .ok (.iconst 2, 1) := by decide +kernel
theorem dX7_group11_62 : decode cX7_group11 62 = .ok (.invokevirtual 291, 3) := by decide +kernel
theorem dX7_group11_65 : decode cX7_group11 65 = .ok (.ireturn, 1) := by decide +kernel
theorem dX7_group11_66 : decode cX7_group11 66 = .ok (.iload_n 1, 1) := by decide +kernel
theorem dX7_group11_67 : decode cX7_group11 67 = .ok (.iconst 3, 1) := by decide +kernel
theorem dX7_group11_68 : decode cX7_group11 68 = .ok (.if_icmp .ne 15, 3) := by decide +kernel
theorem dX7_group11_71 : decode cX7_group11 71 = .ok (.iload_n 2, 1) := by decide +kernel
theorem dX7_group11_72 : decode cX7_group11 72 = .ok (.ifCond .eq 7, 3) := by decide +kernel
theorem dX7_group11_75 : decode cX7_group11 75 = .ok (.iconst 4, 1) := by decide +kernel
theorem dX7_group11_76 : decode cX7_group11 76 = .ok (.goto 11, 3) := by decide +kernel
theorem dX7_group11_79 : decode cX7_group11 79 = .ok (.iconst 2, 1) := by decide +kernel
theorem dX7_group11_80 : decode cX7_group11 80 = .ok (.goto 7, 3) := by decide +kernel
theorem dX7_group11_83 : decode cX7_group11 83 = .ok (.iload_n 1, 1) := by decide +kernel
theorem dX7_group11_84 : decode cX7_group11 84 = .ok (.invokestatic 211, 3) := by decide +kernel
theorem dX7_group11_87 : decode cX7_group11 87 = .ok (.istore 4, 2) := by decide +kernel
theorem dX7_group11_89 : decode cX7_group11 89 = .ok (.iload_n 1, 1) := by decide +kernel
theorem dX7_group11_90 : decode cX7_group11 90 = .ok (.iconst 3, 1) := by decide +kernel
theorem dX7_group11_91 : decode cX7_group11 91 = .ok (.if_icmp .ge 57, 3) := by decide +kernel
theorem dX7_group11_94 : decode cX7_group11 94 = .ok (.iload_n 2, 1) := by decide +kernel
theorem dX7_group11_95 : decode cX7_group11 95 = .ok (.ifCond .eq 53, 3) := by decide +kernel
theorem dX7_group11_98 : decode cX7_group11 98 = .ok (.aload_n 0, 1) := by decide +kernel
theorem dX7_group11_99 : decode cX7_group11 99 = .ok (.bipush 24, 2) := by decide +kernel
theorem dX7_group11_101 : decode cX7_group11 101 = .ok (.aload_n 0, 1) := by decide +kernel
theorem dX7_group11_102 : decode cX7_group11 102 = .ok (.getfield 174, 3) := by decide +kernel
theorem dX7_group11_105 : decode cX7_group11 105 = .ok (.bipush 7, 2) := by decide +kernel
theorem dX7_group11_107 : decode cX7_group11 107 = .ok (.iand, 1) := by decide +kernel
theorem dX7_group11_108 : decode cX7_group11 108 = .ok (.ior, 1) := by decide +kernel
theorem dX7_group11_109 : decode cX7_group11 109 = .ok (.iload 4, 2) := by decide +kernel
theorem dX7_group11_111 : decode cX7_group11 111 = .ok (.invokevirtual 192, 3) := by decide +kernel
theorem dX7_group11_114 : decode cX7_group11 114 = .ok (.aload_n 0, 1) := by decide +kernel
theorem dX7_group11_115 : decode cX7_group11 115 = .ok (.iload 4, 2) := by decide +kernel
theorem dX7_group11_117 : decode cX7_group11 117 = .ok (.invokevirtual 195, 3) := by decide +kernel
theorem dX7_group11_120 : decode cX7_group11 120 = .ok (.istore 5, 2) := by decide +kernel
theorem dX7_group11_122 : decode cX7_group11 122 = .ok (.aload_n 0, 1) := by decide +kernel
theorem dX7_group11_123 : decode cX7_group11 123 = .ok (.bipush 24, 2) := by decide +kernel
theorem dX7_group11_125 : decode cX7_group11 125 = .ok (.iload_n 3, 1) := by decide +kernel
theorem dX7_group11_126 : decode cX7_group11 126 = .ok (.ior, 1) := by decide +kernel
theorem dX7_group11_127 : decode cX7_group11 127 = .ok (.iload 4, 2) := by decide +kernel
theorem dX7_group11_129 : decode cX7_group11 129 = .ok (.invokevirtual 192, 3) := by decide +kernel
theorem dX7_group11_132 : decode cX7_group11 132 = .ok (.aload_n 0, 1) := by decide +kernel
theorem dX7_group11_133 : decode cX7_group11 133 = .ok (.aload_n 0, 1) := by decide +kernel
theorem dX7_group11_134 : decode cX7_group11 134 = .ok (.iload 4, 2) := by decide +kernel
theorem dX7_group11_136 : decode cX7_group11 136 = .ok (.invokevirtual 195, 3) := by decide +kernel
theorem dX7_group11_139 : decode cX7_group11 139 = .ok (.iload 5, 2) := by decide +kernel
theorem dX7_group11_141 : decode cX7_group11 141 = .ok (.iload 4, 2) := by decide +kernel
theorem dX7_group11_143 : decode cX7_group11 143 = .ok (.invokevirtual 217, 3) := by decide +kernel
theorem dX7_group11_146 : decode cX7_group11 146 = .ok (.iconst 1, 1) := by decide +kernel
theorem dX7_group11_147 : decode cX7_group11 147 = .ok (.ireturn, 1) := by decide +kernel
theorem dX7_group11_148 : decode cX7_group11 148 = .ok (.aload_n 0, 1) := by decide +kernel
theorem dX7_group11_149 : decode cX7_group11 149 = .ok (.getfield 174, 3) := by decide +kernel
theorem dX7_group11_152 : decode cX7_group11 152 = .ok (.bipush 63, 2) := by decide +kernel
theorem dX7_group11_154 : decode cX7_group11 154 = .ok (.iand, 1) := by decide +kernel
theorem dX7_group11_155 : decode cX7_group11 155 = .ok (.iconst 0, 1) := by decide +kernel
theorem dX7_group11_156 : decode cX7_group11 156 = .ok (.iload 4, 2) := by decide +kernel
theorem dX7_group11_158 : decode cX7_group11 158 = .ok (.invokestatic 188, 3) := by decide +kernel
theorem dX7_group11_161 : decode cX7_group11 161 = .ok (.ifCond .ne 5, 3) := by decide +kernel
theorem dX7_group11_164 : decode cX7_group11 164 = .ok (.iconst 0, 1) := by decide +kernel
theorem dX7_group11_165 : decode cX7_group11 165 = .ok (.ireturn, 1) := by decide +kernel
theorem dX7_group11_166 : decode cX7_group11 166 = .ok (.aload_n 0, 1) := by decide +kernel
theorem dX7_group11_167 : decode cX7_group11 167 = .ok (.aload_n 0, 1) := by decide +kernel
theorem dX7_group11_168 : decode cX7_group11 168 = .ok (.getfield 174, 3) := by decide +kernel
theorem dX7_group11_171 : decode cX7_group11 171 = .ok (.bipush 63, 2) := by decide +kernel
theorem dX7_group11_173 : decode cX7_group11 173 = .ok (.iand, 1) := by decide +kernel
theorem dX7_group11_174 : decode cX7_group11 174 = .ok (.iload 4, 2) := by decide +kernel
theorem dX7_group11_176 : decode cX7_group11 176 = .ok (.invokevirtual 192, 3) := by decide +kernel
theorem dX7_group11_179 : decode cX7_group11 179 = .ok (.aload_n 0, 1) := by decide +kernel
theorem dX7_group11_180 : decode cX7_group11 180 = .ok (.iload 4, 2) := by decide +kernel
theorem dX7_group11_182 : decode cX7_group11 182 = .ok (.invokevirtual 195, 3) := by decide +kernel
theorem dX7_group11_185 : decode cX7_group11 185 = .ok (.istore 5, 2) := by decide +kernel
theorem dX7_group11_187 : decode cX7_group11 187 = .ok (.iload_n 1, 1) := by decide +kernel
theorem dX7_group11_188 : decode cX7_group11 188 = .ok (.iconst 3, 1) := by decide +kernel
theorem dX7_group11_189 : decode cX7_group11 189 = .ok (.if_icmp .ne 23, 3) := by decide +kernel
theorem dX7_group11_192 : decode cX7_group11 192 = .ok (.aload_n 0, 1) := by decide +kernel
theorem dX7_group11_193 : decode cX7_group11 193 = .ok (.aload_n 0, 1) := by decide +kernel
theorem dX7_group11_194 : decode cX7_group11 194 = .ok (.iload_n 3, 1) := by decide +kernel
theorem dX7_group11_195 : decode cX7_group11 195 = .ok (.invokevirtual 70, 3) := by decide +kernel
theorem dX7_group11_198 : decode cX7_group11 198 = .ok (.iload 5, 2) := by decide +kernel
theorem dX7_group11_200 : decode cX7_group11 200 = .ok (.iload 4, 2) := by decide +kernel
theorem dX7_group11_202 : decode cX7_group11 202 = .ok (.invokestatic 157, 3) := by decide +kernel
theorem dX7_group11_205 : decode cX7_group11 205 = .ok (.iconst 4, 1) := by decide +kernel
theorem dX7_group11_206 : decode cX7_group11 206 = .ok (.invokevirtual 217, 3) := by decide +kernel
theorem dX7_group11_209 : decode cX7_group11 209 = .ok (.goto 17, 3) := by decide +kernel
theorem dX7_group11_212 : decode cX7_group11 212 = .ok (.aload_n 0, 1) := by decide +kernel
theorem dX7_group11_213 : decode cX7_group11 213 = .ok (.aload_n 0, 1) := by decide +kernel
theorem dX7_group11_214 : decode cX7_group11 214 = .ok (.getfield 13, 3) := by decide +kernel
theorem dX7_group11_217 : decode cX7_group11 217 = .ok (.iload_n 3, 1) := by decide +kernel
theorem dX7_group11_218 : decode cX7_group11 218 = .ok (.iaload, 1) := by decide +kernel
theorem dX7_group11_219 : decode cX7_group11 219 = .ok (.iload 5, 2) := by decide +kernel
theorem dX7_group11_221 : decode cX7_group11 221 = .ok (.iload 4, 2) := by decide +kernel
theorem dX7_group11_223 : decode cX7_group11 223 = .ok (.invokevirtual 217, 3) := by decide +kernel
theorem dX7_group11_226 : decode cX7_group11 226 = .ok (.iconst 1, 1) := by decide +kernel
theorem dX7_group11_227 : decode cX7_group11 227 = .ok (.ireturn, 1) := by decide +kernel
theorem dX7_shifted_0 : decode cX7_shifted 0 = .ok (.bipush 8, 2) := by decide +kernel
theorem dX7_shifted_2 : decode cX7_shifted 2 = .ok (.iload_n 2, 1) := by decide +kernel
theorem dX7_shifted_3 : decode cX7_shifted 3 = .ok (.imul, 1) := by decide +kernel
theorem dX7_shifted_4 : decode cX7_shifted 4 = .ok (.istore 6, 2) := by decide +kernel
theorem dX7_shifted_6 : decode cX7_shifted 6 = .ok (.iload_n 1, 1) := by decide +kernel
theorem dX7_shifted_7 : decode cX7_shifted 7 = .ok (.iload_n 2, 1) := by decide +kernel
theorem dX7_shifted_8 : decode cX7_shifted 8 = .ok (.invokestatic 144, 3) := by decide +kernel
theorem dX7_shifted_11 : decode cX7_shifted 11 = .ok (.lstore 7, 2) := by decide +kernel
theorem dX7_shifted_13 : decode cX7_shifted 13 = .ok (.lconst 1, 1) := by decide +kernel
theorem dX7_shifted_14 : decode cX7_shifted 14 = .ok (.iload 6, 2) := by decide +kernel
theorem dX7_shifted_16 : decode cX7_shifted 16 = .ok (.iconst 1, 1) := by decide +kernel
theorem dX7_shifted_17 : decode cX7_shifted 17 = .ok (.isub, 1) := by decide +kernel
theorem dX7_shifted_18 : decode cX7_shifted 18 = .ok (.lshl, 1) := by decide +kernel
theorem dX7_shifted_19 : decode cX7_shifted 19 = .ok (.lstore 9, 2) := by decide +kernel
theorem dX7_shifted_21 : decode cX7_shifted 21 = .ok (.iload_n 3, 1) := by decide +kernel
theorem dX7_shifted_22 : decode cX7_shifted 22 = .ok (.iconst 2, 1) := by decide +kernel
theorem dX7_shifted_23 : decode cX7_shifted 23 = .ok (.if_icmp .ne 16, 3) := by decide +kernel
theorem dX7_shifted_26 : decode cX7_shifted 26 = .ok (.aload_n 0, 1) := by decide +kernel
theorem dX7_shifted_27 : decode cX7_shifted 27 = .ok (.bipush 16, 2) := by decide +kernel
theorem dX7_shifted_29 : decode cX7_shifted 29 = .ok (.invokevirtual 154, 3) := by decide +kernel
theorem dX7_shifted_32 : decode cX7_shifted 32 = .ok (.ifCond .eq 7, 3) := by decide +kernel
theorem dX7_shifted_35 : decode cX7_shifted 35 = .ok (.iconst 1, 1) := by decide +kernel
theorem dX7_shifted_36 : decode cX7_shifted 36 = .ok (.goto 4, 3) := by decide +kernel
theorem dX7_shifted_39 : decode cX7_shifted 39 = .ok (.iconst 0, 1) := by decide +kernel
theorem dX7_shifted_40 : decode cX7_shifted 40 = .ok (.istore 11, 2) := by decide +kernel
theorem dX7_shifted_42 : decode cX7_shifted 42 = .ok (.iconst 0, 1) := by decide +kernel
theorem dX7_shifted_43 : decode cX7_shifted 43 = .ok (.istore 12, 2) := by decide +kernel
theorem dX7_shifted_45 : decode cX7_shifted 45 = .ok (.iconst 0, 1) := by decide +kernel
theorem dX7_shifted_46 : decode cX7_shifted 46 = .ok (.istore 13, 2) := by decide +kernel
theorem dX7_shifted_48 : decode cX7_shifted 48 = .ok (.iload 13, 2) := by decide +kernel
theorem dX7_shifted_50 : decode cX7_shifted 50 = .ok (.iload 5, 2) := by decide +kernel
theorem dX7_shifted_52 : decode cX7_shifted 52 = .ok (.if_icmp .ge 204, 3) := by decide +kernel
theorem dX7_shifted_55 : decode cX7_shifted 55 = .ok (.iconst 0, 1) := by decide +kernel
theorem dX7_shifted_56 : decode cX7_shifted 56 = .ok (.istore 14, 2) := by decide +kernel
theorem dX7_shifted_58 : decode cX7_shifted 58 = .ok (.lload 7, 2) := by decide +kernel
theorem dX7_shifted_60 : decode cX7_shifted 60 = .ok (.lload 9, 2) := by decide +kernel
theorem dX7_shifted_62 : decode cX7_shifted 62 = .ok (.land, 1) := by decide +kernel
theorem dX7_shifted_63 : decode cX7_shifted 63 = .ok (.lconst 0, 1) := by decide +kernel
theorem dX7_shifted_64 : decode cX7_shifted 64 = .ok (.lcmp, 1) := by decide +kernel
theorem dX7_shifted_65 : decode cX7_shifted 65 = .ok (.ifCond .eq 7, 3) := by decide +kernel
theorem dX7_shifted_68 : decode cX7_shifted 68 = .ok (.iconst 1, 1) := by decide +kernel
theorem dX7_shifted_69 : decode cX7_shifted 69 = .ok (.goto 4, 3) := by decide +kernel
theorem dX7_shifted_72 : decode cX7_shifted 72 = .ok (.iconst 0, 1) := by decide +kernel
theorem dX7_shifted_73 : decode cX7_shifted 73 = .ok (.istore 15, 2) := by decide +kernel
theorem dX7_shifted_75 : decode cX7_shifted 75 = .ok (.iload 4, 2) := by decide +kernel
theorem dX7_shifted_77 : decode cX7_shifted 77 = .ok (.ifCond .eq 8, 3) := by decide +kernel
theorem dX7_shifted_80 : decode cX7_shifted 80 = .ok (.iload 15, 2) := by decide +kernel
theorem dX7_shifted_82 : decode cX7_shifted 82 = .ok (.goto 17, 3) := by decide +kernel
theorem dX7_shifted_85 : decode cX7_shifted 85 = .ok (.lload 7, 2) := by decide +kernel
theorem dX7_shifted_87 : decode cX7_shifted 87 = .ok (.lconst 1, 1) := by decide +kernel
theorem dX7_shifted_88 : decode cX7_shifted 88 = .ok (.land, 1) := by decide +kernel
theorem dX7_shifted_89 : decode cX7_shifted 89 = .ok (.lconst 0, 1) := by decide +kernel
theorem dX7_shifted_90 : decode cX7_shifted 90 = .ok (.lcmp, 1) := by decide +kernel
theorem dX7_shifted_91 : decode cX7_shifted 91 = .ok (.ifCond .eq 7, 3) := by decide +kernel
theorem dX7_shifted_94 : decode cX7_shifted 94 = .ok (.iconst 1, 1) := by decide +kernel
theorem dX7_shifted_95 : decode cX7_shifted 95 = .ok (.goto 4, 3) := by decide +kernel
theorem dX7_shifted_98 : decode cX7_shifted 98 = .ok (.iconst 0, 1) := by decide +kernel
theorem dX7_shifted_99 : decode cX7_shifted 99 = .ok (.istore 11, 2) := by decide +kernel
theorem dX7_shifted_101 : decode cX7_shifted 101 = .ok (.iload_n 3, 1) := by decide +kernel
theorem dX7_shifted_102 : decode cX7_shifted 102 = .ok (.ifCond .ne 21, 3) := by decide +kernel
theorem dX7_shifted_105 : decode cX7_shifted 105 = .ok (.iload 4, 2) := by decide +kernel
theorem dX7_shifted_107 : decode cX7_shifted 107 = .ok (.ifCond .ne 12, 3) := by decide +kernel
theorem dX7_shifted_110 : decode cX7_shifted 110 = .ok (.iload 15, 2) := by decide +kernel
theorem dX7_shifted_112 : decode cX7_shifted 112 = .ok (.ifCond .eq 7, 3) := by decide +kernel
theorem dX7_shifted_115 : decode cX7_shifted 115 = .ok (.iconst 1, 1) := by decide +kernel
theorem dX7_shifted_116 : decode cX7_shifted 116 = .ok (.goto 36, 3) := by decide +kernel
theorem dX7_shifted_119 : decode cX7_shifted 119 = .ok (.iconst 0, 1) := by decide +kernel
theorem dX7_shifted_120 : decode cX7_shifted 120 = .ok (.goto 32, 3) := by decide +kernel
theorem dX7_shifted_123 : decode cX7_shifted 123 = .ok (.iload_n 3, 1) := by decide +kernel
theorem dX7_shifted_124 : decode cX7_shifted 124 = .ok (.iconst 2, 1) := by decide +kernel
theorem dX7_shifted_125 : decode cX7_shifted 125 = .ok (.if_icmp .ne 12, 3) := by decide +kernel
theorem dX7_shifted_128 : decode cX7_shifted 128 = .ok (.aload_n 0, 1) := by decide +kernel
theorem dX7_shifted_129 : decode cX7_shifted 129 = .ok (.bipush 16, 2) := by decide +kernel
theorem dX7_shifted_131 : decode cX7_shifted 131 = .ok (.invokevirtual 154, 3) := by decide +kernel
theorem dX7_shifted_134 : decode cX7_shifted 134 = .ok (.goto 18, 3) := by decide +kernel
theorem dX7_shifted_137 : decode cX7_shifted 137 = .ok (.iload_n 3, 1) := by decide +kernel
theorem dX7_shifted_138 : decode cX7_shifted 138 = .ok (.iconst 3, 1) := by decide +kernel
theorem dX7_shifted_139 : decode cX7_shifted 139 = .ok (.if_icmp .ne 12, 3) := by decide +kernel
theorem dX7_shifted_142 : decode cX7_shifted 142 = .ok (.iload 11, 2) := by decide +kernel
theorem dX7_shifted_144 : decode cX7_shifted 144 = .ok (.ifCond .eq 7, 3) := by decide +kernel
theorem dX7_shifted_147 : decode cX7_shifted 147 = .ok (.iconst 1, 1) := by decide +kernel
theorem dX7_shifted_148 : decode cX7_shifted 148 = .ok (.goto 4, 3) := by decide +kernel
theorem dX7_shifted_151 : decode cX7_shifted 151 = .ok (.iconst 0, 1) := by decide +kernel
theorem dX7_shifted_152 : decode cX7_shifted 152 = .ok (.istore 14, 2) := by decide +kernel
theorem dX7_shifted_154 : decode cX7_shifted 154 = .ok (.iload 4, 2) := by decide +kernel
theorem dX7_shifted_156 : decode cX7_shifted 156 = .ok (.ifCond .eq 17, 3) := by decide +kernel
theorem dX7_shifted_159 : decode cX7_shifted 159 = .ok (.lload 7, 2) := by decide +kernel
theorem dX7_shifted_161 : decode cX7_shifted 161 = .ok (.iconst 1, 1) := by decide +kernel
theorem dX7_shifted_162 : decode cX7_shifted 162 = .ok (.lshl, 1) := by decide +kernel
theorem dX7_shifted_163 : decode cX7_shifted 163 = .ok (.lload 9, 2) := by decide +kernel
theorem dX7_shifted_165 : decode cX7_shifted 165 = .ok (.iconst 1, 1) := by decide +kernel
theorem dX7_shifted_166 : decode cX7_shifted 166 = .ok (.lshl, 1) := by decide +kernel
theorem dX7_shifted_167 : decode cX7_shifted 167 = .ok (.lconst 1, 1) := by decide +kernel
theorem dX7_shifted_168 : decode cX7_shifted 168 = .ok (.lsub, 1) := by decide +kernel
theorem dX7_shifted_169 : decode cX7_shifted 169 = .ok (.land, 1) := by decide +kernel
theorem dX7_shifted_170 : decode cX7_shifted 170 = .ok (.goto 7, 3) := by decide +kernel
theorem dX7_shifted_173 : decode cX7_shifted 173 = .ok (.lload 7, 2) := by decide +kernel
theorem dX7_shifted_175 : decode cX7_shifted 175 = .ok (.iconst 1, 1) := by decide +kernel
theorem dX7_shifted_176 : decode cX7_shifted 176 = .ok (.lshr, 1) := by decide +kernel
theorem dX7_shifted_177 : decode cX7_shifted 177 = .ok (.lstore 7, 2) := by decide +kernel
theorem dX7_shifted_179 : decode cX7_shifted 179 = .ok (.iload 14, 2) := by decide +kernel
theorem dX7_shifted_181 : decode cX7_shifted 181 = .ok (.ifCond .eq 20, 3) := by decide +kernel
theorem dX7_shifted_184 : decode cX7_shifted 184 = .ok (.lload 7, 2) := by decide +kernel
theorem dX7_shifted_186 : decode cX7_shifted 186 = .ok (.iload 4, 2) := by decide +kernel
theorem dX7_shifted_188 : decode cX7_shifted 188 = .ok (.ifCond .eq 7, 3) := by decide +kernel
theorem dX7_shifted_191 : decode cX7_shifted 191 = .ok (.lconst 1, 1) := by decide +kernel
theorem dX7_shifted_192 : decode cX7_shifted 192 = .ok (.goto 5, 3) := by decide +kernel
theorem dX7_shifted_195 : decode cX7_shifted 195 = .ok (.lload 9, 2) := by decide +kernel
theorem dX7_shifted_197 : decode cX7_shifted 197 = .ok (.lor, 1) := by decide +kernel
theorem dX7_shifted_198 : decode cX7_shifted 198 = .ok (.goto 5, 3) := by decide +kernel
theorem dX7_shifted_201 : decode cX7_shifted 201 = .ok (.lload 7, 2) := by decide +kernel
theorem dX7_shifted_203 : decode cX7_shifted 203 = .ok (.lstore 7, 2) := by decide +kernel
theorem dX7_shifted_205 : decode cX7_shifted 205 = .ok (.iload 12, 2) := by decide +kernel
theorem dX7_shifted_207 : decode cX7_shifted 207 = .ok (.ifCond .ne 23, 3) := by decide +kernel
theorem dX7_shifted_210 : decode cX7_shifted 210 = .ok (.iload 15, 2) := by decide +kernel
theorem dX7_shifted_212 : decode cX7_shifted 212 = .ok (.lload 7, 2) := by decide +kernel
theorem dX7_shifted_214 : decode cX7_shifted 214 = .ok (.lload 9, 2) := by decide +kernel
theorem dX7_shifted_216 : decode cX7_shifted 216 = .ok (.land, 1) := by decide +kernel
theorem dX7_shifted_217 : decode cX7_shifted 217 = .ok (.lconst 0, 1) := by decide +kernel
theorem dX7_shifted_218 : decode cX7_shifted 218 = .ok (.lcmp, 1) := by decide +kernel
theorem dX7_shifted_219 : decode cX7_shifted 219 = .ok (.ifCond .eq 7, 3) := by decide +kernel
theorem dX7_shifted_222 : decode cX7_shifted 222 = .ok (.iconst 1, 1) := by decide +kernel
theorem dX7_shifted_223 : decode cX7_shifted 223 = .ok (.goto 4, 3) := by decide +kernel
theorem dX7_shifted_226 : decode cX7_shifted 226 = .ok (.iconst 0, 1) := by decide +kernel
theorem dX7_shifted_227 : decode cX7_shifted 227 = .ok (.if_icmp .eq 7, 3) := by decide +kernel
theorem dX7_shifted_230 : decode cX7_shifted 230 = .ok (.iconst 1, 1) := by decide +kernel
theorem dX7_shifted_231 : decode cX7_shifted 231 = .ok (.goto 4, 3) := by decide +kernel
theorem dX7_shifted_234 : decode cX7_shifted 234 = .ok (.iconst 0, 1) := by decide +kernel
theorem dX7_shifted_235 : decode cX7_shifted 235 = .ok (.istore 12, 2) := by decide +kernel
theorem dX7_shifted_237 : decode cX7_shifted 237 = .ok (.iload_n 3, 1) := by decide +kernel
theorem dX7_shifted_238 : decode cX7_shifted 238 = .ok (.iconst 3, 1) := by decide +kernel
theorem dX7_shifted_239 : decode cX7_shifted 239 = .ok (.if_icmp .ge 11, 3) := by decide +kernel
theorem dX7_shifted_242 : decode cX7_shifted 242 = .ok (.aload_n 0, 1) := by decide +kernel
theorem dX7_shifted_243 : decode cX7_shifted 243 = .ok (.bipush 16, 2) := by decide +kernel
theorem dX7_shifted_245 : decode cX7_shifted 245 = .ok (.iload 11, 2) := by decide +kernel
theorem dX7_shifted_247 : decode cX7_shifted 247 = .ok (.invokevirtual 160, 3) := by decide +kernel
theorem dX7_shifted_250 : decode cX7_shifted 250 = .ok (.iinc 13 1, 3) := by decide +kernel
theorem dX7_shifted_253 : decode cX7_shifted 253 = .ok (.goto (-205), 3) := by decide +kernel
theorem dX7_shifted_256 : decode cX7_shifted 256 = .ok (.aload_n 0, 1) := by decide +kernel
theorem dX7_shifted_257 : decode cX7_shifted 257 = .ok (.lload 7, 2) := by decide +kernel
theorem dX7_shifted_259 : decode cX7_shifted 259 = .ok (.l2i, 1) := by decide +kernel
theorem dX7_shifted_260 : decode cX7_shifted 260 = .ok (.iload_n 2, 1) := by decide +kernel
theorem dX7_shifted_261 : decode cX7_shifted 261 = .ok (.invokevirtual 164, 3) := by decide +kernel
theorem dX7_shifted_264 : decode cX7_shifted 264 = .ok (.aload_n 0, 1) := by decide +kernel
theorem dX7_shifted_265 : decode cX7_shifted 265 = .ok (.iconst 2, 1) := by decide +kernel
theorem dX7_shifted_266 : decode cX7_shifted 266 = .ok (.iload_n 3, 1) := by decide +kernel
theorem dX7_shifted_267 : decode cX7_shifted 267 = .ok (.ifCond .ne 17, 3) := by decide +kernel
theorem dX7_shifted_270 : decode cX7_shifted 270 = .ok (.iload 4, 2) := by decide +kernel
theorem dX7_shifted_272 : decode cX7_shifted 272 = .ok (.ifCond .eq 12, 3) := by decide +kernel
theorem dX7_shifted_275 : decode cX7_shifted 275 = .ok (.iload 12, 2) := by decide +kernel
theorem dX7_shifted_277 : decode cX7_shifted 277 = .ok (.ifCond .eq 7, 3) := by decide +kernel
theorem dX7_shifted_280 : decode cX7_shifted 280 = .ok (.iconst 1, 1) := by decide +kernel
theorem dX7_shifted_281 : decode cX7_shifted 281 = .ok (.goto 4, 3) := by decide +kernel
theorem dX7_shifted_284 : decode cX7_shifted 284 = .ok (.iconst 0, 1) := by decide +kernel
theorem dX7_shifted_285 : decode cX7_shifted 285 = .ok (.invokevirtual 160, 3) := by decide +kernel
theorem dX7_shifted_288 : decode cX7_shifted 288 = .ok (.aload_n 0, 1) := by decide +kernel
theorem dX7_shifted_289 : decode cX7_shifted 289 = .ok (.iconst 1, 1) := by decide +kernel
theorem dX7_shifted_290 : decode cX7_shifted 290 = .ok (.iload 11, 2) := by decide +kernel
theorem dX7_shifted_292 : decode cX7_shifted 292 = .ok (.invokevirtual 160, 3) := by decide +kernel
theorem dX7_shifted_295 : decode cX7_shifted 295 = .ok (.lload 7, 2) := by decide +kernel
theorem dX7_shifted_297 : decode cX7_shifted 297 = .ok (.l2i, 1) := by decide +kernel
theorem dX7_shifted_298 : decode cX7_shifted 298 = .ok (.ireturn, 1) := by decide +kernel
theorem dX7_group14_0 : decode cX7_group14 0 = .ok (.aload_n 0, 1) := by decide +kernel
theorem dX7_group14_1 : decode cX7_group14 1 = .ok (.getfield 174, 3) := by decide +kernel
theorem dX7_group14_4 : decode cX7_group14 4 = .ok (.bipush 6, 2) := by decide +kernel
theorem dX7_group14_6 : decode cX7_group14 6 = .ok (.ishr, 1) := by decide +kernel
theorem dX7_group14_7 : decode cX7_group14 7 = .ok (.iconst 3, 1) := by decide +kernel
theorem dX7_group14_8 : decode cX7_group14 8 = .ok (.iand, 1) := by decide +kernel
theorem dX7_group14_9 : decode cX7_group14 9 = .ok (.istore_n 1, 1) := by decide +kernel
theorem dX7_group14_10 : decode cX7_group14 10 = .ok (.aload_n 0, 1) := by decide +kernel
theorem dX7_group14_11 : decode cX7_group14 11 = .ok (.getfield 174, 3) := by decide +kernel
theorem dX7_group14_14 : decode cX7_group14 14 = .ok (.sipush 256, 3) := by decide +kernel
theorem dX7_group14_17 : decode cX7_group14 17 = .ok (.iand, 1) := by decide +kernel
theorem dX7_group14_18 : decode cX7_group14 18 = .ok (.ifCond .eq 7, 3) := by decide +kernel
theorem dX7_group14_21 : decode cX7_group14 21 = .ok (.iconst 1, 1) := by decide +kernel
theorem dX7_group14_22 : decode cX7_group14 22 = .ok (.goto 4, 3) := by decide +kernel
theorem dX7_group14_25 : decode cX7_group14 25 = .ok (.iconst 0, 1) := by decide +kernel
theorem dX7_group14_26 : decode cX7_group14 26 = .ok (.istore_n 2, 1) := by decide +kernel
theorem dX7_group14_27 : decode cX7_group14 27 = .ok (.iload_n 1, 1) := by decide +kernel
theorem dX7_group14_28 : decode cX7_group14 28 = .ok (.iconst 3, 1) := by decide +kernel
theorem dX7_group14_29 : decode cX7_group14 29 = .ok (.if_icmp .ne 73, 3) := by decide +kernel
theorem dX7_group14_32 : decode cX7_group14 32 = .ok (.aload_n 0, 1) := by decide +kernel
theorem dX7_group14_33 : decode cX7_group14 33 = .ok (.getfield 174, 3) := by decide +kernel
theorem dX7_group14_36 : decode cX7_group14 36 = .ok (.sipush 2048, 3) := by decide +kernel
theorem dX7_group14_39 : decode cX7_group14 39 = .ok (.iand, 1) := by decide +kernel
theorem dX7_group14_40 : decode cX7_group14 40 = .ok (.ifCond .ne 18, 3) := by decide +kernel
theorem dX7_group14_43 : decode cX7_group14 43 = .ok (.aload_n 0, 1) := by decide +kernel
theorem dX7_group14_44 : decode cX7_group14 44 = .ok (.getfield 174, 3) := by decide +kernel
theorem dX7_group14_47 : decode cX7_group14 47 = .ok (.bipush 63, 2) := by decide +kernel
theorem dX7_group14_49 : decode cX7_group14 49 = .ok (.iand, 1) := by decide +kernel
theorem dX7_group14_50 : decode cX7_group14 50 = .ok (.iconst 2, 1) := by decide +kernel
theorem dX7_group14_51 : decode cX7_group14 51 = .ok (.iconst 2, 1) := by decide +kernel
theorem dX7_group14_52 : decode cX7_group14 52 = .ok (.invokestatic 188, 3) := by decide +kernel
theorem dX7_group14_55 : decode cX7_group14 55 = .ok (.ifCond .ne 5, 3) := by decide +kernel
theorem dX7_group14_58 : decode cX7_group14 58 = .ok (.iconst 0, 1) := by decide +kernel
theorem dX7_group14_59 : decode cX7_group14 59 = .ok (.ireturn, 1) := by decide +kernel
theorem dX7_group14_60 : decode cX7_group14 60 = .ok (.aload_n 0, 1) := by decide +kernel
theorem dX7_group14_61 : decode cX7_group14 61 = .ok (.aload_n 0, 1) := by decide +kernel
theorem dX7_group14_62 : decode cX7_group14 62 = .ok (.getfield 174, 3) := by decide +kernel
theorem dX7_group14_65 : decode cX7_group14 65 = .ok (.bipush 63, 2) := by decide +kernel
theorem dX7_group14_67 : decode cX7_group14 67 = .ok (.iand, 1) := by decide +kernel
theorem dX7_group14_68 : decode cX7_group14 68 = .ok (.iconst 2, 1) := by decide +kernel
theorem dX7_group14_69 : decode cX7_group14 69 = .ok (.invokevirtual 192, 3) := by decide +kernel
theorem dX7_group14_72 : decode cX7_group14 72 = .ok (.aload_n 0, 1) := by decide +kernel
theorem dX7_group14_73 : decode cX7_group14 73 = .ok (.iconst 2, 1) := by decide +kernel
theorem dX7_group14_74 : decode cX7_group14 74 = .ok (.invokevirtual 195, 3) := by decide +kernel
theorem dX7_group14_77 : decode cX7_group14 77 = .ok (.istore_n 3, 1) := by decide +kernel
theorem dX7_group14_78 : decode cX7_group14 78 = .ok (.aload_n 0, 1) := by decide +kernel
theorem dX7_group14_79 : decode cX7_group14 79 = .ok (.aload_n 0, 1) := by decide +kernel
theorem dX7_group14_80 : decode cX7_group14 80 = .ok (.iload_n 3, 1) := by decide +kernel
theorem dX7_group14_81 : decode cX7_group14 81 = .ok (.iconst 2, 1) := by decide +kernel
theorem dX7_group14_82 : decode cX7_group14 82 = .ok (.aload_n 0, 1) := by decide +kernel
theorem dX7_group14_83 : decode cX7_group14 83 = .ok (.getfield 174, 3) := by decide +kernel
theorem dX7_group14_86 : decode cX7_group14 86 = .ok (.bipush 9, 2) := by decide +kernel
theorem dX7_group14_88 : decode cX7_group14 88 = .ok (.ishr, 1) := by decide +kernel
theorem dX7_group14_89 : decode cX7_group14 89 = .ok (.iconst 3, 1) := by decide +kernel
theorem dX7_group14_90 : decode cX7_group14 90 = .ok (.iand, 1) := by decide +kernel
theorem dX7_group14_91 : decode cX7_group14 91 = .ok (.iload_n 2, 1) := by decide +kernel
theorem dX7_group14_92 : decode cX7_group14 92 = .ok (.iconst 1, 1) := by decide +kernel
theorem dX7_group14_93 : decode cX7_group14 93 = .ok (.invokevirtual 294, 3) := by decide +kernel
theorem dX7_group14_96 : decode cX7_group14 96 = .ok (.iconst 2, 1) := by decide +kernel
theorem dX7_group14_97 : decode cX7_group14 97 = .ok (.invokevirtual 198, 3) := by decide +kernel
theorem dX7_group14_100 : decode cX7_group14 100 = .ok (.iconst 1, 1) := by decide +kernel
theorem dX7_group14_101 : decode cX7_group14 101 = .ok (.ireturn, 1) := by decide +kernel
theorem dX7_group14_102 : decode cX7_group14 102 = .ok (.iload_n 1, 1) := by decide +kernel
theorem dX7_group14_103 : decode cX7_group14 103 = .ok (.invokestatic 211, 3) := by decide +kernel
theorem dX7_group14_106 : decode cX7_group14 106 = .ok (.istore_n 3, 1) := by decide +kernel
theorem dX7_group14_107 : decode cX7_group14 107 = .ok (.aload_n 0, 1) := by decide +kernel
theorem dX7_group14_108 : decode cX7_group14 108 = .ok (.getfield 174, 3) := by decide +kernel
theorem dX7_group14_111 : decode cX7_group14 111 = .ok (.bipush 9, 2) := by decide +kernel
theorem dX7_group14_113 : decode cX7_group14 113 = .ok (.ishr, 1) := by decide +kernel
theorem dX7_group14_114 : decode cX7_group14 114 = .ok (.bipush 7, 2) := by decide +kernel
theorem dX7_group14_116 : decode cX7_group14 116 = .ok (.iand, 1) := by decide +kernel
theorem dX7_group14_117 : decode cX7_group14 117 = .ok (.istore 4, 2) := by decide +kernel
theorem dX7_group14_119 : decode cX7_group14 119 = .ok (.aload_n 0, 1) := by decide +kernel
theorem dX7_group14_120 : decode cX7_group14 120 = .ok (.getfield 174, 3) := by decide +kernel
theorem dX7_group14_123 : decode cX7_group14 123 = .ok (.bipush 32, 2) := by decide +kernel
theorem dX7_group14_125 : decode cX7_group14 125 = .ok (.iand, 1) := by decide +kernel
theorem dX7_group14_126 : decode cX7_group14 126 = .ok (.ifCond .eq 16, 3) := by decide +kernel
theorem dX7_group14_129 : decode cX7_group14 129 = .ok (.aload_n 0, 1) := by decide +kernel
theorem dX7_group14_130 : decode cX7_group14 130 = .ok (.getfield 13, 3) := by decide +kernel
theorem dX7_group14_133 : decode cX7_group14 133 = .ok (.iload 4, 2) := by decide +kernel
theorem dX7_group14_135 : decode cX7_group14 135 = .ok (.iaload, 1) := by decide +kernel
theorem dX7_group14_136 : decode cX7_group14 136 = .ok (.bipush 63, 2) := by decide +kernel
theorem dX7_group14_138 : decode cX7_group14 138 = .ok (.iand, 1) := by decide +kernel
theorem dX7_group14_139 : decode cX7_group14 139 = .ok (.goto 15, 3) := by decide +kernel
theorem dX7_group14_142 : decode cX7_group14 142 = .ok (.iload 4, 2) := by decide +kernel
theorem dX7_group14_144 : decode cX7_group14 144 = .ok (.ifCond .ne 8, 3) := by decide +kernel
theorem dX7_group14_147 : decode cX7_group14 147 = .ok (.bipush 8, 2) := by decide +kernel
theorem dX7_group14_149 : decode cX7_group14 149 = .ok (.goto 5, 3) := by decide +kernel
theorem dX7_group14_152 : decode cX7_group14 152 = .ok (.iload 4, 2) := by decide +kernel
theorem dX7_group14_154 : decode cX7_group14 154 = .ok (.istore 5, 2) := by decide +kernel
theorem dX7_group14_156 : decode cX7_group14 156 = .ok (.aload_n 0, 1) := by decide +kernel
theorem dX7_group14_157 : decode cX7_group14 157 = .ok (.getfield 174, 3) := by decide +kernel
theorem dX7_group14_160 : decode cX7_group14 160 = .ok (.bipush 7, 2) := by decide +kernel
theorem dX7_group14_162 : decode cX7_group14 162 = .ok (.iand, 1) := by decide +kernel
theorem dX7_group14_163 : decode cX7_group14 163 = .ok (.istore 6, 2) := by decide +kernel
theorem dX7_group14_165 : decode cX7_group14 165 = .ok (.aload_n 0, 1) := by decide +kernel
theorem dX7_group14_166 : decode cX7_group14 166 = .ok (.getfield 13, 3) := by decide +kernel
theorem dX7_group14_169 : decode cX7_group14 169 = .ok (.iload 6, 2) := by decide +kernel
theorem dX7_group14_171 : decode cX7_group14 171 = .ok (.aload_n 0, 1) := by decide +kernel
theorem dX7_group14_172 : decode cX7_group14 172 = .ok (.getfield 13, 3) := by decide +kernel
theorem dX7_group14_175 : decode cX7_group14 175 = .ok (.iload 6, 2) := by decide +kernel
theorem dX7_group14_177 : decode cX7_group14 177 = .ok (.iaload, 1) := by decide +kernel
theorem dX7_group14_178 : decode cX7_group14 178 = .ok (.aload_n 0, 1) := by decide +kernel
theorem dX7_group14_179 : decode cX7_group14 179 = .ok (.aload_n 0, 1) := by decide +kernel
theorem dX7_group14_180 : decode cX7_group14 180 = .ok (.getfield 13, 3) := by decide +kernel
theorem dX7_group14_183 : decode cX7_group14 183 = .ok (.iload 6, 2) := by decide +kernel
theorem dX7_group14_185 : decode cX7_group14 185 = .ok (.iaload, 1) := by decide +kernel
theorem dX7_group14_186 : decode cX7_group14 186 = .ok (.iload_n 3, 1) := by decide +kernel
theorem dX7_group14_187 : decode cX7_group14 187 = .ok (.aload_n 0, 1) := by decide +kernel
theorem dX7_group14_188 : decode cX7_group14 188 = .ok (.getfield 174, 3) := by decide +kernel
theorem dX7_group14_191 : decode cX7_group14 191 = .ok (.iconst 3, 1) := by decide +kernel
theorem dX7_group14_192 : decode cX7_group14 192 = .ok (.ishr, 1) := by decide +kernel
theorem dX7_group14_193 : decode cX7_group14 193 = .ok (.iconst 3, 1) := by decide +kernel
theorem dX7_group14_194 : decode cX7_group14 194 = .ok (.iand, 1) := by decide +kernel
theorem dX7_group14_195 : decode cX7_group14 195 = .ok (.iload_n 2, 1) := by decide +kernel
theorem dX7_group14_196 : decode cX7_group14 196 = .ok (.iload 5, 2) := by decide +kernel
theorem dX7_group14_198 : decode cX7_group14 198 = .ok (.invokevirtual 294, 3) := by decide +kernel
theorem dX7_group14_201 : decode cX7_group14 201 = .ok (.iload_n 3, 1) := by decide +kernel
theorem dX7_group14_202 : decode cX7_group14 202 = .ok (.invokestatic 150, 3) := by decide +kernel
theorem dX7_group14_205 : decode cX7_group14 205 = .ok (.iastore, 1) := by decide +kernel
theorem dX7_group14_206 : decode cX7_group14 206 = .ok (.iconst 1, 1) := by decide +kernel
theorem dX7_group14_207 : decode cX7_group14 207 = .ok (.ireturn, 1) := by decide +kernel
theorem dX7_act_0 : decode cX7_act 0 = .ok (.aload_n 0, 1) := by decide +kernel
theorem dX7_act_1 : decode cX7_act 1 = .ok (.getfield 174, 3) := by decide +kernel
theorem dX7_act_4 : decode cX7_act 4 = .ok (.bipush 12, 2) := by decide +kernel
theorem dX7_act_6 : decode cX7_act 6 = .ok (.ishr, 1) := by decide +kernel
theorem dX7_act_7 : decode cX7_act 7 = .ok (.tableswitch 137 0 14 #[73, 78, 78, 78, 83, 88, 93, 98, 103, 109, 137, 115, 120, 126, 132], 73) := by decide +kernel
theorem dX7_act_80 : decode cX7_act 80 = .ok (.aload_n 0, 1) := by decide +kernel
theorem dX7_act_81 : decode cX7_act 81 = .ok (.invokevirtual 298, 3) := by decide +kernel
theorem dX7_act_84 : decode cX7_act 84 = .ok (.ireturn, 1) := by decide +kernel
theorem dX7_act_85 : decode cX7_act 85 = .ok (.aload_n 0, 1) := by decide +kernel
theorem dX7_act_86 : decode cX7_act 86 = .ok (.invokevirtual 301, 3) := by decide +kernel
theorem dX7_act_89 : decode cX7_act 89 = .ok (.ireturn, 1) := by decide +kernel
theorem dX7_act_90 : decode cX7_act 90 = .ok (.aload_n 0, 1) := by decide +kernel
theorem dX7_act_91 : decode cX7_act 91 = .ok (.invokevirtual 304, 3) := by decide +kernel
theorem dX7_act_94 : decode cX7_act 94 = .ok (.ireturn, 1) := by decide +kernel
theorem dX7_act_95 : decode cX7_act 95 = .ok (.aload_n 0, 1) := by decide +kernel
theorem dX7_act_96 : decode cX7_act 96 = .ok (.invokevirtual 307, 3) := by decide +kernel
theorem dX7_act_99 : decode cX7_act 99 = .ok (.ireturn, 1) := by decide +kernel
theorem dX7_act_100 : decode cX7_act 100 = .ok (.aload_n 0, 1) := by decide +kernel
theorem dX7_act_101 : decode cX7_act 101 = .ok (.invokevirtual 310, 3) := by decide +kernel
theorem dX7_act_104 : decode cX7_act 104 = .ok (.ireturn, 1) := by decide +kernel
theorem dX7_act_105 : decode cX7_act 105 = .ok (.aload_n 0, 1) := by decide +kernel
theorem dX7_act_106 : decode cX7_act 106 = .ok (.invokevirtual 313, 3) := by decide +kernel
theorem dX7_act_109 : decode cX7_act 109 = .ok (.ireturn, 1) := by decide +kernel
theorem dX7_act_110 : decode cX7_act 110 = .ok (.aload_n 0, 1) := by decide +kernel
theorem dX7_act_111 : decode cX7_act 111 = .ok (.iconst 0, 1) := by decide +kernel
theorem dX7_act_112 : decode cX7_act 112 = .ok (.invokevirtual 316, 3) := by decide +kernel
theorem dX7_act_115 : decode cX7_act 115 = .ok (.ireturn, 1) := by decide +kernel
theorem dX7_act_116 : decode cX7_act 116 = .ok (.aload_n 0, 1) := by decide +kernel
theorem dX7_act_117 : decode cX7_act 117 = .ok (.iconst 1, 1) := by decide +kernel
theorem dX7_act_118 : decode cX7_act 118 = .ok (.invokevirtual 319, 3) := by decide +kernel
theorem dX7_act_121 : decode cX7_act 121 = .ok (.ireturn, 1) := by decide +kernel
theorem dX7_act_122 : decode cX7_act 122 = .ok (.aload_n 0, 1) := by decide +kernel
theorem dX7_act_123 : decode cX7_act 123 = .ok (.invokevirtual 322, 3) := by decide +kernel
theorem dX7_act_126 : decode cX7_act 126 = .ok (.ireturn, 1) := by decide +kernel
theorem dX7_act_127 : decode cX7_act 127 = .ok (.aload_n 0, 1) := by decide +kernel
theorem dX7_act_128 : decode cX7_act 128 = .ok (.iconst 1, 1) := by decide +kernel
theorem dX7_act_129 : decode cX7_act 129 = .ok (.invokevirtual 316, 3) := by decide +kernel
theorem dX7_act_132 : decode cX7_act 132 = .ok (.ireturn, 1) := by decide +kernel
theorem dX7_act_133 : decode cX7_act 133 = .ok (.aload_n 0, 1) := by decide +kernel
theorem dX7_act_134 : decode cX7_act 134 = .ok (.iconst 0, 1) := by decide +kernel
theorem dX7_act_135 : decode cX7_act 135 = .ok (.invokevirtual 319, 3) := by decide +kernel
theorem dX7_act_138 : decode cX7_act 138 = .ok (.ireturn, 1) := by decide +kernel
theorem dX7_act_139 : decode cX7_act 139 = .ok (.aload_n 0, 1) := by decide +kernel
theorem dX7_act_140 : decode cX7_act 140 = .ok (.invokevirtual 325, 3) := by decide +kernel
theorem dX7_act_143 : decode cX7_act 143 = .ok (.ireturn, 1) := by decide +kernel
theorem dX7_act_144 : decode cX7_act 144 = .ok (.aload_n 0, 1) := by decide +kernel
theorem dX7_act_145 : decode cX7_act 145 = .ok (.aload_n 0, 1) := by decide +kernel
theorem dX7_act_146 : decode cX7_act 146 = .ok (.getfield 174, 3) := by decide +kernel
theorem dX7_act_149 : decode cX7_act 149 = .ok (.bipush 12, 2) := by decide +kernel
theorem dX7_act_151 : decode cX7_act 151 = .ok (.ishr, 1) := by decide +kernel
theorem dX7_act_152 : decode cX7_act 152 = .ok (.bipush 10, 2) := by decide +kernel
theorem dX7_act_154 : decode cX7_act 154 = .ok (.if_icmp .ne 8, 3) := by decide +kernel
theorem dX7_act_157 : decode cX7_act 157 = .ok (.bipush 10, 2) := by decide +kernel
theorem dX7_act_159 : decode cX7_act 159 = .ok (.goto 5, 3) := by decide +kernel
theorem dX7_act_162 : decode cX7_act 162 = .ok (.bipush 11, 2) := by decide +kernel
theorem dX7_act_164 : decode cX7_act 164 = .ok (.iconst 0, 1) := by decide +kernel
theorem dX7_act_165 : decode cX7_act 165 = .ok (.invokevirtual 106, 3) := by decide +kernel
theorem dX7_act_168 : decode cX7_act 168 = .ok (.iconst 1, 1) := by decide +kernel
theorem dX7_act_169 : decode cX7_act 169 = .ok (.ireturn, 1) := by decide +kernel
theorem dX7_exception_0 : decode cX7_exception 0 = .ok (.aload_n 0, 1) := by decide +kernel
theorem dX7_exception_1 : decode cX7_exception 1 = .ok (.getfield 50, 3) := by decide +kernel
theorem dX7_exception_4 : decode cX7_exception 4 = .ok (.istore 4, 2) := by decide +kernel
theorem dX7_exception_6 : decode cX7_exception 6 = .ok (.aload_n 0, 1) := by decide +kernel
theorem dX7_exception_7 : decode cX7_exception 7 = .ok (.sipush 8192, 3) := by decide +kernel
theorem dX7_exception_10 : decode cX7_exception 10 = .ok (.iconst 1, 1) := by decide +kernel
theorem dX7_exception_11 : decode cX7_exception 11 = .ok (.invokevirtual 160, 3) := by decide +kernel
theorem dX7_exception_14 : decode cX7_exception 14 = .ok (.aload_n 0, 1) := by decide +kernel
theorem dX7_exception_15 : decode cX7_exception 15 = .ok (.ldc 128, 2) := by decide +kernel
theorem dX7_exception_17 : decode cX7_exception 17 = .ok (.iconst 0, 1) := by decide +kernel
theorem dX7_exception_18 : decode cX7_exception 18 = .ok (.invokevirtual 160, 3) := by decide +kernel
theorem dX7_exception_21 : decode cX7_exception 21 = .ok (.aload_n 0, 1) := by decide +kernel
theorem dX7_exception_22 : decode cX7_exception 22 = .ok (.getfield 19, 3) := by decide +kernel
theorem dX7_exception_25 : decode cX7_exception 25 = .ok (.iconst 1, 1) := by decide +kernel
theorem dX7_exception_26 : decode cX7_exception 26 = .ok (.iaload, 1) := by decide +kernel
theorem dX7_exception_27 : decode cX7_exception 27 = .ok (.iconst 1, 1) := by decide +kernel
theorem dX7_exception_28 : decode cX7_exception 28 = .ok (.iand, 1) := by decide +kernel
theorem dX7_exception_29 : decode cX7_exception 29 = .ok (.iconst 1, 1) := by decide +kernel
theorem dX7_exception_30 : decode cX7_exception 30 = .ok (.if_icmp .ne 10, 3) := by decide +kernel
theorem dX7_exception_33 : decode cX7_exception 33 = .ok (.aload_n 0, 1) := by decide +kernel
theorem dX7_exception_34 : decode cX7_exception 34 = .ok (.iconst 1, 1) := by decide +kernel
theorem dX7_exception_35 : decode cX7_exception 35 = .ok (.putfield 57, 3) := by decide +kernel
theorem dX7_exception_38 : decode cX7_exception 38 = .ok (.iconst 0, 1) := by decide +kernel
theorem dX7_exception_39 : decode cX7_exception 39 = .ok (.ireturn, 1) := by decide +kernel
theorem dX7_exception_40 : decode cX7_exception 40 = .ok (.aload_n 0, 1) := by decide +kernel
theorem dX7_exception_41 : decode cX7_exception 41 = .ok (.getfield 19, 3) := by decide +kernel
theorem dX7_exception_44 : decode cX7_exception 44 = .ok (.iconst 1, 1) := by decide +kernel
theorem dX7_exception_45 : decode cX7_exception 45 = .ok (.iaload, 1) := by decide +kernel
theorem dX7_exception_46 : decode cX7_exception 46 = .ok (.istore 5, 2) := by decide +kernel
theorem dX7_exception_48 : decode cX7_exception 48 = .ok (.aload_n 0, 1) := by decide +kernel
theorem dX7_exception_49 : decode cX7_exception 49 = .ok (.iload 5, 2) := by decide +kernel
theorem dX7_exception_51 : decode cX7_exception 51 = .ok (.iconst 4, 1) := by decide +kernel
theorem dX7_exception_52 : decode cX7_exception 52 = .ok (.isub, 1) := by decide +kernel
theorem dX7_exception_53 : decode cX7_exception 53 = .ok (.aload_n 0, 1) := by decide +kernel
theorem dX7_exception_54 : decode cX7_exception 54 = .ok (.getfield 47, 3) := by decide +kernel
theorem dX7_exception_57 : decode cX7_exception 57 = .ok (.iconst 4, 1) := by decide +kernel
theorem dX7_exception_58 : decode cX7_exception 58 = .ok (.invokevirtual 92, 3) := by decide +kernel
theorem dX7_exception_61 : decode cX7_exception 61 = .ok (.aload_n 0, 1) := by decide +kernel
theorem dX7_exception_62 : decode cX7_exception 62 = .ok (.iload 5, 2) := by decide +kernel
theorem dX7_exception_64 : decode cX7_exception 64 = .ok (.bipush 6, 2) := by decide +kernel
theorem dX7_exception_66 : decode cX7_exception 66 = .ok (.isub, 1) := by decide +kernel
theorem dX7_exception_67 : decode cX7_exception 67 = .ok (.iload 4, 2) := by decide +kernel
theorem dX7_exception_69 : decode cX7_exception 69 = .ok (.iconst 2, 1) := by decide +kernel
theorem dX7_exception_70 : decode cX7_exception 70 = .ok (.invokevirtual 92, 3) := by decide +kernel
theorem dX7_exception_73 : decode cX7_exception 73 = .ok (.iload 5, 2) := by decide +kernel
theorem dX7_exception_75 : decode cX7_exception 75 = .ok (.bipush 6, 2) := by decide +kernel
theorem dX7_exception_77 : decode cX7_exception 77 = .ok (.isub, 1) := by decide +kernel
theorem dX7_exception_78 : decode cX7_exception 78 = .ok (.istore 5, 2) := by decide +kernel
theorem dX7_exception_80 : decode cX7_exception 80 = .ok (.iload_n 2, 1) := by decide +kernel
theorem dX7_exception_81 : decode cX7_exception 81 = .ok (.ifCond .eq 45, 3) := by decide +kernel
theorem dX7_exception_84 : decode cX7_exception 84 = .ok (.aload_n 0, 1) := by decide +kernel
theorem dX7_exception_85 : decode cX7_exception 85 = .ok (.iload 5, 2) := by decide +kernel
theorem dX7_exception_87 : decode cX7_exception 87 = .ok (.iconst 2, 1) := by decide +kernel
theorem dX7_exception_88 : decode cX7_exception 88 = .ok (.isub, 1) := by decide +kernel
theorem dX7_exception_89 : decode cX7_exception 89 = .ok (.aload_n 0, 1) := by decide +kernel
theorem dX7_exception_90 : decode cX7_exception 90 = .ok (.getfield 174, 3) := by decide +kernel
theorem dX7_exception_93 : decode cX7_exception 93 = .ok (.iconst 2, 1) := by decide +kernel
theorem dX7_exception_94 : decode cX7_exception 94 = .ok (.invokevirtual 92, 3) := by decide +kernel
theorem dX7_exception_97 : decode cX7_exception 97 = .ok (.aload_n 0, 1) := by decide +kernel
theorem dX7_exception_98 : decode cX7_exception 98 = .ok (.iload 5, 2) := by decide +kernel
theorem dX7_exception_100 : decode cX7_exception 100 = .ok (.bipush 6, 2) := by decide +kernel
theorem dX7_exception_102 : decode cX7_exception 102 = .ok (.isub, 1) := by decide +kernel
theorem dX7_exception_103 : decode cX7_exception 103 = .ok (.iload_n 3, 1) := by decide +kernel
theorem dX7_exception_104 : decode cX7_exception 104 = .ok (.iconst 4, 1) := by decide +kernel
theorem dX7_exception_105 : decode cX7_exception 105 = .ok (.invokevirtual 92, 3) := by decide +kernel
theorem dX7_exception_108 : decode cX7_exception 108 = .ok (.aload_n 0, 1) := by decide +kernel
theorem dX7_exception_109 : decode cX7_exception 109 = .ok (.iload 5, 2) := by decide +kernel
theorem dX7_exception_111 : decode cX7_exception 111 = .ok (.bipush 8, 2) := by decide +kernel
theorem dX7_exception_113 : decode cX7_exception 113 = .ok (.isub, 1) := by decide +kernel
theorem dX7_exception_114 : decode cX7_exception 114 = .ok (.iconst 0, 1) := by decide +kernel
theorem dX7_exception_115 : decode cX7_exception 115 = .ok (.iconst 2, 1) := by decide +kernel
theorem dX7_exception_116 : decode cX7_exception 116 = .ok (.invokevirtual 92, 3) := by decide +kernel
theorem dX7_exception_119 : decode cX7_exception 119 = .ok (.iload 5, 2) := by decide +kernel
theorem dX7_exception_121 : decode cX7_exception 121 = .ok (.bipush 8, 2) := by decide +kernel
theorem dX7_exception_123 : decode cX7_exception 123 = .ok (.isub, 1) := by decide +kernel
theorem dX7_exception_124 : decode cX7_exception 124 = .ok (.istore 5, 2) := by decide +kernel
theorem dX7_exception_126 : decode cX7_exception 126 = .ok (.aload_n 0, 1) := by decide +kernel
theorem dX7_exception_127 : decode cX7_exception 127 = .ok (.getfield 19, 3) := by decide +kernel
theorem dX7_exception_130 : decode cX7_exception 130 = .ok (.iconst 1, 1) := by decide +kernel
theorem dX7_exception_131 : decode cX7_exception 131 = .ok (.iload 5, 2) := by decide +kernel
theorem dX7_exception_133 : decode cX7_exception 133 = .ok (.iastore, 1) := by decide +kernel
theorem dX7_exception_134 : decode cX7_exception 134 = .ok (.aload_n 0, 1) := by decide +kernel
theorem dX7_exception_135 : decode cX7_exception 135 = .ok (.aload_n 0, 1) := by decide +kernel
theorem dX7_exception_136 : decode cX7_exception 136 = .ok (.iconst 4, 1) := by decide +kernel
theorem dX7_exception_137 : decode cX7_exception 137 = .ok (.iload_n 1, 1) := by decide +kernel
theorem dX7_exception_138 : decode cX7_exception 138 = .ok (.imul, 1) := by decide +kernel
theorem dX7_exception_139 : decode cX7_exception 139 = .ok (.iconst 4, 1) := by decide +kernel
theorem dX7_exception_140 : decode cX7_exception 140 = .ok (.invokevirtual 96, 3) := by decide +kernel
theorem dX7_exception_143 : decode cX7_exception 143 = .ok (.putfield 47, 3) := by decide +kernel
theorem dX7_exception_146 : decode cX7_exception 146 = .ok (.aload_n 0, 1) := by decide +kernel
theorem dX7_exception_147 : decode cX7_exception 147 = .ok (.getfield 22, 3) := by decide +kernel
theorem dX7_exception_150 : decode cX7_exception 150 = .ok (.iload_n 1, 1) := by decide +kernel
theorem dX7_exception_151 : decode cX7_exception 151 = .ok (.dup2, 1) := by decide +kernel
theorem dX7_exception_152 : decode cX7_exception 152 = .ok (.iaload, 1) := by decide +kernel
theorem dX7_exception_153 : decode cX7_exception 153 = .ok (.iconst 1, 1) := by decide +kernel
theorem dX7_exception_154 : decode cX7_exception 154 = .ok (.iadd, 1) := by decide +kernel
theorem dX7_exception_155 : decode cX7_exception 155 = .ok (.iastore, 1) := by decide +kernel
theorem dX7_exception_156 : decode cX7_exception 156 = .ok (.aload_n 0, 1) := by decide +kernel
theorem dX7_exception_157 : decode cX7_exception 157 = .ok (.dup, 1) := by decide +kernel
theorem dX7_exception_158 : decode cX7_exception 158 = .ok (.getfield 63, 3) := by decide +kernel
theorem dX7_exception_161 : decode cX7_exception 161 = .ok (.iconst 1, 1) := by decide +kernel
theorem dX7_exception_162 : decode cX7_exception 162 = .ok (.iadd, 1) := by decide +kernel
theorem dX7_exception_163 : decode cX7_exception 163 = .ok (.putfield 63, 3) := by decide +kernel
theorem dX7_exception_166 : decode cX7_exception 166 = .ok (.iconst 1, 1) := by decide +kernel
theorem dX7_exception_167 : decode cX7_exception 167 = .ok (.ireturn, 1) := by decide +kernel
theorem dX7_remember_0 : decode cX7_remember 0 = .ok (.iconst 0, 1) := by decide +kernel
theorem dX7_remember_1 : decode cX7_remember 1 = .ok (.istore_n 1, 1) := by decide +kernel
theorem dX7_remember_2 : decode cX7_remember 2 = .ok (.iload_n 1, 1) := by decide +kernel
theorem dX7_remember_3 : decode cX7_remember 3 = .ok (.bipush 8, 2) := by decide +kernel
theorem dX7_remember_5 : decode cX7_remember 5 = .ok (.if_icmp .ge 21, 3) := by decide +kernel
theorem dX7_remember_8 : decode cX7_remember 8 = .ok (.aload_n 0, 1) := by decide +kernel
theorem dX7_remember_9 : decode cX7_remember 9 = .ok (.getfield 25, 3) := by decide +kernel
theorem dX7_remember_12 : decode cX7_remember 12 = .ok (.iload_n 1, 1) := by decide +kernel
theorem dX7_remember_13 : decode cX7_remember 13 = .ok (.aload_n 0, 1) := by decide +kernel
theorem dX7_remember_14 : decode cX7_remember 14 = .ok (.getfield 13, 3) := by decide +kernel
theorem dX7_remember_17 : decode cX7_remember 17 = .ok (.iload_n 1, 1) := by decide +kernel
theorem dX7_remember_18 : decode cX7_remember 18 = .ok (.iaload, 1) := by decide +kernel
theorem dX7_remember_19 : decode cX7_remember 19 = .ok (.iastore, 1) := by decide +kernel
theorem dX7_remember_20 : decode cX7_remember 20 = .ok (.iinc 1 1, 3) := by decide +kernel
theorem dX7_remember_23 : decode cX7_remember 23 = .ok (.goto (-21), 3) := by decide +kernel
theorem dX7_remember_26 : decode cX7_remember 26 = .ok (.iconst 0, 1) := by decide +kernel
theorem dX7_remember_27 : decode cX7_remember 27 = .ok (.istore_n 1, 1) := by decide +kernel
theorem dX7_remember_28 : decode cX7_remember 28 = .ok (.iload_n 1, 1) := by decide +kernel
theorem dX7_remember_29 : decode cX7_remember 29 = .ok (.bipush 7, 2) := by decide +kernel
theorem dX7_remember_31 : decode cX7_remember 31 = .ok (.if_icmp .ge 21, 3) := by decide +kernel
theorem dX7_remember_34 : decode cX7_remember 34 = .ok (.aload_n 0, 1) := by decide +kernel
theorem dX7_remember_35 : decode cX7_remember 35 = .ok (.getfield 28, 3) := by decide +kernel
theorem dX7_remember_38 : decode cX7_remember 38 = .ok (.iload_n 1, 1) := by decide +kernel
theorem dX7_remember_39 : decode cX7_remember 39 = .ok (.aload_n 0, 1) := by decide +kernel
theorem dX7_remember_40 : decode cX7_remember 40 = .ok (.getfield 16, 3) := by decide +kernel
theorem dX7_remember_43 : decode cX7_remember 43 = .ok (.iload_n 1, 1) := by decide +kernel
theorem dX7_remember_44 : decode cX7_remember 44 = .ok (.iaload, 1) := by decide +kernel
theorem dX7_remember_45 : decode cX7_remember 45 = .ok (.iastore, 1) := by decide +kernel
theorem dX7_remember_46 : decode cX7_remember 46 = .ok (.iinc 1 1, 3) := by decide +kernel
theorem dX7_remember_49 : decode cX7_remember 49 = .ok (.goto (-21), 3) := by decide +kernel
theorem dX7_remember_52 : decode cX7_remember 52 = .ok (.aload_n 0, 1) := by decide +kernel
theorem dX7_remember_53 : decode cX7_remember 53 = .ok (.getfield 31, 3) := by decide +kernel
theorem dX7_remember_56 : decode cX7_remember 56 = .ok (.iconst 0, 1) := by decide +kernel
theorem dX7_remember_57 : decode cX7_remember 57 = .ok (.aload_n 0, 1) := by decide +kernel
theorem dX7_remember_58 : decode cX7_remember 58 = .ok (.getfield 19, 3) := by decide +kernel
theorem dX7_remember_61 : decode cX7_remember 61 = .ok (.iconst 0, 1) := by decide +kernel
theorem dX7_remember_62 : decode cX7_remember 62 = .ok (.iaload, 1) := by decide +kernel
theorem dX7_remember_63 : decode cX7_remember 63 = .ok (.iastore, 1) := by decide +kernel
theorem dX7_remember_64 : decode cX7_remember 64 = .ok (.aload_n 0, 1) := by decide +kernel
theorem dX7_remember_65 : decode cX7_remember 65 = .ok (.getfield 31, 3) := by decide +kernel
theorem dX7_remember_68 : decode cX7_remember 68 = .ok (.iconst 1, 1) := by decide +kernel
theorem dX7_remember_69 : decode cX7_remember 69 = .ok (.aload_n 0, 1) := by decide +kernel
theorem dX7_remember_70 : decode cX7_remember 70 = .ok (.getfield 19, 3) := by decide +kernel
theorem dX7_remember_73 : decode cX7_remember 73 = .ok (.iconst 1, 1) := by decide +kernel
theorem dX7_remember_74 : decode cX7_remember 74 = .ok (.iaload, 1) := by decide +kernel
theorem dX7_remember_75 : decode cX7_remember 75 = .ok (.iastore, 1) := by decide +kernel
theorem dX7_remember_76 : decode cX7_remember 76 = .ok (.aload_n 0, 1) := by decide +kernel
theorem dX7_remember_77 : decode cX7_remember 77 = .ok (.aload_n 0, 1) := by decide +kernel
theorem dX7_remember_78 : decode cX7_remember 78 = .ok (.getfield 47, 3) := by decide +kernel
theorem dX7_remember_81 : decode cX7_remember 81 = .ok (.putfield 328, 3) := by decide +kernel
theorem dX7_remember_84 : decode cX7_remember 84 = .ok (.aload_n 0, 1) := by decide +kernel
theorem dX7_remember_85 : decode cX7_remember 85 = .ok (.aload_n 0, 1) := by decide +kernel
theorem dX7_remember_86 : decode cX7_remember 86 = .ok (.getfield 50, 3) := by decide +kernel
theorem dX7_remember_89 : decode cX7_remember 89 = .ok (.putfield 331, 3) := by decide +kernel
theorem dX7_remember_92 : decode cX7_remember 92 = .ok (.aload_n 0, 1) := by decide +kernel
theorem dX7_remember_93 : decode cX7_remember 93 = .ok (.iconst 0, 1) := by decide +kernel
theorem dX7_remember_94 : decode cX7_remember 94 = .ok (.putfield 79, 3) := by decide +kernel
theorem dX7_remember_97 : decode cX7_remember 97 = .ok (.return_, 1) := by decide +kernel
theorem dX7_takeBack_0 : decode cX7_takeBack 0 = .ok (.iconst 0, 1) := by decide +kernel
theorem dX7_takeBack_1 : decode cX7_takeBack 1 = .ok (.istore_n 1, 1) := by decide +kernel
theorem dX7_takeBack_2 : decode cX7_takeBack 2 = .ok (.iload_n 1, 1) := by decide +kernel
theorem dX7_takeBack_3 : decode cX7_takeBack 3 = .ok (.bipush 8, 2) := by decide +kernel
theorem dX7_takeBack_5 : decode cX7_takeBack 5 = .ok (.if_icmp .ge 21, 3) := by decide +kernel
theorem dX7_takeBack_8 : decode cX7_takeBack 8 = .ok (.aload_n 0, 1) := by decide +kernel
theorem dX7_takeBack_9 : decode cX7_takeBack 9 = .ok (.getfield 13, 3) := by decide +kernel
theorem dX7_takeBack_12 : decode cX7_takeBack 12 = .ok (.iload_n 1, 1) := by decide +kernel
theorem dX7_takeBack_13 : decode cX7_takeBack 13 = .ok (.aload_n 0, 1) := by decide +kernel
theorem dX7_takeBack_14 : decode cX7_takeBack 14 = .ok (.getfield 25, 3) := by decide +kernel
theorem dX7_takeBack_17 : decode cX7_takeBack 17 = .ok (.iload_n 1, 1) := by decide +kernel
theorem dX7_takeBack_18 : decode cX7_takeBack 18 = .ok (.iaload, 1) := by decide +kernel
theorem dX7_takeBack_19 : decode cX7_takeBack 19 = .ok (.iastore, 1) := by decide +kernel
theorem dX7_takeBack_20 : decode cX7_takeBack 20 = .ok (.iinc 1 1, 3) := by decide +kernel
theorem dX7_takeBack_23 : decode cX7_takeBack 23 = .ok (.goto (-21), 3) := by decide +kernel
theorem dX7_takeBack_26 : decode cX7_takeBack 26 = .ok (.iconst 0, 1) := by decide +kernel
theorem dX7_takeBack_27 : decode cX7_takeBack 27 = .ok (.istore_n 1, 1) := by decide +kernel
theorem dX7_takeBack_28 : decode cX7_takeBack 28 = .ok (.iload_n 1, 1) := by decide +kernel
theorem dX7_takeBack_29 : decode cX7_takeBack 29 = .ok (.bipush 7, 2) := by decide +kernel
theorem dX7_takeBack_31 : decode cX7_takeBack 31 = .ok (.if_icmp .ge 21, 3) := by decide +kernel
theorem dX7_takeBack_34 : decode cX7_takeBack 34 = .ok (.aload_n 0, 1) := by decide +kernel
theorem dX7_takeBack_35 : decode cX7_takeBack 35 = .ok (.getfield 16, 3) := by decide +kernel
theorem dX7_takeBack_38 : decode cX7_takeBack 38 = .ok (.iload_n 1, 1) := by decide +kernel
theorem dX7_takeBack_39 : decode cX7_takeBack 39 = .ok (.aload_n 0, 1) := by decide +kernel
theorem dX7_takeBack_40 : decode cX7_takeBack 40 = .ok (.getfield 28, 3) := by decide +kernel
theorem dX7_takeBack_43 : decode cX7_takeBack 43 = .ok (.iload_n 1, 1) := by decide +kernel
theorem dX7_takeBack_44 : decode cX7_takeBack 44 = .ok (.iaload, 1) := by decide +kernel
theorem dX7_takeBack_45 : decode cX7_takeBack 45 = .ok (.iastore, 1) := by decide +kernel
theorem dX7_takeBack_46 : decode cX7_takeBack 46 = .ok (.iinc 1 1, 3) := by decide +kernel
theorem dX7_takeBack_49 : decode cX7_takeBack 49 = .ok (.goto (-21), 3) := by decide +kernel
theorem dX7_takeBack_52 : decode cX7_takeBack 52 = .ok (.aload_n 0, 1) := by decide +kernel
theorem dX7_takeBack_53 : decode cX7_takeBack 53 = .ok (.getfield 19, 3) := by decide +kernel
theorem dX7_takeBack_56 : decode cX7_takeBack 56 = .ok (.iconst 0, 1) := by decide +kernel
theorem dX7_takeBack_57 : decode cX7_takeBack 57 = .ok (.aload_n 0, 1) := by decide +kernel
theorem dX7_takeBack_58 : decode cX7_takeBack 58 = .ok (.getfield 31, 3) := by decide +kernel
theorem dX7_takeBack_61 : decode cX7_takeBack 61 = .ok (.iconst 0, 1) := by decide +kernel
theorem dX7_takeBack_62 : decode cX7_takeBack 62 = .ok (.iaload, 1) := by decide +kernel
theorem dX7_takeBack_63 : decode cX7_takeBack 63 = .ok (.iastore, 1) := by decide +kernel
theorem dX7_takeBack_64 : decode cX7_takeBack 64 = .ok (.aload_n 0, 1) := by decide +kernel
theorem dX7_takeBack_65 : decode cX7_takeBack 65 = .ok (.getfield 19, 3) := by decide +kernel
theorem dX7_takeBack_68 : decode cX7_takeBack 68 = .ok (.iconst 1, 1) := by decide +kernel
theorem dX7_takeBack_69 : decode cX7_takeBack 69 = .ok (.aload_n 0, 1) := by decide +kernel
theorem dX7_takeBack_70 : decode cX7_takeBack 70 = .ok (.getfield 31, 3) := by decide +kernel
theorem dX7_takeBack_73 : decode cX7_takeBack 73 = .ok (.iconst 1, 1) := by decide +kernel
theorem dX7_takeBack_74 : decode cX7_takeBack 74 = .ok (.iaload, 1) := by decide +kernel
theorem dX7_takeBack_75 : decode cX7_takeBack 75 = .ok (.iastore, 1) := by decide +kernel
theorem dX7_takeBack_76 : decode cX7_takeBack 76 = .ok (.aload_n 0, 1) := by decide +kernel
theorem dX7_takeBack_77 : decode cX7_takeBack 77 = .ok (.aload_n 0, 1) := by decide +kernel
theorem dX7_takeBack_78 : decode cX7_takeBack 78 = .ok (.getfield 328, 3) := by decide +kernel
theorem dX7_takeBack_81 : decode cX7_takeBack 81 = .ok (.putfield 47, 3) := by decide +kernel
theorem dX7_takeBack_84 : decode cX7_takeBack 84 = .ok (.aload_n 0, 1) := by decide +kernel
theorem dX7_takeBack_85 : decode cX7_takeBack 85 = .ok (.aload_n 0, 1) := by decide +kernel
theorem dX7_takeBack_86 : decode cX7_takeBack 86 = .ok (.getfield 331, 3) := by decide +kernel
theorem dX7_takeBack_89 : decode cX7_takeBack 89 = .ok (.putfield 50, 3) := by decide +kernel
theorem dX7_takeBack_92 : decode cX7_takeBack 92 = .ok (.aload_n 0, 1) := by decide +kernel
theorem dX7_takeBack_93 : decode cX7_takeBack 93 = .ok (.getfield 79, 3) := by decide +kernel
theorem dX7_takeBack_96 : decode cX7_takeBack 96 = .ok (.iconst 1, 1) := by decide +kernel
theorem dX7_takeBack_97 : decode cX7_takeBack 97 = .ok (.isub, 1) := by decide +kernel
theorem dX7_takeBack_98 : decode cX7_takeBack 98 = .ok (.istore_n 1, 1) := by decide +kernel
theorem dX7_takeBack_99 : decode cX7_takeBack 99 = .ok (.iload_n 1, 1) := by decide +kernel
theorem dX7_takeBack_100 : decode cX7_takeBack 100 = .ok (.ifCond .lt 26, 3) := by decide +kernel
theorem dX7_takeBack_103 : decode cX7_takeBack 103 = .ok (.aload_n 0, 1) := by decide +kernel
theorem dX7_takeBack_104 : decode cX7_takeBack 104 = .ok (.getfield 7, 3) := by decide +kernel
theorem dX7_takeBack_107 : decode cX7_takeBack 107 = .ok (.aload_n 0, 1) := by decide +kernel
theorem dX7_takeBack_108 : decode cX7_takeBack 108 = .ok (.getfield 34, 3) := by decide +kernel
theorem dX7_takeBack_111 : decode cX7_takeBack 111 = .ok (.iload_n 1, 1) := by decide +kernel
theorem dX7_takeBack_112 : decode cX7_takeBack 112 = .ok (.iaload, 1) := by decide +kernel
theorem dX7_takeBack_113 : decode cX7_takeBack 113 = .ok (.aload_n 0, 1) := by decide +kernel
theorem dX7_takeBack_114 : decode cX7_takeBack 114 = .ok (.getfield 37, 3) := by decide +kernel
theorem dX7_takeBack_117 : decode cX7_takeBack 117 = .ok (.iload_n 1, 1) := by decide +kernel
theorem dX7_takeBack_118 : decode cX7_takeBack 118 = .ok (.iaload, 1) := by decide +kernel
theorem dX7_takeBack_119 : decode cX7_takeBack 119 = .ok (.iastore, 1) := by decide +kernel
theorem dX7_takeBack_120 : decode cX7_takeBack 120 = .ok (.iinc 1 (-1), 3) := by decide +kernel
theorem dX7_takeBack_123 : decode cX7_takeBack 123 = .ok (.goto (-24), 3) := by decide +kernel
theorem dX7_takeBack_126 : decode cX7_takeBack 126 = .ok (.aload_n 0, 1) := by decide +kernel
theorem dX7_takeBack_127 : decode cX7_takeBack 127 = .ok (.iconst 0, 1) := by decide +kernel
theorem dX7_takeBack_128 : decode cX7_takeBack 128 = .ok (.putfield 79, 3) := by decide +kernel
theorem dX7_takeBack_131 : decode cX7_takeBack 131 = .ok (.return_, 1) := by decide +kernel
theorem dX7_instruction_0 : decode cX7_instruction 0 = .ok (.aload_n 0, 1) := by decide +kernel
theorem dX7_instruction_1 : decode cX7_instruction 1 = .ok (.invokevirtual 334, 3) := by decide +kernel
theorem dX7_instruction_4 : decode cX7_instruction 4 = .ok (.aload_n 0, 1) := by decide +kernel
theorem dX7_instruction_5 : decode cX7_instruction 5 = .ok (.iconst 0, 1) := by decide +kernel
theorem dX7_instruction_6 : decode cX7_instruction 6 = .ok (.putfield 100, 3) := by decide +kernel
theorem dX7_instruction_9 : decode cX7_instruction 9 = .ok (.aload_n 0, 1) := by decide +kernel
theorem dX7_instruction_10 : decode cX7_instruction 10 = .ok (.iconst 0, 1) := by decide +kernel
theorem dX7_instruction_11 : decode cX7_instruction 11 = .ok (.putfield 245, 3) := by decide +kernel
theorem dX7_instruction_14 : decode cX7_instruction 14 = .ok (.aload_n 0, 1) := by decide +kernel
theorem dX7_instruction_15 : decode cX7_instruction 15 = .ok (.iconst 0, 1) := by decide +kernel
theorem dX7_instruction_16 : decode cX7_instruction 16 = .ok (.putfield 239, 3) := by decide +kernel
theorem dX7_instruction_19 : decode cX7_instruction 19 = .ok (.aload_n 0, 1) := by decide +kernel
theorem dX7_instruction_20 : decode cX7_instruction 20 = .ok (.iconst 0, 1) := by decide +kernel
theorem dX7_instruction_21 : decode cX7_instruction 21 = .ok (.putfield 174, 3) := by decide +kernel
theorem dX7_instruction_24 : decode cX7_instruction 24 = .ok (.aload_n 0, 1) := by decide +kernel
theorem dX7_instruction_25 : decode cX7_instruction 25 = .ok (.ldc 128, 2) := by decide +kernel
theorem dX7_instruction_27 : decode cX7_instruction 27 = .ok (.invokevirtual 154, 3) := by decide +kernel
theorem dX7_instruction_30 : decode cX7_instruction 30 = .ok (.istore_n 1, 1) := by decide +kernel
theorem dX7_instruction_31 : decode cX7_instruction 31 = .ok (.aload_n 0, 1) := by decide +kernel
theorem dX7_instruction_32 : decode cX7_instruction 32 = .ok (.aload_n 0, 1) := by decide +kernel
theorem dX7_instruction_33 : decode cX7_instruction 33 = .ok (.invokevirtual 125, 3) := by decide +kernel
theorem dX7_instruction_36 : decode cX7_instruction 36 = .ok (.putfield 174, 3) := by decide +kernel
theorem dX7_instruction_39 : decode cX7_instruction 39 = .ok (.aload_n 0, 1) := by decide +kernel
theorem dX7_instruction_40 : decode cX7_instruction 40 = .ok (.getfield 100, 3) := by decide +kernel
theorem dX7_instruction_43 : decode cX7_instruction 43 = .ok (.ifCond .ne 16, 3) := by decide +kernel
theorem dX7_instruction_46 : decode cX7_instruction 46 = .ok (.aload_n 0, 1) := by decide +kernel
theorem dX7_instruction_47 : decode cX7_instruction 47 = .ok (.invokevirtual 337, 3) := by decide +kernel
theorem dX7_instruction_50 : decode cX7_instruction 50 = .ok (.ifCond .ne 9, 3) := by decide +kernel
theorem dX7_instruction_53 : decode cX7_instruction 53 = .ok (.aload_n 0, 1) := by decide +kernel
theorem dX7_instruction_54 : decode cX7_instruction 54 = .ok (.iconst 4, 1) := by decide +kernel
theorem dX7_instruction_55 : decode cX7_instruction 55 = .ok (.iconst 0, 1) := by decide +kernel
theorem dX7_instruction_56 : decode cX7_instruction 56 = .ok (.invokevirtual 106, 3) := by decide +kernel
theorem dX7_instruction_59 : decode cX7_instruction 59 = .ok (.aload_n 0, 1) := by decide +kernel
theorem dX7_instruction_60 : decode cX7_instruction 60 = .ok (.getfield 100, 3) := by decide +kernel
theorem dX7_instruction_63 : decode cX7_instruction 63 = .ok (.ifCond .le 36, 3) := by decide +kernel
theorem dX7_instruction_66 : decode cX7_instruction 66 = .ok (.aload_n 0, 1) := by decide +kernel
theorem dX7_instruction_67 : decode cX7_instruction 67 = .ok (.getfield 100, 3) := by decide +kernel
theorem dX7_instruction_70 : decode cX7_instruction 70 = .ok (.istore_n 2, 1) := by decide +kernel
theorem dX7_instruction_71 : decode cX7_instruction 71 = .ok (.aload_n 0, 1) := by decide +kernel
theorem dX7_instruction_72 : decode cX7_instruction 72 = .ok (.getfield 103, 3) := by decide +kernel
theorem dX7_instruction_75 : decode cX7_instruction 75 = .ok (.istore_n 3, 1) := by decide +kernel
theorem dX7_instruction_76 : decode cX7_instruction 76 = .ok (.aload_n 0, 1) := by decide +kernel
theorem dX7_instruction_77 : decode cX7_instruction 77 = .ok (.invokevirtual 340, 3) := by decide +kernel
theorem dX7_instruction_80 : decode cX7_instruction 80 = .ok (.aload_n 0, 1) := by decide +kernel
theorem dX7_instruction_81 : decode cX7_instruction 81 = .ok (.iload_n 2, 1) := by decide +kernel
theorem dX7_instruction_82 : decode cX7_instruction 82 = .ok (.iload_n 2, 1) := by decide +kernel
theorem dX7_instruction_83 : decode cX7_instruction 83 = .ok (.iconst 3, 1) := by decide +kernel
theorem dX7_instruction_84 : decode cX7_instruction 84 = .ok (.if_icmp .ne 7, 3) := by decide +kernel
theorem dX7_instruction_87 : decode cX7_instruction 87 = .ok (.iconst 1, 1) := by decide +kernel
theorem dX7_instruction_88 : decode cX7_instruction 88 = .ok (.goto 4, 3) := by decide +kernel
theorem dX7_instruction_91 : decode cX7_instruction 91 = .ok (.iconst 0, 1) := by decide +kernel
theorem dX7_instruction_92 : decode cX7_instruction 92 = .ok (.iload_n 3, 1) := by decide +kernel
theorem dX7_instruction_93 : decode cX7_instruction 93 = .ok (.invokevirtual 343, 3) := by decide +kernel
theorem dX7_instruction_96 : decode cX7_instruction 96 = .ok (.istore 4, 2) := by decide +kernel
theorem dX7_instruction_98 : decode cX7_instruction 98 = .ok (.return_, 1) := by decide +kernel
theorem dX7_instruction_99 : decode cX7_instruction 99 = .ok (.aload_n 0, 1) := by decide +kernel
theorem dX7_instruction_100 : decode cX7_instruction 100 = .ok (.getfield 245, 3) := by decide +kernel
theorem dX7_instruction_103 : decode cX7_instruction 103 = .ok (.ifCond .eq 16, 3) := by decide +kernel
theorem dX7_instruction_106 : decode cX7_instruction 106 = .ok (.aload_n 0, 1) := by decide +kernel
theorem dX7_instruction_107 : decode cX7_instruction 107 = .ok (.aload_n 0, 1) := by decide +kernel
theorem dX7_instruction_108 : decode cX7_instruction 108 = .ok (.getfield 245, 3) := by decide +kernel
theorem dX7_instruction_111 : decode cX7_instruction 111 = .ok (.iconst 0, 1) := by decide +kernel
theorem dX7_instruction_112 : decode cX7_instruction 112 = .ok (.iconst 0, 1) := by decide +kernel
theorem dX7_instruction_113 : decode cX7_instruction 113 = .ok (.invokevirtual 343, 3) := by decide +kernel
theorem dX7_instruction_116 : decode cX7_instruction 116 = .ok (.ifCond .eq 7, 3) := by decide +kernel
theorem dX7_instruction_119 : decode cX7_instruction 119 = .ok (.iconst 1, 1) := by decide +kernel
theorem dX7_instruction_120 : decode cX7_instruction 120 = .ok (.goto 4, 3) := by decide +kernel
theorem dX7_instruction_123 : decode cX7_instruction 123 = .ok (.iconst 0, 1) := by decide +kernel
theorem dX7_instruction_124 : decode cX7_instruction 124 = .ok (.istore_n 2, 1) := by decide +kernel
theorem dX7_instruction_125 : decode cX7_instruction 125 = .ok (.iload_n 1, 1) := by decide +kernel
theorem dX7_instruction_126 : decode cX7_instruction 126 = .ok (.ifCond .eq 19, 3) := by decide +kernel
theorem dX7_instruction_129 : decode cX7_instruction 129 = .ok (.iload_n 2, 1) := by decide +kernel
theorem dX7_instruction_130 : decode cX7_instruction 130 = .ok (.ifCond .eq 15, 3) := by decide +kernel
theorem dX7_instruction_133 : decode cX7_instruction 133 = .ok (.aload_n 0, 1) := by decide +kernel
theorem dX7_instruction_134 : decode cX7_instruction 134 = .ok (.bipush 9, 2) := by decide +kernel
theorem dX7_instruction_136 : decode cX7_instruction 136 = .ok (.iconst 0, 1) := by decide +kernel
theorem dX7_instruction_137 : decode cX7_instruction 137 = .ok (.iconst 0, 1) := by decide +kernel
theorem dX7_instruction_138 : decode cX7_instruction 138 = .ok (.invokevirtual 343, 3) := by decide +kernel
theorem dX7_instruction_141 : decode cX7_instruction 141 = .ok (.istore_n 3, 1) := by decide +kernel
theorem dX7_instruction_142 : decode cX7_instruction 142 = .ok (.goto 15, 3) := by decide +kernel
theorem dX7_instruction_145 : decode cX7_instruction 145 = .ok (.aload_n 0, 1) := by decide +kernel
theorem dX7_instruction_146 : decode cX7_instruction 146 = .ok (.getfield 239, 3) := by decide +kernel
theorem dX7_instruction_149 : decode cX7_instruction 149 = .ok (.ifCond .eq 8, 3) := by decide +kernel
theorem dX7_instruction_152 : decode cX7_instruction 152 = .ok (.aload_n 0, 1) := by decide +kernel
theorem dX7_instruction_153 : decode cX7_instruction 153 = .ok (.iconst 1, 1) := by decide +kernel
theorem dX7_instruction_154 : decode cX7_instruction 154 = .ok (.putfield 53, 3) := by decide +kernel
theorem dX7_instruction_157 : decode cX7_instruction 157 = .ok (.return_, 1) := by decide +kernel
theorem dX7_interrupt_0 : decode cX7_interrupt 0 = .ok (.aload_n 0, 1) := by decide +kernel
theorem dX7_interrupt_1 : decode cX7_interrupt 1 = .ok (.getfield 50, 3) := by decide +kernel
theorem dX7_interrupt_4 : decode cX7_interrupt 4 = .ok (.bipush 8, 2) := by decide +kernel
theorem dX7_interrupt_6 : decode cX7_interrupt 6 = .ok (.ishr, 1) := by decide +kernel
theorem dX7_interrupt_7 : decode cX7_interrupt 7 = .ok (.bipush 7, 2) := by decide +kernel
theorem dX7_interrupt_9 : decode cX7_interrupt 9 = .ok (.iand, 1) := by decide +kernel
theorem dX7_interrupt_10 : decode cX7_interrupt 10 = .ok (.istore_n 1, 1) := by decide +kernel
theorem dX7_interrupt_11 : decode cX7_interrupt 11 = .ok (.aload_n 0, 1) := by decide +kernel
theorem dX7_interrupt_12 : decode cX7_interrupt 12 = .ok (.getfield 60, 3) := by decide +kernel
theorem dX7_interrupt_15 : decode cX7_interrupt 15 = .ok (.ifCond .eq 20, 3) := by decide +kernel
theorem dX7_interrupt_18 : decode cX7_interrupt 18 = .ok (.aload_n 0, 1) := by decide +kernel
theorem dX7_interrupt_19 : decode cX7_interrupt 19 = .ok (.getfield 60, 3) := by decide +kernel
theorem dX7_interrupt_22 : decode cX7_interrupt 22 = .ok (.iload_n 1, 1) := by decide +kernel
theorem dX7_interrupt_23 : decode cX7_interrupt 23 = .ok (.if_icmp .gt 14, 3) := by decide +kernel
theorem dX7_interrupt_26 : decode cX7_interrupt 26 = .ok (.aload_n 0, 1) := by decide +kernel
theorem dX7_interrupt_27 : decode cX7_interrupt 27 = .ok (.getfield 60, 3) := by decide +kernel
theorem dX7_interrupt_30 : decode cX7_interrupt 30 = .ok (.bipush 7, 2) := by decide +kernel
theorem dX7_interrupt_32 : decode cX7_interrupt 32 = .ok (.if_icmp .ge 5, 3) := by decide +kernel
theorem dX7_interrupt_35 : decode cX7_interrupt 35 = .ok (.iconst 0, 1) := by decide +kernel
theorem dX7_interrupt_36 : decode cX7_interrupt 36 = .ok (.ireturn, 1) := by decide +kernel
theorem dX7_interrupt_37 : decode cX7_interrupt 37 = .ok (.aload_n 0, 1) := by decide +kernel
theorem dX7_interrupt_38 : decode cX7_interrupt 38 = .ok (.getfield 60, 3) := by decide +kernel
theorem dX7_interrupt_41 : decode cX7_interrupt 41 = .ok (.istore_n 2, 1) := by decide +kernel
theorem dX7_interrupt_42 : decode cX7_interrupt 42 = .ok (.aload_n 0, 1) := by decide +kernel
theorem dX7_interrupt_43 : decode cX7_interrupt 43 = .ok (.iconst 0, 1) := by decide +kernel
theorem dX7_interrupt_44 : decode cX7_interrupt 44 = .ok (.putfield 60, 3) := by decide +kernel
theorem dX7_interrupt_47 : decode cX7_interrupt 47 = .ok (.aload_n 0, 1) := by decide +kernel
theorem dX7_interrupt_48 : decode cX7_interrupt 48 = .ok (.iconst 0, 1) := by decide +kernel
theorem dX7_interrupt_49 : decode cX7_interrupt 49 = .ok (.putfield 53, 3) := by decide +kernel
theorem dX7_interrupt_52 : decode cX7_interrupt 52 = .ok (.aload_n 0, 1) := by decide +kernel
theorem dX7_interrupt_53 : decode cX7_interrupt 53 = .ok (.bipush 24, 2) := by decide +kernel
theorem dX7_interrupt_55 : decode cX7_interrupt 55 = .ok (.iload_n 2, 1) := by decide +kernel
theorem dX7_interrupt_56 : decode cX7_interrupt 56 = .ok (.iadd, 1) := by decide +kernel
theorem dX7_interrupt_57 : decode cX7_interrupt 57 = .ok (.iconst 0, 1) := by decide +kernel
theorem dX7_interrupt_58 : decode cX7_interrupt 58 = .ok (.iconst 0, 1) := by decide +kernel
theorem dX7_interrupt_59 : decode cX7_interrupt 59 = .ok (.invokevirtual 343, 3) := by decide +kernel
theorem dX7_interrupt_62 : decode cX7_interrupt 62 = .ok (.ifCond .eq 20, 3) := by decide +kernel
theorem dX7_interrupt_65 : decode cX7_interrupt 65 = .ok (.aload_n 0, 1) := by decide +kernel
theorem dX7_interrupt_66 : decode cX7_interrupt 66 = .ok (.aload_n 0, 1) := by decide +kernel
theorem dX7_interrupt_67 : decode cX7_interrupt 67 = .ok (.getfield 50, 3) := by decide +kernel
theorem dX7_interrupt_70 : decode cX7_interrupt 70 = .ok (.sipush (-1793), 3) := by decide +kernel
theorem dX7_interrupt_73 : decode cX7_interrupt 73 = .ok (.iand, 1) := by decide +kernel
theorem dX7_interrupt_74 : decode cX7_interrupt 74 = .ok (.iload_n 2, 1) := by decide +kernel
theorem dX7_interrupt_75 : decode cX7_interrupt 75 = .ok (.bipush 8, 2) := by decide +kernel
theorem dX7_interrupt_77 : decode cX7_interrupt 77 = .ok (.ishl, 1) := by decide +kernel
theorem dX7_interrupt_78 : decode cX7_interrupt 78 = .ok (.ior, 1) := by decide +kernel
theorem dX7_interrupt_79 : decode cX7_interrupt 79 = .ok (.putfield 50, 3) := by decide +kernel
theorem dX7_interrupt_82 : decode cX7_interrupt 82 = .ok (.iconst 1, 1) := by decide +kernel
theorem dX7_interrupt_83 : decode cX7_interrupt 83 = .ok (.ireturn, 1) := by decide +kernel
theorem dX7_want_0 : decode cX7_want 0 = .ok (.aload_n 0, 1) := by decide +kernel
theorem dX7_want_1 : decode cX7_want 1 = .ok (.iload_n 1, 1) := by decide +kernel
theorem dX7_want_2 : decode cX7_want 2 = .ok (.ifCond .lt 9, 3) := by decide +kernel
theorem dX7_want_5 : decode cX7_want 5 = .ok (.iload_n 1, 1) := by decide +kernel
theorem dX7_want_6 : decode cX7_want 6 = .ok (.bipush 7, 2) := by decide +kernel
theorem dX7_want_8 : decode cX7_want 8 = .ok (.if_icmp .le 7, 3) := by decide +kernel
theorem dX7_want_11 : decode cX7_want 11 = .ok (.iconst 1, 1) := by decide +kernel
theorem dX7_want_12 : decode cX7_want 12 = .ok (.goto 4, 3) := by decide +kernel
theorem dX7_want_15 : decode cX7_want 15 = .ok (.iconst 0, 1) := by decide +kernel
theorem dX7_want_16 : decode cX7_want 16 = .ok (.putfield 43, 3) := by decide +kernel
theorem dX7_want_19 : decode cX7_want 19 = .ok (.aload_n 0, 1) := by decide +kernel
theorem dX7_want_20 : decode cX7_want 20 = .ok (.getfield 43, 3) := by decide +kernel
theorem dX7_want_23 : decode cX7_want 23 = .ok (.ifCond .ne 8, 3) := by decide +kernel
theorem dX7_want_26 : decode cX7_want 26 = .ok (.aload_n 0, 1) := by decide +kernel
theorem dX7_want_27 : decode cX7_want 27 = .ok (.iload_n 1, 1) := by decide +kernel
theorem dX7_want_28 : decode cX7_want 28 = .ok (.putfield 60, 3) := by decide +kernel
theorem dX7_want_31 : decode cX7_want 31 = .ok (.return_, 1) := by decide +kernel
theorem dX7_step_0 : decode cX7_step 0 = .ok (.aload_n 0, 1) := by decide +kernel
theorem dX7_step_1 : decode cX7_step 1 = .ok (.iload_n 1, 1) := by decide +kernel
theorem dX7_step_2 : decode cX7_step 2 = .ok (.ifCond .lt 10, 3) := by decide +kernel
theorem dX7_step_5 : decode cX7_step 5 = .ok (.iload_n 1, 1) := by decide +kernel
theorem dX7_step_6 : decode cX7_step 6 = .ok (.sipush 3000, 3) := by decide +kernel
theorem dX7_step_9 : decode cX7_step 9 = .ok (.if_icmp .le 7, 3) := by decide +kernel
theorem dX7_step_12 : decode cX7_step 12 = .ok (.iconst 1, 1) := by decide +kernel
theorem dX7_step_13 : decode cX7_step 13 = .ok (.goto 4, 3) := by decide +kernel
theorem dX7_step_16 : decode cX7_step 16 = .ok (.iconst 0, 1) := by decide +kernel
theorem dX7_step_17 : decode cX7_step 17 = .ok (.putfield 43, 3) := by decide +kernel
theorem dX7_step_20 : decode cX7_step 20 = .ok (.iconst 0, 1) := by decide +kernel
theorem dX7_step_21 : decode cX7_step 21 = .ok (.istore_n 2, 1) := by decide +kernel
theorem dX7_step_22 : decode cX7_step 22 = .ok (.aload_n 0, 1) := by decide +kernel
theorem dX7_step_23 : decode cX7_step 23 = .ok (.getfield 43, 3) := by decide +kernel
theorem dX7_step_26 : decode cX7_step 26 = .ok (.ifCond .ne 46, 3) := by decide +kernel
theorem dX7_step_29 : decode cX7_step 29 = .ok (.iload_n 2, 1) := by decide +kernel
theorem dX7_step_30 : decode cX7_step 30 = .ok (.iload_n 1, 1) := by decide +kernel
theorem dX7_step_31 : decode cX7_step 31 = .ok (.if_icmp .ge 41, 3) := by decide +kernel
theorem dX7_step_34 : decode cX7_step 34 = .ok (.aload_n 0, 1) := by decide +kernel
theorem dX7_step_35 : decode cX7_step 35 = .ok (.getfield 57, 3) := by decide +kernel
theorem dX7_step_38 : decode cX7_step 38 = .ok (.ifCond .ne 34, 3) := by decide +kernel
theorem dX7_step_41 : decode cX7_step 41 = .ok (.aload_n 0, 1) := by decide +kernel
theorem dX7_step_42 : decode cX7_step 42 = .ok (.iconst 0, 1) := by decide +kernel
theorem dX7_step_43 : decode cX7_step 43 = .ok (.putfield 79, 3) := by decide +kernel
theorem dX7_step_46 : decode cX7_step 46 = .ok (.aload_n 0, 1) := by decide +kernel
theorem dX7_step_47 : decode cX7_step 47 = .ok (.invokevirtual 347, 3) := by decide +kernel
theorem dX7_step_50 : decode cX7_step 50 = .ok (.ifCond .ne 16, 3) := by decide +kernel
theorem dX7_step_53 : decode cX7_step 53 = .ok (.aload_n 0, 1) := by decide +kernel
theorem dX7_step_54 : decode cX7_step 54 = .ok (.getfield 53, 3) := by decide +kernel
theorem dX7_step_57 : decode cX7_step 57 = .ok (.ifCond .eq 5, 3) := by decide +kernel
theorem dX7_step_60 : decode cX7_step 60 = .ok (.iload_n 2, 1) := by decide +kernel
theorem dX7_step_61 : decode cX7_step 61 = .ok (.ireturn, 1) := by decide +kernel
theorem dX7_step_62 : decode cX7_step 62 = .ok (.aload_n 0, 1) := by decide +kernel
theorem dX7_step_63 : decode cX7_step 63 = .ok (.invokevirtual 350, 3) := by decide +kernel
theorem dX7_step_66 : decode cX7_step 66 = .ok (.iinc 2 1, 3) := by decide +kernel
theorem dX7_step_69 : decode cX7_step 69 = .ok (.goto (-47), 3) := by decide +kernel
theorem dX7_step_72 : decode cX7_step 72 = .ok (.iload_n 2, 1) := by decide +kernel
theorem dX7_step_73 : decode cX7_step 73 = .ok (.ireturn, 1) := by decide +kernel
theorem dX7_state_0 : decode cX7_state 0 = .ok (.aload_n 0, 1) := by decide +kernel
theorem dX7_state_1 : decode cX7_state 1 = .ok (.iconst 0, 1) := by decide +kernel
theorem dX7_state_2 : decode cX7_state 2 = .ok (.putfield 43, 3) := by decide +kernel
theorem dX7_state_5 : decode cX7_state 5 = .ok (.aload_n 0, 1) := by decide +kernel
theorem dX7_state_6 : decode cX7_state 6 = .ok (.getfield 57, 3) := by decide +kernel
theorem dX7_state_9 : decode cX7_state 9 = .ok (.ifCond .eq 7, 3) := by decide +kernel
theorem dX7_state_12 : decode cX7_state 12 = .ok (.iconst 2, 1) := by decide +kernel
theorem dX7_state_13 : decode cX7_state 13 = .ok (.goto 15, 3) := by decide +kernel
theorem dX7_state_16 : decode cX7_state 16 = .ok (.aload_n 0, 1) := by decide +kernel
theorem dX7_state_17 : decode cX7_state 17 = .ok (.getfield 53, 3) := by decide +kernel
theorem dX7_state_20 : decode cX7_state 20 = .ok (.ifCond .eq 7, 3) := by decide +kernel
theorem dX7_state_23 : decode cX7_state 23 = .ok (.iconst 1, 1) := by decide +kernel
theorem dX7_state_24 : decode cX7_state 24 = .ok (.goto 4, 3) := by decide +kernel
theorem dX7_state_27 : decode cX7_state 27 = .ok (.iconst 0, 1) := by decide +kernel
theorem dX7_state_28 : decode cX7_state 28 = .ok (.ireturn, 1) := by decide +kernel
theorem dX7_exceptions_0 : decode cX7_exceptions 0 = .ok (.aload_n 0, 1) := by decide +kernel
theorem dX7_exceptions_1 : decode cX7_exceptions 1 = .ok (.iload_n 1, 1) := by decide +kernel
theorem dX7_exceptions_2 : decode cX7_exceptions 2 = .ok (.ifCond .lt 9, 3) := by decide +kernel
theorem dX7_exceptions_5 : decode cX7_exceptions 5 = .ok (.iload_n 1, 1) := by decide +kernel
theorem dX7_exceptions_6 : decode cX7_exceptions 6 = .ok (.bipush 63, 2) := by decide +kernel
theorem dX7_exceptions_8 : decode cX7_exceptions 8 = .ok (.if_icmp .le 7, 3) := by decide +kernel
theorem dX7_exceptions_11 : decode cX7_exceptions 11 = .ok (.iconst 1, 1) := by decide +kernel
theorem dX7_exceptions_12 : decode cX7_exceptions 12 = .ok (.goto 4, 3) := by decide +kernel
theorem dX7_exceptions_15 : decode cX7_exceptions 15 = .ok (.iconst 0, 1) := by decide +kernel
theorem dX7_exceptions_16 : decode cX7_exceptions 16 = .ok (.putfield 43, 3) := by decide +kernel
theorem dX7_exceptions_19 : decode cX7_exceptions 19 = .ok (.aload_n 0, 1) := by decide +kernel
theorem dX7_exceptions_20 : decode cX7_exceptions 20 = .ok (.getfield 43, 3) := by decide +kernel
theorem dX7_exceptions_23 : decode cX7_exceptions 23 = .ok (.ifCond .le 7, 3) := by decide +kernel
theorem dX7_exceptions_26 : decode cX7_exceptions 26 = .ok (.iconst 0, 1) := by decide +kernel
theorem dX7_exceptions_27 : decode cX7_exceptions 27 = .ok (.goto 20, 3) := by decide +kernel
theorem dX7_exceptions_30 : decode cX7_exceptions 30 = .ok (.iload_n 1, 1) := by decide +kernel
theorem dX7_exceptions_31 : decode cX7_exceptions 31 = .ok (.ifCond .ne 10, 3) := by decide +kernel
theorem dX7_exceptions_34 : decode cX7_exceptions 34 = .ok (.aload_n 0, 1) := by decide +kernel
theorem dX7_exceptions_35 : decode cX7_exceptions 35 = .ok (.getfield 63, 3) := by decide +kernel
theorem dX7_exceptions_38 : decode cX7_exceptions 38 = .ok (.goto 9, 3) := by decide +kernel
theorem dX7_exceptions_41 : decode cX7_exceptions 41 = .ok (.aload_n 0, 1) := by decide +kernel
theorem dX7_exceptions_42 : decode cX7_exceptions 42 = .ok (.getfield 22, 3) := by decide +kernel
theorem dX7_exceptions_45 : decode cX7_exceptions 45 = .ok (.iload_n 1, 1) := by decide +kernel
theorem dX7_exceptions_46 : decode cX7_exceptions 46 = .ok (.iaload, 1) := by decide +kernel
theorem dX7_exceptions_47 : decode cX7_exceptions 47 = .ok (.ireturn, 1) := by decide +kernel
theorem dJ7_fill_53178_0 : decode cJ7_fill_53178 0 = .ok (.iconst 0, 1) := by decide +kernel
theorem dJ7_fill_53178_1 : decode cJ7_fill_53178 1 = .ok (.istore_n 2, 1) := by decide +kernel
theorem dJ7_fill_53178_2 : decode cJ7_fill_53178 2 = .ok (.aload_n 0, 1) := by decide +kernel
theorem dJ7_fill_53178_3 : decode cJ7_fill_53178 3 = .ok (.arraylength, 1) := by decide +kernel
theorem dJ7_fill_53178_4 : decode cJ7_fill_53178 4 = .ok (.istore_n 3, 1) := by decide +kernel
theorem dJ7_fill_53178_5 : decode cJ7_fill_53178 5 = .ok (.iload_n 2, 1) := by decide +kernel
theorem dJ7_fill_53178_6 : decode cJ7_fill_53178 6 = .ok (.iload_n 3, 1) := by decide +kernel
theorem dJ7_fill_53178_7 : decode cJ7_fill_53178 7 = .ok (.if_icmp .ge 13, 3) := by decide +kernel
theorem dJ7_fill_53178_10 : decode cJ7_fill_53178 10 = .ok (.aload_n 0, 1) := by decide +kernel
theorem dJ7_fill_53178_11 : decode cJ7_fill_53178 11 = .ok (.iload_n 2, 1) := by decide +kernel
theorem dJ7_fill_53178_12 : decode cJ7_fill_53178 12 = .ok (.iload_n 1, 1) := by decide +kernel
theorem dJ7_fill_53178_13 : decode cJ7_fill_53178 13 = .ok (.iastore, 1) := by decide +kernel
theorem dJ7_fill_53178_14 : decode cJ7_fill_53178 14 = .ok (.iinc 2 1, 3) := by decide +kernel
theorem dJ7_fill_53178_17 : decode cJ7_fill_53178 17 = .ok (.goto (-12), 3) := by decide +kernel
theorem dJ7_fill_53178_20 : decode cJ7_fill_53178 20 = .ok (.return_, 1) := by decide +kernel
theorem dL_register_0 : decode cL_register 0 = .ok (.aload_n 2, 1) := by decide +kernel
theorem dL_register_1 : decode cL_register 1 = .ok (.iconst 0, 1) := by decide +kernel
theorem dL_register_2 : decode cL_register 2 = .ok (.aload_n 0, 1) := by decide +kernel
theorem dL_register_3 : decode cL_register 3 = .ok (.iload_n 1, 1) := by decide +kernel
theorem dL_register_4 : decode cL_register 4 = .ok (.invokevirtual 7, 3) := by decide +kernel
theorem dL_register_7 : decode cL_register 7 = .ok (.i2l, 1) := by decide +kernel
theorem dL_register_8 : decode cL_register 8 = .ok (.lastore, 1) := by decide +kernel
theorem dL_register_9 : decode cL_register 9 = .ok (.goto 6, 3) := by decide +kernel
theorem dL_register_12 : decode cL_register 12 = .ok (.astore_n 3, 1) := by decide +kernel
theorem dL_register_13 : decode cL_register 13 = .ok (.iconst 1, 1) := by decide +kernel
theorem dL_register_14 : decode cL_register 14 = .ok (.ireturn, 1) := by decide +kernel
theorem dL_register_15 : decode cL_register 15 = .ok (.iconst 0, 1) := by decide +kernel
theorem dL_register_16 : decode cL_register 16 = .ok (.ireturn, 1) := by decide +kernel
theorem dL_put_0 : decode cL_put 0 = .ok (.aload_n 0, 1) := by decide +kernel
theorem dL_put_1 : decode cL_put 1 = .ok (.iload_n 1, 1) := by decide +kernel
theorem dL_put_2 : decode cL_put 2 = .ok (.iload_n 2, 1) := by decide +kernel
theorem dL_put_3 : decode cL_put 3 = .ok (.invokevirtual 15, 3) := by decide +kernel
theorem dL_put_6 : decode cL_put 6 = .ok (.goto 6, 3) := by decide +kernel
theorem dL_put_9 : decode cL_put 9 = .ok (.astore_n 3, 1) := by decide +kernel
theorem dL_put_10 : decode cL_put 10 = .ok (.iconst 1, 1) := by decide +kernel
theorem dL_put_11 : decode cL_put 11 = .ok (.ireturn, 1) := by decide +kernel
theorem dL_put_12 : decode cL_put 12 = .ok (.iconst 0, 1) := by decide +kernel
theorem dL_put_13 : decode cL_put 13 = .ok (.ireturn, 1) := by decide +kernel
theorem dL_write_0 : decode cL_write 0 = .ok (.aload_n 0, 1) := by decide +kernel
theorem dL_write_1 : decode cL_write 1 = .ok (.iload_n 1, 1) := by decide +kernel
theorem dL_write_2 : decode cL_write 2 = .ok (.iload_n 2, 1) := by decide +kernel
theorem dL_write_3 : decode cL_write 3 = .ok (.iload_n 3, 1) := by decide +kernel
theorem dL_write_4 : decode cL_write 4 = .ok (.invokevirtual 19, 3) := by decide +kernel
theorem dL_write_7 : decode cL_write 7 = .ok (.goto 7, 3) := by decide +kernel
theorem dL_write_10 : decode cL_write 10 = .ok (.astore 4, 2) := by decide +kernel
theorem dL_write_12 : decode cL_write 12 = .ok (.iconst 1, 1) := by decide +kernel
theorem dL_write_13 : decode cL_write 13 = .ok (.ireturn, 1) := by decide +kernel
theorem dL_write_14 : decode cL_write 14 = .ok (.iconst 0, 1) := by decide +kernel
theorem dL_write_15 : decode cL_write 15 = .ok (.ireturn, 1) := by decide +kernel
theorem dL_read_0 : decode cL_read 0 = .ok (.aload_n 3, 1) := by decide +kernel
theorem dL_read_1 : decode cL_read 1 = .ok (.iconst 0, 1) := by decide +kernel
theorem dL_read_2 : decode cL_read 2 = .ok (.aload_n 0, 1) := by decide +kernel
theorem dL_read_3 : decode cL_read 3 = .ok (.iload_n 1, 1) := by decide +kernel
theorem dL_read_4 : decode cL_read 4 = .ok (.iload_n 2, 1) := by decide +kernel
theorem dL_read_5 : decode cL_read 5 = .ok (.invokevirtual 25, 3) := by decide +kernel
theorem dL_read_8 : decode cL_read 8 = .ok (.i2l, 1) := by decide +kernel
theorem dL_read_9 : decode cL_read 9 = .ok (.lastore, 1) := by decide +kernel
theorem dL_read_10 : decode cL_read 10 = .ok (.goto 7, 3) := by decide +kernel
theorem dL_read_13 : decode cL_read 13 = .ok (.astore 4, 2) := by decide +kernel
theorem dL_read_15 : decode cL_read 15 = .ok (.iconst 1, 1) := by decide +kernel
theorem dL_read_16 : decode cL_read 16 = .ok (.ireturn, 1) := by decide +kernel
theorem dL_read_17 : decode cL_read 17 = .ok (.iconst 0, 1) := by decide +kernel
theorem dL_read_18 : decode cL_read 18 = .ok (.ireturn, 1) := by decide +kernel
theorem dL_want_0 : decode cL_want 0 = .ok (.aload_n 0, 1) := by decide +kernel
theorem dL_want_1 : decode cL_want 1 = .ok (.iload_n 1, 1) := by decide +kernel
theorem dL_want_2 : decode cL_want 2 = .ok (.invokevirtual 29, 3) := by decide +kernel
theorem dL_want_5 : decode cL_want 5 = .ok (.goto 6, 3) := by decide +kernel
theorem dL_want_8 : decode cL_want 8 = .ok (.astore_n 2, 1) := by decide +kernel
theorem dL_want_9 : decode cL_want 9 = .ok (.iconst 1, 1) := by decide +kernel
theorem dL_want_10 : decode cL_want 10 = .ok (.ireturn, 1) := by decide +kernel
theorem dL_want_11 : decode cL_want 11 = .ok (.iconst 0, 1) := by decide +kernel
theorem dL_want_12 : decode cL_want 12 = .ok (.ireturn, 1) := by decide +kernel
theorem dL_step_0 : decode cL_step 0 = .ok (.aload_n 2, 1) := by decide +kernel
theorem dL_step_1 : decode cL_step 1 = .ok (.iconst 0, 1) := by decide +kernel
theorem dL_step_2 : decode cL_step 2 = .ok (.aload_n 0, 1) := by decide +kernel
theorem dL_step_3 : decode cL_step 3 = .ok (.iload_n 1, 1) := by decide +kernel
theorem dL_step_4 : decode cL_step 4 = .ok (.invokevirtual 33, 3) := by decide +kernel
theorem dL_step_7 : decode cL_step 7 = .ok (.i2l, 1) := by decide +kernel
theorem dL_step_8 : decode cL_step 8 = .ok (.lastore, 1) := by decide +kernel
theorem dL_step_9 : decode cL_step 9 = .ok (.goto 6, 3) := by decide +kernel
theorem dL_step_12 : decode cL_step 12 = .ok (.astore_n 3, 1) := by decide +kernel
theorem dL_step_13 : decode cL_step 13 = .ok (.iconst 1, 1) := by decide +kernel
theorem dL_step_14 : decode cL_step 14 = .ok (.ireturn, 1) := by decide +kernel
theorem dL_step_15 : decode cL_step 15 = .ok (.iconst 0, 1) := by decide +kernel
theorem dL_step_16 : decode cL_step 16 = .ok (.ireturn, 1) := by decide +kernel
theorem dL_exceptions_0 : decode cL_exceptions 0 = .ok (.aload_n 2, 1) := by decide +kernel
theorem dL_exceptions_1 : decode cL_exceptions 1 = .ok (.iconst 0, 1) := by decide +kernel
theorem dL_exceptions_2 : decode cL_exceptions 2 = .ok (.aload_n 0, 1) := by decide +kernel
theorem dL_exceptions_3 : decode cL_exceptions 3 = .ok (.iload_n 1, 1) := by decide +kernel
theorem dL_exceptions_4 : decode cL_exceptions 4 = .ok (.invokevirtual 36, 3) := by decide +kernel
theorem dL_exceptions_7 : decode cL_exceptions 7 = .ok (.i2l, 1) := by decide +kernel
theorem dL_exceptions_8 : decode cL_exceptions 8 = .ok (.lastore, 1) := by decide +kernel
theorem dL_exceptions_9 : decode cL_exceptions 9 = .ok (.goto 6, 3) := by decide +kernel
theorem dL_exceptions_12 : decode cL_exceptions 12 = .ok (.astore_n 3, 1) := by decide +kernel
theorem dL_exceptions_13 : decode cL_exceptions 13 = .ok (.iconst 1, 1) := by decide +kernel
theorem dL_exceptions_14 : decode cL_exceptions 14 = .ok (.ireturn, 1) := by decide +kernel
theorem dL_exceptions_15 : decode cL_exceptions 15 = .ok (.iconst 0, 1) := by decide +kernel
theorem dL_exceptions_16 : decode cL_exceptions 16 = .ok (.ireturn, 1) := by decide +kernel
theorem dL_law_0 : decode cL_law 0 = .ok (.new 8, 3) := by decide +kernel
theorem dL_law_3 : decode cL_law 3 = .ok (.dup, 1) := by decide +kernel
theorem dL_law_4 : decode cL_law 4 = .ok (.invokespecial 39, 3) := by decide +kernel
theorem dL_law_7 : decode cL_law 7 = .ok (.astore_n 1, 1) := by decide +kernel
theorem dL_law_8 : decode cL_law 8 = .ok (.new 40, 3) := by decide +kernel
theorem dL_law_11 : decode cL_law 11 = .ok (.dup, 1) := by decide +kernel
theorem dL_law_12 : decode cL_law 12 = .ok (.invokespecial 42, 3) := by decide +kernel
theorem dL_law_15 : decode cL_law 15 = .ok (.astore_n 2, 1) := by decide +kernel
theorem dL_law_16 : decode cL_law 16 = .ok (.iconst 1, 1) := by decide +kernel
theorem dL_law_17 : decode cL_law 17 = .ok (.newarray .long, 2) := by decide +kernel
theorem dL_law_19 : decode cL_law 19 = .ok (.astore_n 3, 1) := by decide +kernel
theorem dL_law_20 : decode cL_law 20 = .ok (.iconst 0, 1) := by decide +kernel
theorem dL_law_21 : decode cL_law 21 = .ok (.istore 4, 2) := by decide +kernel
theorem dL_law_23 : decode cL_law 23 = .ok (.iload 4, 2) := by decide +kernel
theorem dL_law_25 : decode cL_law 25 = .ok (.aload_n 0, 1) := by decide +kernel
theorem dL_law_26 : decode cL_law 26 = .ok (.arraylength, 1) := by decide +kernel
theorem dL_law_27 : decode cL_law 27 = .ok (.iconst 4, 1) := by decide +kernel
theorem dL_law_28 : decode cL_law 28 = .ok (.isub, 1) := by decide +kernel
theorem dL_law_29 : decode cL_law 29 = .ok (.if_icmp .gt 486, 3) := by decide +kernel
theorem dL_law_32 : decode cL_law 32 = .ok (.aload_n 0, 1) := by decide +kernel
theorem dL_law_33 : decode cL_law 33 = .ok (.iload 4, 2) := by decide +kernel
theorem dL_law_35 : decode cL_law 35 = .ok (.iaload, 1) := by decide +kernel
theorem dL_law_36 : decode cL_law 36 = .ok (.bipush 15, 2) := by decide +kernel
theorem dL_law_38 : decode cL_law 38 = .ok (.iand, 1) := by decide +kernel
theorem dL_law_39 : decode cL_law 39 = .ok (.tableswitch 470 0 9 #[53, 64, 120, 168, 228, 296, 332, 388, 401, 457], 53) := by decide +kernel
theorem dL_law_92 : decode cL_law 92 = .ok (.aload_n 1, 1) := by decide +kernel
theorem dL_law_93 : decode cL_law 93 = .ok (.invokevirtual 43, 3) := by decide +kernel
theorem dL_law_96 : decode cL_law 96 = .ok (.aload_n 2, 1) := by decide +kernel
theorem dL_law_97 : decode cL_law 97 = .ok (.invokevirtual 46, 3) := by decide +kernel
theorem dL_law_100 : decode cL_law 100 = .ok (.goto 409, 3) := by decide +kernel
theorem dL_law_103 : decode cL_law 103 = .ok (.aload_n 1, 1) := by decide +kernel
theorem dL_law_104 : decode cL_law 104 = .ok (.aload_n 0, 1) := by decide +kernel
theorem dL_law_105 : decode cL_law 105 = .ok (.iload 4, 2) := by decide +kernel
theorem dL_law_107 : decode cL_law 107 = .ok (.iconst 1, 1) := by decide +kernel
theorem dL_law_108 : decode cL_law 108 = .ok (.iadd, 1) := by decide +kernel
theorem dL_law_109 : decode cL_law 109 = .ok (.iaload, 1) := by decide +kernel
theorem dL_law_110 : decode cL_law 110 = .ok (.aload_n 3, 1) := by decide +kernel
theorem dL_law_111 : decode cL_law 111 = .ok (.invokestatic 47, 3) := by decide +kernel
theorem dL_law_114 : decode cL_law 114 = .ok (.istore 5, 2) := by decide +kernel
theorem dL_law_116 : decode cL_law 116 = .ok (.aload_n 2, 1) := by decide +kernel
theorem dL_law_117 : decode cL_law 117 = .ok (.aload_n 0, 1) := by decide +kernel
theorem dL_law_118 : decode cL_law 118 = .ok (.iload 4, 2) := by decide +kernel
theorem dL_law_120 : decode cL_law 120 = .ok (.iconst 1, 1) := by decide +kernel
theorem dL_law_121 : decode cL_law 121 = .ok (.iadd, 1) := by decide +kernel
theorem dL_law_122 : decode cL_law 122 = .ok (.iaload, 1) := by decide +kernel
theorem dL_law_123 : decode cL_law 123 = .ok (.invokevirtual 52, 3) := by decide +kernel
theorem dL_law_126 : decode cL_law 126 = .ok (.istore 6, 2) := by decide +kernel
theorem dL_law_128 : decode cL_law 128 = .ok (.aload_n 2, 1) := by decide +kernel
theorem dL_law_129 : decode cL_law 129 = .ok (.invokevirtual 53, 3) := by decide +kernel
theorem dL_law_132 : decode cL_law 132 = .ok (.iload 5, 2) := by decide +kernel
theorem dL_law_134 : decode cL_law 134 = .ok (.if_icmp .eq 5, 3) := by decide +kernel
theorem dL_law_137 : decode cL_law 137 = .ok (.iconst 0, 1) := by decide +kernel
theorem dL_law_138 : decode cL_law 138 = .ok (.ireturn, 1) := by decide +kernel
theorem dL_law_139 : decode cL_law 139 = .ok (.iload 5, 2) := by decide +kernel
theorem dL_law_141 : decode cL_law 141 = .ok (.ifCond .ne 15, 3) := by decide +kernel
theorem dL_law_144 : decode cL_law 144 = .ok (.aload_n 3, 1) := by decide +kernel
theorem dL_law_145 : decode cL_law 145 = .ok (.iconst 0, 1) := by decide +kernel
theorem dL_law_146 : decode cL_law 146 = .ok (.laload, 1) := by decide +kernel
theorem dL_law_147 : decode cL_law 147 = .ok (.iload 6, 2) := by decide +kernel
theorem dL_law_149 : decode cL_law 149 = .ok (.i2l, 1) := by decide +kernel
theorem dL_law_150 : decode cL_law 150 = .ok (.lcmp, 1) := by decide +kernel
theorem dL_law_151 : decode cL_law 151 = .ok (.ifCond .eq 5, 3) := by decide +kernel
theorem dL_law_154 : decode cL_law 154 = .ok (.iconst 0, 1) := by decide +kernel
theorem dL_law_155 : decode cL_law 155 = .ok (.ireturn, 1) := by decide +kernel
theorem dL_law_156 : decode cL_law 156 = .ok (.goto 353, 3) := by decide +kernel
theorem dL_law_159 : decode cL_law 159 = .ok (.aload_n 1, 1) := by decide +kernel
theorem dL_law_160 : decode cL_law 160 = .ok (.aload_n 0, 1) := by decide +kernel
theorem dL_law_161 : decode cL_law 161 = .ok (.iload 4, 2) := by decide +kernel
theorem dL_law_163 : decode cL_law 163 = .ok (.iconst 1, 1) := by decide +kernel
theorem dL_law_164 : decode cL_law 164 = .ok (.iadd, 1) := by decide +kernel
theorem dL_law_165 : decode cL_law 165 = .ok (.iaload, 1) := by decide +kernel
theorem dL_law_166 : decode cL_law 166 = .ok (.aload_n 0, 1) := by decide +kernel
theorem dL_law_167 : decode cL_law 167 = .ok (.iload 4, 2) := by decide +kernel
theorem dL_law_169 : decode cL_law 169 = .ok (.iconst 2, 1) := by decide +kernel
theorem dL_law_170 : decode cL_law 170 = .ok (.iadd, 1) := by decide +kernel
theorem dL_law_171 : decode cL_law 171 = .ok (.iaload, 1) := by decide +kernel
theorem dL_law_172 : decode cL_law 172 = .ok (.invokestatic 57, 3) := by decide +kernel
theorem dL_law_175 : decode cL_law 175 = .ok (.istore 5, 2) := by decide +kernel
theorem dL_law_177 : decode cL_law 177 = .ok (.aload_n 2, 1) := by decide +kernel
theorem dL_law_178 : decode cL_law 178 = .ok (.aload_n 0, 1) := by decide +kernel
theorem dL_law_179 : decode cL_law 179 = .ok (.iload 4, 2) := by decide +kernel
theorem dL_law_181 : decode cL_law 181 = .ok (.iconst 1, 1) := by decide +kernel
theorem dL_law_182 : decode cL_law 182 = .ok (.iadd, 1) := by decide +kernel
theorem dL_law_183 : decode cL_law 183 = .ok (.iaload, 1) := by decide +kernel
theorem dL_law_184 : decode cL_law 184 = .ok (.aload_n 0, 1) := by decide +kernel
theorem dL_law_185 : decode cL_law 185 = .ok (.iload 4, 2) := by decide +kernel
theorem dL_law_187 : decode cL_law 187 = .ok (.iconst 2, 1) := by decide +kernel
theorem dL_law_188 : decode cL_law 188 = .ok (.iadd, 1) := by decide +kernel
theorem dL_law_189 : decode cL_law 189 = .ok (.iaload, 1) := by decide +kernel
theorem dL_law_190 : decode cL_law 190 = .ok (.invokevirtual 60, 3) := by decide +kernel
theorem dL_law_193 : decode cL_law 193 = .ok (.aload_n 2, 1) := by decide +kernel
theorem dL_law_194 : decode cL_law 194 = .ok (.invokevirtual 53, 3) := by decide +kernel
theorem dL_law_197 : decode cL_law 197 = .ok (.iload 5, 2) := by decide +kernel
theorem dL_law_199 : decode cL_law 199 = .ok (.if_icmp .eq 5, 3) := by decide +kernel
theorem dL_law_202 : decode cL_law 202 = .ok (.iconst 0, 1) := by decide +kernel
theorem dL_law_203 : decode cL_law 203 = .ok (.ireturn, 1) := by decide +kernel
theorem dL_law_204 : decode cL_law 204 = .ok (.goto 305, 3) := by decide +kernel
theorem dL_law_207 : decode cL_law 207 = .ok (.aload_n 1, 1) := by decide +kernel
theorem dL_law_208 : decode cL_law 208 = .ok (.aload_n 0, 1) := by decide +kernel
theorem dL_law_209 : decode cL_law 209 = .ok (.iload 4, 2) := by decide +kernel
theorem dL_law_211 : decode cL_law 211 = .ok (.iconst 1, 1) := by decide +kernel
theorem dL_law_212 : decode cL_law 212 = .ok (.iadd, 1) := by decide +kernel
theorem dL_law_213 : decode cL_law 213 = .ok (.iaload, 1) := by decide +kernel
theorem dL_law_214 : decode cL_law 214 = .ok (.aload_n 0, 1) := by decide +kernel
theorem dL_law_215 : decode cL_law 215 = .ok (.iload 4, 2) := by decide +kernel
theorem dL_law_217 : decode cL_law 217 = .ok (.iconst 2, 1) := by decide +kernel
theorem dL_law_218 : decode cL_law 218 = .ok (.iadd, 1) := by decide +kernel
theorem dL_law_219 : decode cL_law 219 = .ok (.iaload, 1) := by decide +kernel
theorem dL_law_220 : decode cL_law 220 = .ok (.aload_n 0, 1) := by decide +kernel
theorem dL_law_221 : decode cL_law 221 = .ok (.iload 4, 2) := by decide +kernel
theorem dL_law_223 : decode cL_law 223 = .ok (.iconst 3, 1) := by decide +kernel
theorem dL_law_224 : decode cL_law 224 = .ok (.iadd, 1) := by decide +kernel
theorem dL_law_225 : decode cL_law 225 = .ok (.iaload, 1) := by decide +kernel
theorem dL_law_226 : decode cL_law 226 = .ok (.invokestatic 61, 3) := by decide +kernel
theorem dL_law_229 : decode cL_law 229 = .ok (.istore 5, 2) := by decide +kernel
theorem dL_law_231 : decode cL_law 231 = .ok (.aload_n 2, 1) := by decide +kernel
theorem dL_law_232 : decode cL_law 232 = .ok (.aload_n 0, 1) := by decide +kernel
theorem dL_law_233 : decode cL_law 233 = .ok (.iload 4, 2) := by decide +kernel
theorem dL_law_235 : decode cL_law 235 = .ok (.iconst 1, 1) := by decide +kernel
theorem dL_law_236 : decode cL_law 236 = .ok (.iadd, 1) := by decide +kernel
theorem dL_law_237 : decode cL_law 237 = .ok (.iaload, 1) := by decide +kernel
theorem dL_law_238 : decode cL_law 238 = .ok (.aload_n 0, 1) := by decide +kernel
theorem dL_law_239 : decode cL_law 239 = .ok (.iload 4, 2) := by decide +kernel
theorem dL_law_241 : decode cL_law 241 = .ok (.iconst 2, 1) := by decide +kernel
theorem dL_law_242 : decode cL_law 242 = .ok (.iadd, 1) := by decide +kernel
theorem dL_law_243 : decode cL_law 243 = .ok (.iaload, 1) := by decide +kernel
theorem dL_law_244 : decode cL_law 244 = .ok (.aload_n 0, 1) := by decide +kernel
theorem dL_law_245 : decode cL_law 245 = .ok (.iload 4, 2) := by decide +kernel
theorem dL_law_247 : decode cL_law 247 = .ok (.iconst 3, 1) := by decide +kernel
theorem dL_law_248 : decode cL_law 248 = .ok (.iadd, 1) := by decide +kernel
theorem dL_law_249 : decode cL_law 249 = .ok (.iaload, 1) := by decide +kernel
theorem dL_law_250 : decode cL_law 250 = .ok (.invokevirtual 64, 3) := by decide +kernel
theorem dL_law_253 : decode cL_law 253 = .ok (.aload_n 2, 1) := by decide +kernel
theorem dL_law_254 : decode cL_law 254 = .ok (.invokevirtual 53, 3) := by decide +kernel
theorem dL_law_257 : decode cL_law 257 = .ok (.iload 5, 2) := by decide +kernel
theorem dL_law_259 : decode cL_law 259 = .ok (.if_icmp .eq 5, 3) := by decide +kernel
theorem dL_law_262 : decode cL_law 262 = .ok (.iconst 0, 1) := by decide +kernel
theorem dL_law_263 : decode cL_law 263 = .ok (.ireturn, 1) := by decide +kernel
theorem dL_law_264 : decode cL_law 264 = .ok (.goto 245, 3) := by decide +kernel
theorem dL_law_267 : decode cL_law 267 = .ok (.aload_n 1, 1) := by decide +kernel
theorem dL_law_268 : decode cL_law 268 = .ok (.aload_n 0, 1) := by decide +kernel
theorem dL_law_269 : decode cL_law 269 = .ok (.iload 4, 2) := by decide +kernel
theorem dL_law_271 : decode cL_law 271 = .ok (.iconst 1, 1) := by decide +kernel
theorem dL_law_272 : decode cL_law 272 = .ok (.iadd, 1) := by decide +kernel
theorem dL_law_273 : decode cL_law 273 = .ok (.iaload, 1) := by decide +kernel
theorem dL_law_274 : decode cL_law 274 = .ok (.aload_n 0, 1) := by decide +kernel
theorem dL_law_275 : decode cL_law 275 = .ok (.iload 4, 2) := by decide +kernel
theorem dL_law_277 : decode cL_law 277 = .ok (.iconst 2, 1) := by decide +kernel
theorem dL_law_278 : decode cL_law 278 = .ok (.iadd, 1) := by decide +kernel
theorem dL_law_279 : decode cL_law 279 = .ok (.iaload, 1) := by decide +kernel
theorem dL_law_280 : decode cL_law 280 = .ok (.aload_n 3, 1) := by decide +kernel
theorem dL_law_281 : decode cL_law 281 = .ok (.invokestatic 65, 3) := by decide +kernel
theorem dL_law_284 : decode cL_law 284 = .ok (.istore 5, 2) := by decide +kernel
theorem dL_law_286 : decode cL_law 286 = .ok (.aload_n 2, 1) := by decide +kernel
theorem dL_law_287 : decode cL_law 287 = .ok (.aload_n 0, 1) := by decide +kernel
theorem dL_law_288 : decode cL_law 288 = .ok (.iload 4, 2) := by decide +kernel
theorem dL_law_290 : decode cL_law 290 = .ok (.iconst 1, 1) := by decide +kernel
theorem dL_law_291 : decode cL_law 291 = .ok (.iadd, 1) := by decide +kernel
theorem dL_law_292 : decode cL_law 292 = .ok (.iaload, 1) := by decide +kernel
theorem dL_law_293 : decode cL_law 293 = .ok (.aload_n 0, 1) := by decide +kernel
theorem dL_law_294 : decode cL_law 294 = .ok (.iload 4, 2) := by decide +kernel
theorem dL_law_296 : decode cL_law 296 = .ok (.iconst 2, 1) := by decide +kernel
theorem dL_law_297 : decode cL_law 297 = .ok (.iadd, 1) := by decide +kernel
theorem dL_law_298 : decode cL_law 298 = .ok (.iaload, 1) := by decide +kernel
theorem dL_law_299 : decode cL_law 299 = .ok (.invokevirtual 68, 3) := by decide +kernel
theorem dL_law_302 : decode cL_law 302 = .ok (.istore 6, 2) := by decide +kernel
theorem dL_law_304 : decode cL_law 304 = .ok (.aload_n 2, 1) := by decide +kernel
theorem dL_law_305 : decode cL_law 305 = .ok (.invokevirtual 53, 3) := by decide +kernel
theorem dL_law_308 : decode cL_law 308 = .ok (.iload 5, 2) := by decide +kernel
theorem dL_law_310 : decode cL_law 310 = .ok (.if_icmp .eq 5, 3) := by decide +kernel
theorem dL_law_313 : decode cL_law 313 = .ok (.iconst 0, 1) := by decide +kernel
theorem dL_law_314 : decode cL_law 314 = .ok (.ireturn, 1) := by decide +kernel
theorem dL_law_315 : decode cL_law 315 = .ok (.iload 5, 2) := by decide +kernel
theorem dL_law_317 : decode cL_law 317 = .ok (.ifCond .ne 15, 3) := by decide +kernel
theorem dL_law_320 : decode cL_law 320 = .ok (.aload_n 3, 1) := by decide +kernel
theorem dL_law_321 : decode cL_law 321 = .ok (.iconst 0, 1) := by decide +kernel
theorem dL_law_322 : decode cL_law 322 = .ok (.laload, 1) := by decide +kernel
theorem dL_law_323 : decode cL_law 323 = .ok (.iload 6, 2) := by decide +kernel
theorem dL_law_325 : decode cL_law 325 = .ok (.i2l, 1) := by decide +kernel
theorem dL_law_326 : decode cL_law 326 = .ok (.lcmp, 1) := by decide +kernel
theorem dL_law_327 : decode cL_law 327 = .ok (.ifCond .eq 5, 3) := by decide +kernel
theorem dL_law_330 : decode cL_law 330 = .ok (.iconst 0, 1) := by decide +kernel
theorem dL_law_331 : decode cL_law 331 = .ok (.ireturn, 1) := by decide +kernel
theorem dL_law_332 : decode cL_law 332 = .ok (.goto 177, 3) := by decide +kernel
theorem dL_law_335 : decode cL_law 335 = .ok (.aload_n 1, 1) := by decide +kernel
theorem dL_law_336 : decode cL_law 336 = .ok (.aload_n 0, 1) := by decide +kernel
theorem dL_law_337 : decode cL_law 337 = .ok (.iload 4, 2) := by decide +kernel
theorem dL_law_339 : decode cL_law 339 = .ok (.iconst 1, 1) := by decide +kernel
theorem dL_law_340 : decode cL_law 340 = .ok (.iadd, 1) := by decide +kernel
theorem dL_law_341 : decode cL_law 341 = .ok (.iaload, 1) := by decide +kernel
theorem dL_law_342 : decode cL_law 342 = .ok (.invokestatic 69, 3) := by decide +kernel
theorem dL_law_345 : decode cL_law 345 = .ok (.istore 5, 2) := by decide +kernel
theorem dL_law_347 : decode cL_law 347 = .ok (.aload_n 2, 1) := by decide +kernel
theorem dL_law_348 : decode cL_law 348 = .ok (.aload_n 0, 1) := by decide +kernel
theorem dL_law_349 : decode cL_law 349 = .ok (.iload 4, 2) := by decide +kernel
theorem dL_law_351 : decode cL_law 351 = .ok (.iconst 1, 1) := by decide +kernel
theorem dL_law_352 : decode cL_law 352 = .ok (.iadd, 1) := by decide +kernel
theorem dL_law_353 : decode cL_law 353 = .ok (.iaload, 1) := by decide +kernel
theorem dL_law_354 : decode cL_law 354 = .ok (.invokevirtual 72, 3) := by decide +kernel
theorem dL_law_357 : decode cL_law 357 = .ok (.aload_n 2, 1) := by decide +kernel
theorem dL_law_358 : decode cL_law 358 = .ok (.invokevirtual 53, 3) := by decide +kernel
theorem dL_law_361 : decode cL_law 361 = .ok (.iload 5, 2) := by decide +kernel
theorem dL_law_363 : decode cL_law 363 = .ok (.if_icmp .eq 5, 3) := by decide +kernel
theorem dL_law_366 : decode cL_law 366 = .ok (.iconst 0, 1) := by decide +kernel
theorem dL_law_367 : decode cL_law 367 = .ok (.ireturn, 1) := by decide +kernel
theorem dL_law_368 : decode cL_law 368 = .ok (.goto 141, 3) := by decide +kernel
theorem dL_law_371 : decode cL_law 371 = .ok (.aload_n 1, 1) := by decide +kernel
theorem dL_law_372 : decode cL_law 372 = .ok (.aload_n 0, 1) := by decide +kernel
theorem dL_law_373 : decode cL_law 373 = .ok (.iload 4, 2) := by decide +kernel
theorem dL_law_375 : decode cL_law 375 = .ok (.iconst 1, 1) := by decide +kernel
theorem dL_law_376 : decode cL_law 376 = .ok (.iadd, 1) := by decide +kernel
theorem dL_law_377 : decode cL_law 377 = .ok (.iaload, 1) := by decide +kernel
theorem dL_law_378 : decode cL_law 378 = .ok (.aload_n 3, 1) := by decide +kernel
theorem dL_law_379 : decode cL_law 379 = .ok (.invokestatic 73, 3) := by decide +kernel
theorem dL_law_382 : decode cL_law 382 = .ok (.istore 5, 2) := by decide +kernel
theorem dL_law_384 : decode cL_law 384 = .ok (.aload_n 2, 1) := by decide +kernel
theorem dL_law_385 : decode cL_law 385 = .ok (.aload_n 0, 1) := by decide +kernel
theorem dL_law_386 : decode cL_law 386 = .ok (.iload 4, 2) := by decide +kernel
theorem dL_law_388 : decode cL_law 388 = .ok (.iconst 1, 1) := by decide +kernel
theorem dL_law_389 : decode cL_law 389 = .ok (.iadd, 1) := by decide +kernel
theorem dL_law_390 : decode cL_law 390 = .ok (.iaload, 1) := by decide +kernel
theorem dL_law_391 : decode cL_law 391 = .ok (.invokevirtual 75, 3) := by decide +kernel
theorem dL_law_394 : decode cL_law 394 = .ok (.istore 6, 2) := by decide +kernel
theorem dL_law_396 : decode cL_law 396 = .ok (.aload_n 2, 1) := by decide +kernel
theorem dL_law_397 : decode cL_law 397 = .ok (.invokevirtual 53, 3) := by decide +kernel
theorem dL_law_400 : decode cL_law 400 = .ok (.iload 5, 2) := by decide +kernel
theorem dL_law_402 : decode cL_law 402 = .ok (.if_icmp .eq 5, 3) := by decide +kernel
theorem dL_law_405 : decode cL_law 405 = .ok (.iconst 0, 1) := by decide +kernel
theorem dL_law_406 : decode cL_law 406 = .ok (.ireturn, 1) := by decide +kernel
theorem dL_law_407 : decode cL_law 407 = .ok (.iload 5, 2) := by decide +kernel
theorem dL_law_409 : decode cL_law 409 = .ok (.ifCond .ne 15, 3) := by decide +kernel
theorem dL_law_412 : decode cL_law 412 = .ok (.aload_n 3, 1) := by decide +kernel
theorem dL_law_413 : decode cL_law 413 = .ok (.iconst 0, 1) := by decide +kernel
theorem dL_law_414 : decode cL_law 414 = .ok (.laload, 1) := by decide +kernel
theorem dL_law_415 : decode cL_law 415 = .ok (.iload 6, 2) := by decide +kernel
theorem dL_law_417 : decode cL_law 417 = .ok (.i2l, 1) := by decide +kernel
theorem dL_law_418 : decode cL_law 418 = .ok (.lcmp, 1) := by decide +kernel
theorem dL_law_419 : decode cL_law 419 = .ok (.ifCond .eq 5, 3) := by decide +kernel
theorem dL_law_422 : decode cL_law 422 = .ok (.iconst 0, 1) := by decide +kernel
theorem dL_law_423 : decode cL_law 423 = .ok (.ireturn, 1) := by decide +kernel
theorem dL_law_424 : decode cL_law 424 = .ok (.goto 85, 3) := by decide +kernel
theorem dL_law_427 : decode cL_law 427 = .ok (.aload_n 1, 1) := by decide +kernel
theorem dL_law_428 : decode cL_law 428 = .ok (.invokevirtual 76, 3) := by decide +kernel
theorem dL_law_431 : decode cL_law 431 = .ok (.aload_n 2, 1) := by decide +kernel
theorem dL_law_432 : decode cL_law 432 = .ok (.invokevirtual 79, 3) := by decide +kernel
theorem dL_law_435 : decode cL_law 435 = .ok (.if_icmp .eq 74, 3) := by decide +kernel
theorem dL_law_438 : decode cL_law 438 = .ok (.iconst 0, 1) := by decide +kernel
theorem dL_law_439 : decode cL_law 439 = .ok (.ireturn, 1) := by decide +kernel
theorem dL_law_440 : decode cL_law 440 = .ok (.aload_n 1, 1) := by decide +kernel
theorem dL_law_441 : decode cL_law 441 = .ok (.aload_n 0, 1) := by decide +kernel
theorem dL_law_442 : decode cL_law 442 = .ok (.iload 4, 2) := by decide +kernel
theorem dL_law_444 : decode cL_law 444 = .ok (.iconst 1, 1) := by decide +kernel
theorem dL_law_445 : decode cL_law 445 = .ok (.iadd, 1) := by decide +kernel
theorem dL_law_446 : decode cL_law 446 = .ok (.iaload, 1) := by decide +kernel
theorem dL_law_447 : decode cL_law 447 = .ok (.aload_n 3, 1) := by decide +kernel
theorem dL_law_448 : decode cL_law 448 = .ok (.invokestatic 80, 3) := by decide +kernel
theorem dL_law_451 : decode cL_law 451 = .ok (.istore 5, 2) := by decide +kernel
theorem dL_law_453 : decode cL_law 453 = .ok (.aload_n 2, 1) := by decide +kernel
theorem dL_law_454 : decode cL_law 454 = .ok (.aload_n 0, 1) := by decide +kernel
theorem dL_law_455 : decode cL_law 455 = .ok (.iload 4, 2) := by decide +kernel
theorem dL_law_457 : decode cL_law 457 = .ok (.iconst 1, 1) := by decide +kernel
theorem dL_law_458 : decode cL_law 458 = .ok (.iadd, 1) := by decide +kernel
theorem dL_law_459 : decode cL_law 459 = .ok (.iaload, 1) := by decide +kernel
theorem dL_law_460 : decode cL_law 460 = .ok (.invokevirtual 82, 3) := by decide +kernel
theorem dL_law_463 : decode cL_law 463 = .ok (.istore 6, 2) := by decide +kernel
theorem dL_law_465 : decode cL_law 465 = .ok (.aload_n 2, 1) := by decide +kernel
theorem dL_law_466 : decode cL_law 466 = .ok (.invokevirtual 53, 3) := by decide +kernel
theorem dL_law_469 : decode cL_law 469 = .ok (.iload 5, 2) := by decide +kernel
theorem dL_law_471 : decode cL_law 471 = .ok (.if_icmp .eq 5, 3) := by decide +kernel
theorem dL_law_474 : decode cL_law 474 = .ok (.iconst 0, 1) := by decide +kernel
theorem dL_law_475 : decode cL_law 475 = .ok (.ireturn, 1) := by decide +kernel
theorem dL_law_476 : decode cL_law 476 = .ok (.iload 5, 2) := by decide +kernel
theorem dL_law_478 : decode cL_law 478 = .ok (.ifCond .ne 15, 3) := by decide +kernel
theorem dL_law_481 : decode cL_law 481 = .ok (.aload_n 3, 1) := by decide +kernel
theorem dL_law_482 : decode cL_law 482 = .ok (.iconst 0, 1) := by decide +kernel
theorem dL_law_483 : decode cL_law 483 = .ok (.laload, 1) := by decide +kernel
theorem dL_law_484 : decode cL_law 484 = .ok (.iload 6, 2) := by decide +kernel
theorem dL_law_486 : decode cL_law 486 = .ok (.i2l, 1) := by decide +kernel
theorem dL_law_487 : decode cL_law 487 = .ok (.lcmp, 1) := by decide +kernel
theorem dL_law_488 : decode cL_law 488 = .ok (.ifCond .eq 5, 3) := by decide +kernel
theorem dL_law_491 : decode cL_law 491 = .ok (.iconst 0, 1) := by decide +kernel
theorem dL_law_492 : decode cL_law 492 = .ok (.ireturn, 1) := by decide +kernel
theorem dL_law_493 : decode cL_law 493 = .ok (.goto 16, 3) := by decide +kernel
theorem dL_law_496 : decode cL_law 496 = .ok (.aload_n 1, 1) := by decide +kernel
theorem dL_law_497 : decode cL_law 497 = .ok (.invokevirtual 83, 3) := by decide +kernel
theorem dL_law_500 : decode cL_law 500 = .ok (.aload_n 2, 1) := by decide +kernel
theorem dL_law_501 : decode cL_law 501 = .ok (.invokevirtual 86, 3) := by decide +kernel
theorem dL_law_504 : decode cL_law 504 = .ok (.if_icmp .eq 5, 3) := by decide +kernel
theorem dL_law_507 : decode cL_law 507 = .ok (.iconst 0, 1) := by decide +kernel
theorem dL_law_508 : decode cL_law 508 = .ok (.ireturn, 1) := by decide +kernel
theorem dL_law_509 : decode cL_law 509 = .ok (.iinc 4 4, 3) := by decide +kernel
theorem dL_law_512 : decode cL_law 512 = .ok (.goto (-489), 3) := by decide +kernel
theorem dL_law_515 : decode cL_law 515 = .ok (.iconst 1, 1) := by decide +kernel
theorem dL_law_516 : decode cL_law 516 = .ok (.ireturn, 1) := by decide +kernel
