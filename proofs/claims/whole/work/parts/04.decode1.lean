theorem dX0_init_0 : decode cX0_init 0 = .ok (.aload_n 0, 1) := by decide +kernel
theorem dX0_init_1 : decode cX0_init 1 = .ok (.invokespecial 3, 3) := by decide +kernel
theorem dX0_init_4 : decode cX0_init 4 = .ok (.aload_n 0, 1) := by decide +kernel
theorem dX0_init_5 : decode cX0_init 5 = .ok (.aload_n 1, 1) := by decide +kernel
theorem dX0_init_6 : decode cX0_init 6 = .ok (.putfield 9, 3) := by decide +kernel
theorem dX0_init_9 : decode cX0_init 9 = .ok (.aload_n 0, 1) := by decide +kernel
theorem dX0_init_10 : decode cX0_init 10 = .ok (.aload_n 2, 1) := by decide +kernel
theorem dX0_init_11 : decode cX0_init 11 = .ok (.putfield 15, 3) := by decide +kernel
theorem dX0_init_14 : decode cX0_init 14 = .ok (.aload_n 0, 1) := by decide +kernel
theorem dX0_init_15 : decode cX0_init 15 = .ok (.iconst 0, 1) := by decide +kernel
theorem dX0_init_16 : decode cX0_init 16 = .ok (.putfield 19, 3) := by decide +kernel
theorem dX0_init_19 : decode cX0_init 19 = .ok (.aload_n 0, 1) := by decide +kernel
theorem dX0_init_20 : decode cX0_init 20 = .ok (.iconst 0, 1) := by decide +kernel
theorem dX0_init_21 : decode cX0_init 21 = .ok (.putfield 23, 3) := by decide +kernel
theorem dX0_init_24 : decode cX0_init 24 = .ok (.return_, 1) := by decide +kernel
theorem dX0_forget_0 : decode cX0_forget 0 = .ok (.aload_n 0, 1) := by decide +kernel
theorem dX0_forget_1 : decode cX0_forget 1 = .ok (.iconst 0, 1) := by decide +kernel
theorem dX0_forget_2 : decode cX0_forget 2 = .ok (.putfield 19, 3) := by decide +kernel
theorem dX0_forget_5 : decode cX0_forget 5 = .ok (.aload_n 0, 1) := by decide +kernel
theorem dX0_forget_6 : decode cX0_forget 6 = .ok (.iconst 0, 1) := by decide +kernel
theorem dX0_forget_7 : decode cX0_forget 7 = .ok (.putfield 23, 3) := by decide +kernel
theorem dX0_forget_10 : decode cX0_forget 10 = .ok (.return_, 1) := by decide +kernel
theorem dX0_raise_0 : decode cX0_raise 0 = .ok (.aload_n 0, 1) := by decide +kernel
theorem dX0_raise_1 : decode cX0_raise 1 = .ok (.getfield 19, 3) := by decide +kernel
theorem dX0_raise_4 : decode cX0_raise 4 = .ok (.ifCond .ne 8, 3) := by decide +kernel
theorem dX0_raise_7 : decode cX0_raise 7 = .ok (.aload_n 0, 1) := by decide +kernel
theorem dX0_raise_8 : decode cX0_raise 8 = .ok (.iload_n 1, 1) := by decide +kernel
theorem dX0_raise_9 : decode cX0_raise 9 = .ok (.putfield 19, 3) := by decide +kernel
theorem dX0_raise_12 : decode cX0_raise 12 = .ok (.return_, 1) := by decide +kernel
theorem dX0_refuses_0 : decode cX0_refuses 0 = .ok (.aload_n 0, 1) := by decide +kernel
theorem dX0_refuses_1 : decode cX0_refuses 1 = .ok (.getfield 19, 3) := by decide +kernel
theorem dX0_refuses_4 : decode cX0_refuses 4 = .ok (.ifCond .ne 26, 3) := by decide +kernel
theorem dX0_refuses_7 : decode cX0_refuses 7 = .ok (.aload_n 1, 1) := by decide +kernel
theorem dX0_refuses_8 : decode cX0_refuses 8 = .ok (.getstatic 26, 3) := by decide +kernel
theorem dX0_refuses_11 : decode cX0_refuses 11 = .ok (.if_acmp .eq 19, 3) := by decide +kernel
theorem dX0_refuses_14 : decode cX0_refuses 14 = .ok (.iload_n 2, 1) := by decide +kernel
theorem dX0_refuses_15 : decode cX0_refuses 15 = .ok (.iconst 1, 1) := by decide +kernel
theorem dX0_refuses_16 : decode cX0_refuses 16 = .ok (.iand, 1) := by decide +kernel
theorem dX0_refuses_17 : decode cX0_refuses 17 = .ok (.ifCond .eq 13, 3) := by decide +kernel
theorem dX0_refuses_20 : decode cX0_refuses 20 = .ok (.aload_n 0, 1) := by decide +kernel
theorem dX0_refuses_21 : decode cX0_refuses 21 = .ok (.iconst 3, 1) := by decide +kernel
theorem dX0_refuses_22 : decode cX0_refuses 22 = .ok (.putfield 19, 3) := by decide +kernel
theorem dX0_refuses_25 : decode cX0_refuses 25 = .ok (.aload_n 0, 1) := by decide +kernel
theorem dX0_refuses_26 : decode cX0_refuses 26 = .ok (.iload_n 2, 1) := by decide +kernel
theorem dX0_refuses_27 : decode cX0_refuses 27 = .ok (.putfield 23, 3) := by decide +kernel
theorem dX0_refuses_30 : decode cX0_refuses 30 = .ok (.aload_n 0, 1) := by decide +kernel
theorem dX0_refuses_31 : decode cX0_refuses 31 = .ok (.getfield 19, 3) := by decide +kernel
theorem dX0_refuses_34 : decode cX0_refuses 34 = .ok (.ifCond .eq 7, 3) := by decide +kernel
theorem dX0_refuses_37 : decode cX0_refuses 37 = .ok (.iconst 1, 1) := by decide +kernel
theorem dX0_refuses_38 : decode cX0_refuses 38 = .ok (.goto 4, 3) := by decide +kernel
theorem dX0_refuses_41 : decode cX0_refuses 41 = .ok (.iconst 0, 1) := by decide +kernel
theorem dX0_refuses_42 : decode cX0_refuses 42 = .ok (.ireturn, 1) := by decide +kernel
theorem dX0_firstWord_0 : decode cX0_firstWord 0 = .ok (.aload_n 0, 1) := by decide +kernel
theorem dX0_firstWord_1 : decode cX0_firstWord 1 = .ok (.getstatic 32, 3) := by decide +kernel
theorem dX0_firstWord_4 : decode cX0_firstWord 4 = .ok (.aload_n 0, 1) := by decide +kernel
theorem dX0_firstWord_5 : decode cX0_firstWord 5 = .ok (.getfield 15, 3) := by decide +kernel
theorem dX0_firstWord_8 : decode cX0_firstWord 8 = .ok (.getfield 35, 3) := by decide +kernel
theorem dX0_firstWord_11 : decode cX0_firstWord 11 = .ok (.invokevirtual 40, 3) := by decide +kernel
theorem dX0_firstWord_14 : decode cX0_firstWord 14 = .ok (.ifCond .eq 7, 3) := by decide +kernel
theorem dX0_firstWord_17 : decode cX0_firstWord 17 = .ok (.iconst 0, 1) := by decide +kernel
theorem dX0_firstWord_18 : decode cX0_firstWord 18 = .ok (.goto 7, 3) := by decide +kernel
theorem dX0_firstWord_21 : decode cX0_firstWord 21 = .ok (.aload_n 0, 1) := by decide +kernel
theorem dX0_firstWord_22 : decode cX0_firstWord 22 = .ok (.invokevirtual 44, 3) := by decide +kernel
theorem dX0_firstWord_25 : decode cX0_firstWord 25 = .ok (.ireturn, 1) := by decide +kernel
theorem dX0_nextWord_0 : decode cX0_nextWord 0 = .ok (.aload_n 0, 1) := by decide +kernel
theorem dX0_nextWord_1 : decode cX0_nextWord 1 = .ok (.getfield 9, 3) := by decide +kernel
theorem dX0_nextWord_4 : decode cX0_nextWord 4 = .ok (.aload_n 0, 1) := by decide +kernel
theorem dX0_nextWord_5 : decode cX0_nextWord 5 = .ok (.getfield 15, 3) := by decide +kernel
theorem dX0_nextWord_8 : decode cX0_nextWord 8 = .ok (.getfield 35, 3) := by decide +kernel
theorem dX0_nextWord_11 : decode cX0_nextWord 11 = .ok (.iconst 2, 1) := by decide +kernel
theorem dX0_nextWord_12 : decode cX0_nextWord 12 = .ok (.invokevirtual 48, 3) := by decide +kernel
theorem dX0_nextWord_15 : decode cX0_nextWord 15 = .ok (.istore_n 1, 1) := by decide +kernel
theorem dX0_nextWord_16 : decode cX0_nextWord 16 = .ok (.aload_n 0, 1) := by decide +kernel
theorem dX0_nextWord_17 : decode cX0_nextWord 17 = .ok (.getfield 15, 3) := by decide +kernel
theorem dX0_nextWord_20 : decode cX0_nextWord 20 = .ok (.dup, 1) := by decide +kernel
theorem dX0_nextWord_21 : decode cX0_nextWord 21 = .ok (.getfield 35, 3) := by decide +kernel
theorem dX0_nextWord_24 : decode cX0_nextWord 24 = .ok (.iconst 2, 1) := by decide +kernel
theorem dX0_nextWord_25 : decode cX0_nextWord 25 = .ok (.iadd, 1) := by decide +kernel
theorem dX0_nextWord_26 : decode cX0_nextWord 26 = .ok (.putfield 35, 3) := by decide +kernel
theorem dX0_nextWord_29 : decode cX0_nextWord 29 = .ok (.iload_n 1, 1) := by decide +kernel
theorem dX0_nextWord_30 : decode cX0_nextWord 30 = .ok (.ireturn, 1) := by decide +kernel
theorem dX0_nextLong_0 : decode cX0_nextLong 0 = .ok (.aload_n 0, 1) := by decide +kernel
theorem dX0_nextLong_1 : decode cX0_nextLong 1 = .ok (.getfield 9, 3) := by decide +kernel
theorem dX0_nextLong_4 : decode cX0_nextLong 4 = .ok (.aload_n 0, 1) := by decide +kernel
theorem dX0_nextLong_5 : decode cX0_nextLong 5 = .ok (.getfield 15, 3) := by decide +kernel
theorem dX0_nextLong_8 : decode cX0_nextLong 8 = .ok (.getfield 35, 3) := by decide +kernel
theorem dX0_nextLong_11 : decode cX0_nextLong 11 = .ok (.iconst 4, 1) := by decide +kernel
theorem dX0_nextLong_12 : decode cX0_nextLong 12 = .ok (.invokevirtual 48, 3) := by decide +kernel
theorem dX0_nextLong_15 : decode cX0_nextLong 15 = .ok (.istore_n 1, 1) := by decide +kernel
theorem dX0_nextLong_16 : decode cX0_nextLong 16 = .ok (.aload_n 0, 1) := by decide +kernel
theorem dX0_nextLong_17 : decode cX0_nextLong 17 = .ok (.getfield 15, 3) := by decide +kernel
theorem dX0_nextLong_20 : decode cX0_nextLong 20 = .ok (.dup, 1) := by decide +kernel
theorem dX0_nextLong_21 : decode cX0_nextLong 21 = .ok (.getfield 35, 3) := by decide +kernel
theorem dX0_nextLong_24 : decode cX0_nextLong 24 = .ok (.iconst 4, 1) := by decide +kernel
theorem dX0_nextLong_25 : decode cX0_nextLong 25 = .ok (.iadd, 1) := by decide +kernel
theorem dX0_nextLong_26 : decode cX0_nextLong 26 = .ok (.putfield 35, 3) := by decide +kernel
theorem dX0_nextLong_29 : decode cX0_nextLong 29 = .ok (.iload_n 1, 1) := by decide +kernel
theorem dX0_nextLong_30 : decode cX0_nextLong 30 = .ok (.ireturn, 1) := by decide +kernel
theorem dX0_immediate_0 : decode cX0_immediate 0 = .ok (.aload_n 1, 1) := by decide +kernel
theorem dX0_immediate_1 : decode cX0_immediate 1 = .ok (.getstatic 54, 3) := by decide +kernel
theorem dX0_immediate_4 : decode cX0_immediate 4 = .ok (.if_acmp .ne 10, 3) := by decide +kernel
theorem dX0_immediate_7 : decode cX0_immediate 7 = .ok (.aload_n 0, 1) := by decide +kernel
theorem dX0_immediate_8 : decode cX0_immediate 8 = .ok (.invokevirtual 57, 3) := by decide +kernel
theorem dX0_immediate_11 : decode cX0_immediate 11 = .ok (.goto 12, 3) := by decide +kernel
theorem dX0_immediate_14 : decode cX0_immediate 14 = .ok (.aload_n 0, 1) := by decide +kernel
theorem dX0_immediate_15 : decode cX0_immediate 15 = .ok (.invokevirtual 44, 3) := by decide +kernel
theorem dX0_immediate_18 : decode cX0_immediate 18 = .ok (.aload_n 1, 1) := by decide +kernel
theorem dX0_immediate_19 : decode cX0_immediate 19 = .ok (.getfield 60, 3) := by decide +kernel
theorem dX0_immediate_22 : decode cX0_immediate 22 = .ok (.iand, 1) := by decide +kernel
theorem dX0_immediate_23 : decode cX0_immediate 23 = .ok (.ireturn, 1) := by decide +kernel
theorem dX0_inRegister_0 : decode cX0_inRegister 0 = .ok (.ldc2_w 63, 3) := by decide +kernel
theorem dX0_inRegister_3 : decode cX0_inRegister 3 = .ok (.iload_n 0, 1) := by decide +kernel
theorem dX0_inRegister_4 : decode cX0_inRegister 4 = .ok (.i2l, 1) := by decide +kernel
theorem dX0_inRegister_5 : decode cX0_inRegister 5 = .ok (.lsub, 1) := by decide +kernel
theorem dX0_inRegister_6 : decode cX0_inRegister 6 = .ok (.lreturn, 1) := by decide +kernel
theorem dX0_at_0 : decode cX0_at 0 = .ok (.iload_n 0, 1) := by decide +kernel
theorem dX0_at_1 : decode cX0_at 1 = .ok (.i2l, 1) := by decide +kernel
theorem dX0_at_2 : decode cX0_at 2 = .ok (.ldc2_w 65, 3) := by decide +kernel
theorem dX0_at_5 : decode cX0_at 5 = .ok (.land, 1) := by decide +kernel
theorem dX0_at_6 : decode cX0_at 6 = .ok (.lreturn, 1) := by decide +kernel
theorem dX0_locate_0 : decode cX0_locate 0 = .ok (.iload_n 2, 1) := by decide +kernel
theorem dX0_locate_1 : decode cX0_locate 1 = .ok (.bipush 7, 2) := by decide +kernel
theorem dX0_locate_3 : decode cX0_locate 3 = .ok (.iand, 1) := by decide +kernel
theorem dX0_locate_4 : decode cX0_locate 4 = .ok (.istore_n 3, 1) := by decide +kernel
theorem dX0_locate_5 : decode cX0_locate 5 = .ok (.aload_n 0, 1) := by decide +kernel
theorem dX0_locate_6 : decode cX0_locate 6 = .ok (.getfield 15, 3) := by decide +kernel
theorem dX0_locate_9 : decode cX0_locate 9 = .ok (.bipush 8, 2) := by decide +kernel
theorem dX0_locate_11 : decode cX0_locate 11 = .ok (.iload_n 3, 1) := by decide +kernel
theorem dX0_locate_12 : decode cX0_locate 12 = .ok (.iadd, 1) := by decide +kernel
theorem dX0_locate_13 : decode cX0_locate 13 = .ok (.invokevirtual 67, 3) := by decide +kernel
theorem dX0_locate_16 : decode cX0_locate 16 = .ok (.istore 4, 2) := by decide +kernel
theorem dX0_locate_18 : decode cX0_locate 18 = .ok (.aload_n 0, 1) := by decide +kernel
theorem dX0_locate_19 : decode cX0_locate 19 = .ok (.getfield 15, 3) := by decide +kernel
theorem dX0_locate_22 : decode cX0_locate 22 = .ok (.getfield 35, 3) := by decide +kernel
theorem dX0_locate_25 : decode cX0_locate 25 = .ok (.istore 5, 2) := by decide +kernel
theorem dX0_locate_27 : decode cX0_locate 27 = .ok (.iload_n 2, 1) := by decide +kernel
theorem dX0_locate_28 : decode cX0_locate 28 = .ok (.invokestatic 71, 3) := by decide +kernel
theorem dX0_locate_31 : decode cX0_locate 31 = .ok (.tableswitch 201 0 10 #[57, 62, 70, 76, 101, 132, 144, 158, 167, 175, 187], 57) := by decide +kernel
theorem dX0_locate_88 : decode cX0_locate 88 = .ok (.iload_n 3, 1) := by decide +kernel
theorem dX0_locate_89 : decode cX0_locate 89 = .ok (.invokestatic 74, 3) := by decide +kernel
theorem dX0_locate_92 : decode cX0_locate 92 = .ok (.lreturn, 1) := by decide +kernel
theorem dX0_locate_93 : decode cX0_locate 93 = .ok (.bipush 8, 2) := by decide +kernel
theorem dX0_locate_95 : decode cX0_locate 95 = .ok (.iload_n 3, 1) := by decide +kernel
theorem dX0_locate_96 : decode cX0_locate 96 = .ok (.iadd, 1) := by decide +kernel
theorem dX0_locate_97 : decode cX0_locate 97 = .ok (.invokestatic 74, 3) := by decide +kernel
theorem dX0_locate_100 : decode cX0_locate 100 = .ok (.lreturn, 1) := by decide +kernel
theorem dX0_locate_101 : decode cX0_locate 101 = .ok (.iload 4, 2) := by decide +kernel
theorem dX0_locate_103 : decode cX0_locate 103 = .ok (.invokestatic 78, 3) := by decide +kernel
theorem dX0_locate_106 : decode cX0_locate 106 = .ok (.lreturn, 1) := by decide +kernel
theorem dX0_locate_107 : decode cX0_locate 107 = .ok (.aload_n 0, 1) := by decide +kernel
theorem dX0_locate_108 : decode cX0_locate 108 = .ok (.getfield 15, 3) := by decide +kernel
theorem dX0_locate_111 : decode cX0_locate 111 = .ok (.bipush 8, 2) := by decide +kernel
theorem dX0_locate_113 : decode cX0_locate 113 = .ok (.iload_n 3, 1) := by decide +kernel
theorem dX0_locate_114 : decode cX0_locate 114 = .ok (.iadd, 1) := by decide +kernel
theorem dX0_locate_115 : decode cX0_locate 115 = .ok (.iload 4, 2) := by decide +kernel
theorem dX0_locate_117 : decode cX0_locate 117 = .ok (.aload_n 1, 1) := by decide +kernel
theorem dX0_locate_118 : decode cX0_locate 118 = .ok (.iload_n 3, 1) := by decide +kernel
theorem dX0_locate_119 : decode cX0_locate 119 = .ok (.invokestatic 81, 3) := by decide +kernel
theorem dX0_locate_122 : decode cX0_locate 122 = .ok (.iadd, 1) := by decide +kernel
theorem dX0_locate_123 : decode cX0_locate 123 = .ok (.invokevirtual 85, 3) := by decide +kernel
theorem dX0_locate_126 : decode cX0_locate 126 = .ok (.iload 4, 2) := by decide +kernel
theorem dX0_locate_128 : decode cX0_locate 128 = .ok (.invokestatic 78, 3) := by decide +kernel
theorem dX0_locate_131 : decode cX0_locate 131 = .ok (.lreturn, 1) := by decide +kernel
theorem dX0_locate_132 : decode cX0_locate 132 = .ok (.aload_n 0, 1) := by decide +kernel
theorem dX0_locate_133 : decode cX0_locate 133 = .ok (.getfield 15, 3) := by decide +kernel
theorem dX0_locate_136 : decode cX0_locate 136 = .ok (.bipush 8, 2) := by decide +kernel
theorem dX0_locate_138 : decode cX0_locate 138 = .ok (.iload_n 3, 1) := by decide +kernel
theorem dX0_locate_139 : decode cX0_locate 139 = .ok (.iadd, 1) := by decide +kernel
theorem dX0_locate_140 : decode cX0_locate 140 = .ok (.iload 4, 2) := by decide +kernel
theorem dX0_locate_142 : decode cX0_locate 142 = .ok (.aload_n 1, 1) := by decide +kernel
theorem dX0_locate_143 : decode cX0_locate 143 = .ok (.iload_n 3, 1) := by decide +kernel
theorem dX0_locate_144 : decode cX0_locate 144 = .ok (.invokestatic 81, 3) := by decide +kernel
theorem dX0_locate_147 : decode cX0_locate 147 = .ok (.isub, 1) := by decide +kernel
theorem dX0_locate_148 : decode cX0_locate 148 = .ok (.invokevirtual 85, 3) := by decide +kernel
theorem dX0_locate_151 : decode cX0_locate 151 = .ok (.iload 4, 2) := by decide +kernel
theorem dX0_locate_153 : decode cX0_locate 153 = .ok (.aload_n 1, 1) := by decide +kernel
theorem dX0_locate_154 : decode cX0_locate 154 = .ok (.iload_n 3, 1) := by decide +kernel
theorem dX0_locate_155 : decode cX0_locate 155 = .ok (.invokestatic 81, 3) := by decide +kernel
theorem dX0_locate_158 : decode cX0_locate 158 = .ok (.isub, 1) := by decide +kernel
theorem dX0_locate_159 : decode cX0_locate 159 = .ok (.invokestatic 78, 3) := by decide +kernel
theorem dX0_locate_162 : decode cX0_locate 162 = .ok (.lreturn, 1) := by decide +kernel
theorem dX0_locate_163 : decode cX0_locate 163 = .ok (.iload 4, 2) := by decide +kernel
theorem dX0_locate_165 : decode cX0_locate 165 = .ok (.aload_n 0, 1) := by decide +kernel
theorem dX0_locate_166 : decode cX0_locate 166 = .ok (.invokevirtual 44, 3) := by decide +kernel
theorem dX0_locate_169 : decode cX0_locate 169 = .ok (.i2s, 1) := by decide +kernel
theorem dX0_locate_170 : decode cX0_locate 170 = .ok (.iadd, 1) := by decide +kernel
theorem dX0_locate_171 : decode cX0_locate 171 = .ok (.invokestatic 78, 3) := by decide +kernel
theorem dX0_locate_174 : decode cX0_locate 174 = .ok (.lreturn, 1) := by decide +kernel
theorem dX0_locate_175 : decode cX0_locate 175 = .ok (.aload_n 0, 1) := by decide +kernel
theorem dX0_locate_176 : decode cX0_locate 176 = .ok (.iload 4, 2) := by decide +kernel
theorem dX0_locate_178 : decode cX0_locate 178 = .ok (.aload_n 0, 1) := by decide +kernel
theorem dX0_locate_179 : decode cX0_locate 179 = .ok (.invokevirtual 44, 3) := by decide +kernel
theorem dX0_locate_182 : decode cX0_locate 182 = .ok (.invokevirtual 89, 3) := by decide +kernel
theorem dX0_locate_185 : decode cX0_locate 185 = .ok (.invokestatic 78, 3) := by decide +kernel
theorem dX0_locate_188 : decode cX0_locate 188 = .ok (.lreturn, 1) := by decide +kernel
theorem dX0_locate_189 : decode cX0_locate 189 = .ok (.aload_n 0, 1) := by decide +kernel
theorem dX0_locate_190 : decode cX0_locate 190 = .ok (.invokevirtual 44, 3) := by decide +kernel
theorem dX0_locate_193 : decode cX0_locate 193 = .ok (.i2s, 1) := by decide +kernel
theorem dX0_locate_194 : decode cX0_locate 194 = .ok (.invokestatic 78, 3) := by decide +kernel
theorem dX0_locate_197 : decode cX0_locate 197 = .ok (.lreturn, 1) := by decide +kernel
theorem dX0_locate_198 : decode cX0_locate 198 = .ok (.aload_n 0, 1) := by decide +kernel
theorem dX0_locate_199 : decode cX0_locate 199 = .ok (.invokevirtual 57, 3) := by decide +kernel
theorem dX0_locate_202 : decode cX0_locate 202 = .ok (.invokestatic 78, 3) := by decide +kernel
theorem dX0_locate_205 : decode cX0_locate 205 = .ok (.lreturn, 1) := by decide +kernel
theorem dX0_locate_206 : decode cX0_locate 206 = .ok (.iload 5, 2) := by decide +kernel
theorem dX0_locate_208 : decode cX0_locate 208 = .ok (.aload_n 0, 1) := by decide +kernel
theorem dX0_locate_209 : decode cX0_locate 209 = .ok (.invokevirtual 44, 3) := by decide +kernel
theorem dX0_locate_212 : decode cX0_locate 212 = .ok (.i2s, 1) := by decide +kernel
theorem dX0_locate_213 : decode cX0_locate 213 = .ok (.iadd, 1) := by decide +kernel
theorem dX0_locate_214 : decode cX0_locate 214 = .ok (.invokestatic 78, 3) := by decide +kernel
theorem dX0_locate_217 : decode cX0_locate 217 = .ok (.lreturn, 1) := by decide +kernel
theorem dX0_locate_218 : decode cX0_locate 218 = .ok (.aload_n 0, 1) := by decide +kernel
theorem dX0_locate_219 : decode cX0_locate 219 = .ok (.iload 5, 2) := by decide +kernel
theorem dX0_locate_221 : decode cX0_locate 221 = .ok (.aload_n 0, 1) := by decide +kernel
theorem dX0_locate_222 : decode cX0_locate 222 = .ok (.invokevirtual 44, 3) := by decide +kernel
theorem dX0_locate_225 : decode cX0_locate 225 = .ok (.invokevirtual 89, 3) := by decide +kernel
theorem dX0_locate_228 : decode cX0_locate 228 = .ok (.invokestatic 78, 3) := by decide +kernel
theorem dX0_locate_231 : decode cX0_locate 231 = .ok (.lreturn, 1) := by decide +kernel
theorem dX0_locate_232 : decode cX0_locate 232 = .ok (.aload_n 0, 1) := by decide +kernel
theorem dX0_locate_233 : decode cX0_locate 233 = .ok (.getfield 15, 3) := by decide +kernel
theorem dX0_locate_236 : decode cX0_locate 236 = .ok (.dup, 1) := by decide +kernel
theorem dX0_locate_237 : decode cX0_locate 237 = .ok (.getfield 35, 3) := by decide +kernel
theorem dX0_locate_240 : decode cX0_locate 240 = .ok (.aload_n 1, 1) := by decide +kernel
theorem dX0_locate_241 : decode cX0_locate 241 = .ok (.getstatic 54, 3) := by decide +kernel
theorem dX0_locate_244 : decode cX0_locate 244 = .ok (.if_acmp .ne 7, 3) := by decide +kernel
theorem dX0_locate_247 : decode cX0_locate 247 = .ok (.iconst 4, 1) := by decide +kernel
theorem dX0_locate_248 : decode cX0_locate 248 = .ok (.goto 4, 3) := by decide +kernel
theorem dX0_locate_251 : decode cX0_locate 251 = .ok (.iconst 2, 1) := by decide +kernel
theorem dX0_locate_252 : decode cX0_locate 252 = .ok (.iadd, 1) := by decide +kernel
theorem dX0_locate_253 : decode cX0_locate 253 = .ok (.putfield 35, 3) := by decide +kernel
theorem dX0_locate_256 : decode cX0_locate 256 = .ok (.aload_n 1, 1) := by decide +kernel
theorem dX0_locate_257 : decode cX0_locate 257 = .ok (.getstatic 26, 3) := by decide +kernel
theorem dX0_locate_260 : decode cX0_locate 260 = .ok (.if_acmp .ne 10, 3) := by decide +kernel
theorem dX0_locate_263 : decode cX0_locate 263 = .ok (.iload 5, 2) := by decide +kernel
theorem dX0_locate_265 : decode cX0_locate 265 = .ok (.iconst 1, 1) := by decide +kernel
theorem dX0_locate_266 : decode cX0_locate 266 = .ok (.iadd, 1) := by decide +kernel
theorem dX0_locate_267 : decode cX0_locate 267 = .ok (.goto 5, 3) := by decide +kernel
theorem dX0_locate_270 : decode cX0_locate 270 = .ok (.iload 5, 2) := by decide +kernel
theorem dX0_locate_272 : decode cX0_locate 272 = .ok (.invokestatic 78, 3) := by decide +kernel
theorem dX0_locate_275 : decode cX0_locate 275 = .ok (.lreturn, 1) := by decide +kernel
theorem dX0_kind_0 : decode cX0_kind 0 = .ok (.iload_n 0, 1) := by decide +kernel
theorem dX0_kind_1 : decode cX0_kind 1 = .ok (.iconst 3, 1) := by decide +kernel
theorem dX0_kind_2 : decode cX0_kind 2 = .ok (.iushr, 1) := by decide +kernel
theorem dX0_kind_3 : decode cX0_kind 3 = .ok (.bipush 7, 2) := by decide +kernel
theorem dX0_kind_5 : decode cX0_kind 5 = .ok (.iand, 1) := by decide +kernel
theorem dX0_kind_6 : decode cX0_kind 6 = .ok (.istore_n 1, 1) := by decide +kernel
theorem dX0_kind_7 : decode cX0_kind 7 = .ok (.iload_n 1, 1) := by decide +kernel
theorem dX0_kind_8 : decode cX0_kind 8 = .ok (.bipush 7, 2) := by decide +kernel
theorem dX0_kind_10 : decode cX0_kind 10 = .ok (.if_icmp .ge 7, 3) := by decide +kernel
theorem dX0_kind_13 : decode cX0_kind 13 = .ok (.iload_n 1, 1) := by decide +kernel
theorem dX0_kind_14 : decode cX0_kind 14 = .ok (.goto 10, 3) := by decide +kernel
theorem dX0_kind_17 : decode cX0_kind 17 = .ok (.bipush 7, 2) := by decide +kernel
theorem dX0_kind_19 : decode cX0_kind 19 = .ok (.iload_n 0, 1) := by decide +kernel
theorem dX0_kind_20 : decode cX0_kind 20 = .ok (.bipush 7, 2) := by decide +kernel
theorem dX0_kind_22 : decode cX0_kind 22 = .ok (.iand, 1) := by decide +kernel
theorem dX0_kind_23 : decode cX0_kind 23 = .ok (.iadd, 1) := by decide +kernel
theorem dX0_kind_24 : decode cX0_kind 24 = .ok (.ireturn, 1) := by decide +kernel
theorem dX0_stride_0 : decode cX0_stride 0 = .ok (.aload_n 0, 1) := by decide +kernel
theorem dX0_stride_1 : decode cX0_stride 1 = .ok (.getstatic 26, 3) := by decide +kernel
theorem dX0_stride_4 : decode cX0_stride 4 = .ok (.if_acmp .ne 13, 3) := by decide +kernel
theorem dX0_stride_7 : decode cX0_stride 7 = .ok (.iload_n 1, 1) := by decide +kernel
theorem dX0_stride_8 : decode cX0_stride 8 = .ok (.bipush 7, 2) := by decide +kernel
theorem dX0_stride_10 : decode cX0_stride 10 = .ok (.if_icmp .ne 7, 3) := by decide +kernel
theorem dX0_stride_13 : decode cX0_stride 13 = .ok (.iconst 2, 1) := by decide +kernel
theorem dX0_stride_14 : decode cX0_stride 14 = .ok (.goto 7, 3) := by decide +kernel
theorem dX0_stride_17 : decode cX0_stride 17 = .ok (.aload_n 0, 1) := by decide +kernel
theorem dX0_stride_18 : decode cX0_stride 18 = .ok (.getfield 92, 3) := by decide +kernel
theorem dX0_stride_21 : decode cX0_stride 21 = .ok (.ireturn, 1) := by decide +kernel
theorem dX0_indexed_0 : decode cX0_indexed 0 = .ok (.aload_n 0, 1) := by decide +kernel
theorem dX0_indexed_1 : decode cX0_indexed 1 = .ok (.getfield 15, 3) := by decide +kernel
theorem dX0_indexed_4 : decode cX0_indexed 4 = .ok (.iload_n 2, 1) := by decide +kernel
theorem dX0_indexed_5 : decode cX0_indexed 5 = .ok (.bipush 12, 2) := by decide +kernel
theorem dX0_indexed_7 : decode cX0_indexed 7 = .ok (.iushr, 1) := by decide +kernel
theorem dX0_indexed_8 : decode cX0_indexed 8 = .ok (.invokevirtual 67, 3) := by decide +kernel
theorem dX0_indexed_11 : decode cX0_indexed 11 = .ok (.istore_n 3, 1) := by decide +kernel
theorem dX0_indexed_12 : decode cX0_indexed 12 = .ok (.iload_n 1, 1) := by decide +kernel
theorem dX0_indexed_13 : decode cX0_indexed 13 = .ok (.iload_n 2, 1) := by decide +kernel
theorem dX0_indexed_14 : decode cX0_indexed 14 = .ok (.i2b, 1) := by decide +kernel
theorem dX0_indexed_15 : decode cX0_indexed 15 = .ok (.iadd, 1) := by decide +kernel
theorem dX0_indexed_16 : decode cX0_indexed 16 = .ok (.iload_n 2, 1) := by decide +kernel
theorem dX0_indexed_17 : decode cX0_indexed 17 = .ok (.sipush 2048, 3) := by decide +kernel
theorem dX0_indexed_20 : decode cX0_indexed 20 = .ok (.iand, 1) := by decide +kernel
theorem dX0_indexed_21 : decode cX0_indexed 21 = .ok (.ifCond .eq 7, 3) := by decide +kernel
theorem dX0_indexed_24 : decode cX0_indexed 24 = .ok (.iload_n 3, 1) := by decide +kernel
theorem dX0_indexed_25 : decode cX0_indexed 25 = .ok (.goto 5, 3) := by decide +kernel
theorem dX0_indexed_28 : decode cX0_indexed 28 = .ok (.iload_n 3, 1) := by decide +kernel
theorem dX0_indexed_29 : decode cX0_indexed 29 = .ok (.i2s, 1) := by decide +kernel
theorem dX0_indexed_30 : decode cX0_indexed 30 = .ok (.iadd, 1) := by decide +kernel
theorem dX0_indexed_31 : decode cX0_indexed 31 = .ok (.ireturn, 1) := by decide +kernel
theorem dX0_load_0 : decode cX0_load 0 = .ok (.lload_n 2, 1) := by decide +kernel
theorem dX0_load_1 : decode cX0_load 1 = .ok (.lconst 0, 1) := by decide +kernel
theorem dX0_load_2 : decode cX0_load 2 = .ok (.lcmp, 1) := by decide +kernel
theorem dX0_load_3 : decode cX0_load 3 = .ok (.ifCond .ge 22, 3) := by decide +kernel
theorem dX0_load_6 : decode cX0_load 6 = .ok (.aload_n 0, 1) := by decide +kernel
theorem dX0_load_7 : decode cX0_load 7 = .ok (.getfield 15, 3) := by decide +kernel
theorem dX0_load_10 : decode cX0_load 10 = .ok (.ldc2_w 63, 3) := by decide +kernel
theorem dX0_load_13 : decode cX0_load 13 = .ok (.lload_n 2, 1) := by decide +kernel
theorem dX0_load_14 : decode cX0_load 14 = .ok (.lsub, 1) := by decide +kernel
theorem dX0_load_15 : decode cX0_load 15 = .ok (.l2i, 1) := by decide +kernel
theorem dX0_load_16 : decode cX0_load 16 = .ok (.invokevirtual 67, 3) := by decide +kernel
theorem dX0_load_19 : decode cX0_load 19 = .ok (.aload_n 1, 1) := by decide +kernel
theorem dX0_load_20 : decode cX0_load 20 = .ok (.getfield 60, 3) := by decide +kernel
theorem dX0_load_23 : decode cX0_load 23 = .ok (.iand, 1) := by decide +kernel
theorem dX0_load_24 : decode cX0_load 24 = .ok (.ireturn, 1) := by decide +kernel
theorem dX0_load_25 : decode cX0_load 25 = .ok (.aload_n 0, 1) := by decide +kernel
theorem dX0_load_26 : decode cX0_load 26 = .ok (.aload_n 1, 1) := by decide +kernel
theorem dX0_load_27 : decode cX0_load 27 = .ok (.lload_n 2, 1) := by decide +kernel
theorem dX0_load_28 : decode cX0_load 28 = .ok (.l2i, 1) := by decide +kernel
theorem dX0_load_29 : decode cX0_load 29 = .ok (.invokevirtual 95, 3) := by decide +kernel
theorem dX0_load_32 : decode cX0_load 32 = .ok (.ireturn, 1) := by decide +kernel
theorem dX0_loadAt_0 : decode cX0_loadAt 0 = .ok (.aload_n 0, 1) := by decide +kernel
theorem dX0_loadAt_1 : decode cX0_loadAt 1 = .ok (.aload_n 1, 1) := by decide +kernel
theorem dX0_loadAt_2 : decode cX0_loadAt 2 = .ok (.iload_n 2, 1) := by decide +kernel
theorem dX0_loadAt_3 : decode cX0_loadAt 3 = .ok (.invokevirtual 40, 3) := by decide +kernel
theorem dX0_loadAt_6 : decode cX0_loadAt 6 = .ok (.ifCond .eq 7, 3) := by decide +kernel
theorem dX0_loadAt_9 : decode cX0_loadAt 9 = .ok (.iconst 0, 1) := by decide +kernel
theorem dX0_loadAt_10 : decode cX0_loadAt 10 = .ok (.goto 15, 3) := by decide +kernel
theorem dX0_loadAt_13 : decode cX0_loadAt 13 = .ok (.aload_n 0, 1) := by decide +kernel
theorem dX0_loadAt_14 : decode cX0_loadAt 14 = .ok (.getfield 9, 3) := by decide +kernel
theorem dX0_loadAt_17 : decode cX0_loadAt 17 = .ok (.iload_n 2, 1) := by decide +kernel
theorem dX0_loadAt_18 : decode cX0_loadAt 18 = .ok (.aload_n 1, 1) := by decide +kernel
theorem dX0_loadAt_19 : decode cX0_loadAt 19 = .ok (.getfield 92, 3) := by decide +kernel
theorem dX0_loadAt_22 : decode cX0_loadAt 22 = .ok (.invokevirtual 48, 3) := by decide +kernel
theorem dX0_loadAt_25 : decode cX0_loadAt 25 = .ok (.ireturn, 1) := by decide +kernel
theorem dX0_store_0 : decode cX0_store 0 = .ok (.lload_n 2, 1) := by decide +kernel
theorem dX0_store_1 : decode cX0_store 1 = .ok (.lconst 0, 1) := by decide +kernel
theorem dX0_store_2 : decode cX0_store 2 = .ok (.lcmp, 1) := by decide +kernel
theorem dX0_store_3 : decode cX0_store 3 = .ok (.ifCond .ge 47, 3) := by decide +kernel
theorem dX0_store_6 : decode cX0_store 6 = .ok (.ldc2_w 63, 3) := by decide +kernel
theorem dX0_store_9 : decode cX0_store 9 = .ok (.lload_n 2, 1) := by decide +kernel
theorem dX0_store_10 : decode cX0_store 10 = .ok (.lsub, 1) := by decide +kernel
theorem dX0_store_11 : decode cX0_store 11 = .ok (.l2i, 1) := by decide +kernel
theorem dX0_store_12 : decode cX0_store 12 = .ok (.istore 5, 2) := by decide +kernel
theorem dX0_store_14 : decode cX0_store 14 = .ok (.aload_n 0, 1) := by decide +kernel
theorem dX0_store_15 : decode cX0_store 15 = .ok (.getfield 15, 3) := by decide +kernel
theorem dX0_store_18 : decode cX0_store 18 = .ok (.iload 5, 2) := by decide +kernel
theorem dX0_store_20 : decode cX0_store 20 = .ok (.aload_n 0, 1) := by decide +kernel
theorem dX0_store_21 : decode cX0_store 21 = .ok (.getfield 15, 3) := by decide +kernel
theorem dX0_store_24 : decode cX0_store 24 = .ok (.iload 5, 2) := by decide +kernel
theorem dX0_store_26 : decode cX0_store 26 = .ok (.invokevirtual 67, 3) := by decide +kernel
theorem dX0_store_29 : decode cX0_store 29 = .ok (.aload_n 1, 1) := by decide +kernel
theorem dX0_store_30 : decode cX0_store 30 = .ok (.getfield 60, 3) := by decide +kernel
theorem dX0_store_33 : decode cX0_store 33 = .ok (.iconst (-1), 1) := by decide +kernel
theorem dX0_store_34 : decode cX0_store 34 = .ok (.ixor, 1) := by decide +kernel
theorem dX0_store_35 : decode cX0_store 35 = .ok (.iand, 1) := by decide +kernel
theorem dX0_store_36 : decode cX0_store 36 = .ok (.iload 4, 2) := by decide +kernel
theorem dX0_store_38 : decode cX0_store 38 = .ok (.aload_n 1, 1) := by decide +kernel
theorem dX0_store_39 : decode cX0_store 39 = .ok (.getfield 60, 3) := by decide +kernel
theorem dX0_store_42 : decode cX0_store 42 = .ok (.iand, 1) := by decide +kernel
theorem dX0_store_43 : decode cX0_store 43 = .ok (.ior, 1) := by decide +kernel
theorem dX0_store_44 : decode cX0_store 44 = .ok (.invokevirtual 85, 3) := by decide +kernel
theorem dX0_store_47 : decode cX0_store 47 = .ok (.goto 12, 3) := by decide +kernel
theorem dX0_store_50 : decode cX0_store 50 = .ok (.aload_n 0, 1) := by decide +kernel
theorem dX0_store_51 : decode cX0_store 51 = .ok (.aload_n 1, 1) := by decide +kernel
theorem dX0_store_52 : decode cX0_store 52 = .ok (.lload_n 2, 1) := by decide +kernel
theorem dX0_store_53 : decode cX0_store 53 = .ok (.l2i, 1) := by decide +kernel
theorem dX0_store_54 : decode cX0_store 54 = .ok (.iload 4, 2) := by decide +kernel
theorem dX0_store_56 : decode cX0_store 56 = .ok (.invokevirtual 98, 3) := by decide +kernel
theorem dX0_store_59 : decode cX0_store 59 = .ok (.return_, 1) := by decide +kernel
theorem dX0_storeAt_0 : decode cX0_storeAt 0 = .ok (.aload_n 0, 1) := by decide +kernel
theorem dX0_storeAt_1 : decode cX0_storeAt 1 = .ok (.aload_n 1, 1) := by decide +kernel
theorem dX0_storeAt_2 : decode cX0_storeAt 2 = .ok (.iload_n 2, 1) := by decide +kernel
theorem dX0_storeAt_3 : decode cX0_storeAt 3 = .ok (.invokevirtual 40, 3) := by decide +kernel
theorem dX0_storeAt_6 : decode cX0_storeAt 6 = .ok (.ifCond .ne 16, 3) := by decide +kernel
theorem dX0_storeAt_9 : decode cX0_storeAt 9 = .ok (.aload_n 0, 1) := by decide +kernel
theorem dX0_storeAt_10 : decode cX0_storeAt 10 = .ok (.getfield 9, 3) := by decide +kernel
theorem dX0_storeAt_13 : decode cX0_storeAt 13 = .ok (.iload_n 2, 1) := by decide +kernel
theorem dX0_storeAt_14 : decode cX0_storeAt 14 = .ok (.iload_n 3, 1) := by decide +kernel
theorem dX0_storeAt_15 : decode cX0_storeAt 15 = .ok (.aload_n 1, 1) := by decide +kernel
theorem dX0_storeAt_16 : decode cX0_storeAt 16 = .ok (.getfield 92, 3) := by decide +kernel
theorem dX0_storeAt_19 : decode cX0_storeAt 19 = .ok (.invokevirtual 102, 3) := by decide +kernel
theorem dX0_storeAt_22 : decode cX0_storeAt 22 = .ok (.return_, 1) := by decide +kernel
theorem dX0_push_0 : decode cX0_push 0 = .ok (.aload_n 0, 1) := by decide +kernel
theorem dX0_push_1 : decode cX0_push 1 = .ok (.getfield 15, 3) := by decide +kernel
theorem dX0_push_4 : decode cX0_push 4 = .ok (.bipush 15, 2) := by decide +kernel
theorem dX0_push_6 : decode cX0_push 6 = .ok (.invokevirtual 67, 3) := by decide +kernel
theorem dX0_push_9 : decode cX0_push 9 = .ok (.aload_n 1, 1) := by decide +kernel
theorem dX0_push_10 : decode cX0_push 10 = .ok (.getfield 92, 3) := by decide +kernel
theorem dX0_push_13 : decode cX0_push 13 = .ok (.isub, 1) := by decide +kernel
theorem dX0_push_14 : decode cX0_push 14 = .ok (.istore_n 3, 1) := by decide +kernel
theorem dX0_push_15 : decode cX0_push 15 = .ok (.aload_n 0, 1) := by decide +kernel
theorem dX0_push_16 : decode cX0_push 16 = .ok (.getfield 15, 3) := by decide +kernel
theorem dX0_push_19 : decode cX0_push 19 = .ok (.bipush 15, 2) := by decide +kernel
theorem dX0_push_21 : decode cX0_push 21 = .ok (.iload_n 3, 1) := by decide +kernel
theorem dX0_push_22 : decode cX0_push 22 = .ok (.invokevirtual 85, 3) := by decide +kernel
theorem dX0_push_25 : decode cX0_push 25 = .ok (.aload_n 0, 1) := by decide +kernel
theorem dX0_push_26 : decode cX0_push 26 = .ok (.aload_n 1, 1) := by decide +kernel
theorem dX0_push_27 : decode cX0_push 27 = .ok (.iload_n 3, 1) := by decide +kernel
theorem dX0_push_28 : decode cX0_push 28 = .ok (.invokevirtual 40, 3) := by decide +kernel
theorem dX0_push_31 : decode cX0_push 31 = .ok (.ifCond .ne 16, 3) := by decide +kernel
theorem dX0_push_34 : decode cX0_push 34 = .ok (.aload_n 0, 1) := by decide +kernel
theorem dX0_push_35 : decode cX0_push 35 = .ok (.getfield 9, 3) := by decide +kernel
theorem dX0_push_38 : decode cX0_push 38 = .ok (.iload_n 3, 1) := by decide +kernel
theorem dX0_push_39 : decode cX0_push 39 = .ok (.iload_n 2, 1) := by decide +kernel
theorem dX0_push_40 : decode cX0_push 40 = .ok (.aload_n 1, 1) := by decide +kernel
theorem dX0_push_41 : decode cX0_push 41 = .ok (.getfield 92, 3) := by decide +kernel
theorem dX0_push_44 : decode cX0_push 44 = .ok (.invokevirtual 102, 3) := by decide +kernel
theorem dX0_push_47 : decode cX0_push 47 = .ok (.return_, 1) := by decide +kernel
theorem dX0_pop_0 : decode cX0_pop 0 = .ok (.aload_n 0, 1) := by decide +kernel
theorem dX0_pop_1 : decode cX0_pop 1 = .ok (.getfield 15, 3) := by decide +kernel
theorem dX0_pop_4 : decode cX0_pop 4 = .ok (.bipush 15, 2) := by decide +kernel
theorem dX0_pop_6 : decode cX0_pop 6 = .ok (.invokevirtual 67, 3) := by decide +kernel
theorem dX0_pop_9 : decode cX0_pop 9 = .ok (.istore_n 2, 1) := by decide +kernel
theorem dX0_pop_10 : decode cX0_pop 10 = .ok (.aload_n 0, 1) := by decide +kernel
theorem dX0_pop_11 : decode cX0_pop 11 = .ok (.getfield 15, 3) := by decide +kernel
theorem dX0_pop_14 : decode cX0_pop 14 = .ok (.bipush 15, 2) := by decide +kernel
theorem dX0_pop_16 : decode cX0_pop 16 = .ok (.iload_n 2, 1) := by decide +kernel
theorem dX0_pop_17 : decode cX0_pop 17 = .ok (.aload_n 1, 1) := by decide +kernel
theorem dX0_pop_18 : decode cX0_pop 18 = .ok (.getfield 92, 3) := by decide +kernel
theorem dX0_pop_21 : decode cX0_pop 21 = .ok (.iadd, 1) := by decide +kernel
theorem dX0_pop_22 : decode cX0_pop 22 = .ok (.invokevirtual 85, 3) := by decide +kernel
theorem dX0_pop_25 : decode cX0_pop 25 = .ok (.aload_n 0, 1) := by decide +kernel
theorem dX0_pop_26 : decode cX0_pop 26 = .ok (.aload_n 1, 1) := by decide +kernel
theorem dX0_pop_27 : decode cX0_pop 27 = .ok (.iload_n 2, 1) := by decide +kernel
theorem dX0_pop_28 : decode cX0_pop 28 = .ok (.invokevirtual 40, 3) := by decide +kernel
theorem dX0_pop_31 : decode cX0_pop 31 = .ok (.ifCond .eq 7, 3) := by decide +kernel
theorem dX0_pop_34 : decode cX0_pop 34 = .ok (.iconst 0, 1) := by decide +kernel
theorem dX0_pop_35 : decode cX0_pop 35 = .ok (.goto 15, 3) := by decide +kernel
theorem dX0_pop_38 : decode cX0_pop 38 = .ok (.aload_n 0, 1) := by decide +kernel
theorem dX0_pop_39 : decode cX0_pop 39 = .ok (.getfield 9, 3) := by decide +kernel
theorem dX0_pop_42 : decode cX0_pop 42 = .ok (.iload_n 2, 1) := by decide +kernel
theorem dX0_pop_43 : decode cX0_pop 43 = .ok (.aload_n 1, 1) := by decide +kernel
theorem dX0_pop_44 : decode cX0_pop 44 = .ok (.getfield 92, 3) := by decide +kernel
theorem dX0_pop_47 : decode cX0_pop 47 = .ok (.invokevirtual 48, 3) := by decide +kernel
theorem dX0_pop_50 : decode cX0_pop 50 = .ok (.ireturn, 1) := by decide +kernel
theorem dX1_init_0 : decode cX1_init 0 = .ok (.aload_n 0, 1) := by decide +kernel
theorem dX1_init_1 : decode cX1_init 1 = .ok (.invokespecial 3, 3) := by decide +kernel
theorem dX1_init_4 : decode cX1_init 4 = .ok (.aload_n 0, 1) := by decide +kernel
theorem dX1_init_5 : decode cX1_init 5 = .ok (.aload_n 1, 1) := by decide +kernel
theorem dX1_init_6 : decode cX1_init 6 = .ok (.putfield 9, 3) := by decide +kernel
theorem dX1_init_9 : decode cX1_init 9 = .ok (.return_, 1) := by decide +kernel
theorem dX1_note_0 : decode cX1_note 0 = .ok (.iload_n 2, 1) := by decide +kernel
theorem dX1_note_1 : decode cX1_note 1 = .ok (.aload_n 1, 1) := by decide +kernel
theorem dX1_note_2 : decode cX1_note 2 = .ok (.getfield 15, 3) := by decide +kernel
theorem dX1_note_5 : decode cX1_note 5 = .ok (.iand, 1) := by decide +kernel
theorem dX1_note_6 : decode cX1_note 6 = .ok (.ifCond .eq 8, 3) := by decide +kernel
theorem dX1_note_9 : decode cX1_note 9 = .ok (.bipush 8, 2) := by decide +kernel
theorem dX1_note_11 : decode cX1_note 11 = .ok (.goto 4, 3) := by decide +kernel
theorem dX1_note_14 : decode cX1_note 14 = .ok (.iconst 0, 1) := by decide +kernel
theorem dX1_note_15 : decode cX1_note 15 = .ok (.istore 5, 2) := by decide +kernel
theorem dX1_note_17 : decode cX1_note 17 = .ok (.iload 5, 2) := by decide +kernel
theorem dX1_note_19 : decode cX1_note 19 = .ok (.iload_n 2, 1) := by decide +kernel
theorem dX1_note_20 : decode cX1_note 20 = .ok (.aload_n 1, 1) := by decide +kernel
theorem dX1_note_21 : decode cX1_note 21 = .ok (.getfield 21, 3) := by decide +kernel
theorem dX1_note_24 : decode cX1_note 24 = .ok (.iand, 1) := by decide +kernel
theorem dX1_note_25 : decode cX1_note 25 = .ok (.ifCond .ne 7, 3) := by decide +kernel
theorem dX1_note_28 : decode cX1_note 28 = .ok (.iconst 4, 1) := by decide +kernel
theorem dX1_note_29 : decode cX1_note 29 = .ok (.goto 4, 3) := by decide +kernel
theorem dX1_note_32 : decode cX1_note 32 = .ok (.iconst 0, 1) := by decide +kernel
theorem dX1_note_33 : decode cX1_note 33 = .ok (.ior, 1) := by decide +kernel
theorem dX1_note_34 : decode cX1_note 34 = .ok (.istore 5, 2) := by decide +kernel
theorem dX1_note_36 : decode cX1_note 36 = .ok (.iload 5, 2) := by decide +kernel
theorem dX1_note_38 : decode cX1_note 38 = .ok (.iload_n 3, 1) := by decide +kernel
theorem dX1_note_39 : decode cX1_note 39 = .ok (.ifCond .eq 7, 3) := by decide +kernel
theorem dX1_note_42 : decode cX1_note 42 = .ok (.iconst 2, 1) := by decide +kernel
theorem dX1_note_43 : decode cX1_note 43 = .ok (.goto 4, 3) := by decide +kernel
theorem dX1_note_46 : decode cX1_note 46 = .ok (.iconst 0, 1) := by decide +kernel
theorem dX1_note_47 : decode cX1_note 47 = .ok (.ior, 1) := by decide +kernel
theorem dX1_note_48 : decode cX1_note 48 = .ok (.istore 5, 2) := by decide +kernel
theorem dX1_note_50 : decode cX1_note 50 = .ok (.iload 5, 2) := by decide +kernel
theorem dX1_note_52 : decode cX1_note 52 = .ok (.iload 4, 2) := by decide +kernel
theorem dX1_note_54 : decode cX1_note 54 = .ok (.ifCond .eq 7, 3) := by decide +kernel
theorem dX1_note_57 : decode cX1_note 57 = .ok (.iconst 1, 1) := by decide +kernel
theorem dX1_note_58 : decode cX1_note 58 = .ok (.goto 4, 3) := by decide +kernel
theorem dX1_note_61 : decode cX1_note 61 = .ok (.iconst 0, 1) := by decide +kernel
theorem dX1_note_62 : decode cX1_note 62 = .ok (.ior, 1) := by decide +kernel
theorem dX1_note_63 : decode cX1_note 63 = .ok (.istore 5, 2) := by decide +kernel
theorem dX1_note_65 : decode cX1_note 65 = .ok (.aload_n 0, 1) := by decide +kernel
theorem dX1_note_66 : decode cX1_note 66 = .ok (.getfield 9, 3) := by decide +kernel
theorem dX1_note_69 : decode cX1_note 69 = .ok (.aload_n 0, 1) := by decide +kernel
theorem dX1_note_70 : decode cX1_note 70 = .ok (.getfield 9, 3) := by decide +kernel
theorem dX1_note_73 : decode cX1_note 73 = .ok (.getfield 24, 3) := by decide +kernel
theorem dX1_note_76 : decode cX1_note 76 = .ok (.bipush (-16), 2) := by decide +kernel
theorem dX1_note_78 : decode cX1_note 78 = .ok (.iand, 1) := by decide +kernel
theorem dX1_note_79 : decode cX1_note 79 = .ok (.iload 5, 2) := by decide +kernel
theorem dX1_note_81 : decode cX1_note 81 = .ok (.ior, 1) := by decide +kernel
theorem dX1_note_82 : decode cX1_note 82 = .ok (.putfield 24, 3) := by decide +kernel
theorem dX1_note_85 : decode cX1_note 85 = .ok (.return_, 1) := by decide +kernel
theorem dX1_logic_0 : decode cX1_logic 0 = .ok (.aload_n 0, 1) := by decide +kernel
theorem dX1_logic_1 : decode cX1_logic 1 = .ok (.aload_n 1, 1) := by decide +kernel
theorem dX1_logic_2 : decode cX1_logic 2 = .ok (.iload_n 2, 1) := by decide +kernel
theorem dX1_logic_3 : decode cX1_logic 3 = .ok (.iconst 0, 1) := by decide +kernel
theorem dX1_logic_4 : decode cX1_logic 4 = .ok (.iconst 0, 1) := by decide +kernel
theorem dX1_logic_5 : decode cX1_logic 5 = .ok (.invokevirtual 29, 3) := by decide +kernel
theorem dX1_logic_8 : decode cX1_logic 8 = .ok (.iload_n 2, 1) := by decide +kernel
theorem dX1_logic_9 : decode cX1_logic 9 = .ok (.aload_n 1, 1) := by decide +kernel
theorem dX1_logic_10 : decode cX1_logic 10 = .ok (.getfield 21, 3) := by decide +kernel
theorem dX1_logic_13 : decode cX1_logic 13 = .ok (.iand, 1) := by decide +kernel
theorem dX1_logic_14 : decode cX1_logic 14 = .ok (.ireturn, 1) := by decide +kernel
theorem dX1_added_0 : decode cX1_added 0 = .ok (.aload_n 1, 1) := by decide +kernel
theorem dX1_added_1 : decode cX1_added 1 = .ok (.iload_n 2, 1) := by decide +kernel
theorem dX1_added_2 : decode cX1_added 2 = .ok (.invokevirtual 33, 3) := by decide +kernel
theorem dX1_added_5 : decode cX1_added 5 = .ok (.aload_n 1, 1) := by decide +kernel
theorem dX1_added_6 : decode cX1_added 6 = .ok (.iload_n 3, 1) := by decide +kernel
theorem dX1_added_7 : decode cX1_added 7 = .ok (.invokevirtual 33, 3) := by decide +kernel
theorem dX1_added_10 : decode cX1_added 10 = .ok (.ladd, 1) := by decide +kernel
theorem dX1_added_11 : decode cX1_added 11 = .ok (.iload 4, 2) := by decide +kernel
theorem dX1_added_13 : decode cX1_added 13 = .ok (.i2l, 1) := by decide +kernel
theorem dX1_added_14 : decode cX1_added 14 = .ok (.ladd, 1) := by decide +kernel
theorem dX1_added_15 : decode cX1_added 15 = .ok (.lstore 5, 2) := by decide +kernel
theorem dX1_added_17 : decode cX1_added 17 = .ok (.lload 5, 2) := by decide +kernel
theorem dX1_added_19 : decode cX1_added 19 = .ok (.l2i, 1) := by decide +kernel
theorem dX1_added_20 : decode cX1_added 20 = .ok (.aload_n 1, 1) := by decide +kernel
theorem dX1_added_21 : decode cX1_added 21 = .ok (.getfield 21, 3) := by decide +kernel
theorem dX1_added_24 : decode cX1_added 24 = .ok (.iand, 1) := by decide +kernel
theorem dX1_added_25 : decode cX1_added 25 = .ok (.istore 7, 2) := by decide +kernel
theorem dX1_added_27 : decode cX1_added 27 = .ok (.aload_n 0, 1) := by decide +kernel
theorem dX1_added_28 : decode cX1_added 28 = .ok (.aload_n 1, 1) := by decide +kernel
theorem dX1_added_29 : decode cX1_added 29 = .ok (.iload 7, 2) := by decide +kernel
theorem dX1_added_31 : decode cX1_added 31 = .ok (.iload_n 2, 1) := by decide +kernel
theorem dX1_added_32 : decode cX1_added 32 = .ok (.iload 7, 2) := by decide +kernel
theorem dX1_added_34 : decode cX1_added 34 = .ok (.ixor, 1) := by decide +kernel
theorem dX1_added_35 : decode cX1_added 35 = .ok (.iload_n 3, 1) := by decide +kernel
theorem dX1_added_36 : decode cX1_added 36 = .ok (.iload 7, 2) := by decide +kernel
theorem dX1_added_38 : decode cX1_added 38 = .ok (.ixor, 1) := by decide +kernel
theorem dX1_added_39 : decode cX1_added 39 = .ok (.iand, 1) := by decide +kernel
theorem dX1_added_40 : decode cX1_added 40 = .ok (.aload_n 1, 1) := by decide +kernel
theorem dX1_added_41 : decode cX1_added 41 = .ok (.getfield 15, 3) := by decide +kernel
theorem dX1_added_44 : decode cX1_added 44 = .ok (.iand, 1) := by decide +kernel
theorem dX1_added_45 : decode cX1_added 45 = .ok (.ifCond .eq 7, 3) := by decide +kernel
theorem dX1_added_48 : decode cX1_added 48 = .ok (.iconst 1, 1) := by decide +kernel
theorem dX1_added_49 : decode cX1_added 49 = .ok (.goto 4, 3) := by decide +kernel
theorem dX1_added_52 : decode cX1_added 52 = .ok (.iconst 0, 1) := by decide +kernel
theorem dX1_added_53 : decode cX1_added 53 = .ok (.lload 5, 2) := by decide +kernel
theorem dX1_added_55 : decode cX1_added 55 = .ok (.aload_n 1, 1) := by decide +kernel
theorem dX1_added_56 : decode cX1_added 56 = .ok (.iconst (-1), 1) := by decide +kernel
theorem dX1_added_57 : decode cX1_added 57 = .ok (.invokevirtual 33, 3) := by decide +kernel
theorem dX1_added_60 : decode cX1_added 60 = .ok (.lcmp, 1) := by decide +kernel
theorem dX1_added_61 : decode cX1_added 61 = .ok (.ifCond .le 7, 3) := by decide +kernel
theorem dX1_added_64 : decode cX1_added 64 = .ok (.iconst 1, 1) := by decide +kernel
theorem dX1_added_65 : decode cX1_added 65 = .ok (.goto 4, 3) := by decide +kernel
theorem dX1_added_68 : decode cX1_added 68 = .ok (.iconst 0, 1) := by decide +kernel
theorem dX1_added_69 : decode cX1_added 69 = .ok (.invokevirtual 29, 3) := by decide +kernel
theorem dX1_added_72 : decode cX1_added 72 = .ok (.iload 7, 2) := by decide +kernel
theorem dX1_added_74 : decode cX1_added 74 = .ok (.ireturn, 1) := by decide +kernel
theorem dX1_subtracted_0 : decode cX1_subtracted 0 = .ok (.aload_n 1, 1) := by decide +kernel
theorem dX1_subtracted_1 : decode cX1_subtracted 1 = .ok (.iload_n 2, 1) := by decide +kernel
theorem dX1_subtracted_2 : decode cX1_subtracted 2 = .ok (.invokevirtual 33, 3) := by decide +kernel
theorem dX1_subtracted_5 : decode cX1_subtracted 5 = .ok (.aload_n 1, 1) := by decide +kernel
theorem dX1_subtracted_6 : decode cX1_subtracted 6 = .ok (.iload_n 3, 1) := by decide +kernel
theorem dX1_subtracted_7 : decode cX1_subtracted 7 = .ok (.invokevirtual 33, 3) := by decide +kernel
theorem dX1_subtracted_10 : decode cX1_subtracted 10 = .ok (.lsub, 1) := by decide +kernel
theorem dX1_subtracted_11 : decode cX1_subtracted 11 = .ok (.iload 4, 2) := by decide +kernel
theorem dX1_subtracted_13 : decode cX1_subtracted 13 = .ok (.i2l, 1) := by decide +kernel
theorem dX1_subtracted_14 : decode cX1_subtracted 14 = .ok (.lsub, 1) := by decide +kernel
theorem dX1_subtracted_15 : decode cX1_subtracted 15 = .ok (.lstore 5, 2) := by decide +kernel
theorem dX1_subtracted_17 : decode cX1_subtracted 17 = .ok (.lload 5, 2) := by decide +kernel
theorem dX1_subtracted_19 : decode cX1_subtracted 19 = .ok (.l2i, 1) := by decide +kernel
theorem dX1_subtracted_20 : decode cX1_subtracted 20 = .ok (.aload_n 1, 1) := by decide +kernel
theorem dX1_subtracted_21 : decode cX1_subtracted 21 = .ok (.getfield 21, 3) := by decide +kernel
theorem dX1_subtracted_24 : decode cX1_subtracted 24 = .ok (.iand, 1) := by decide +kernel
theorem dX1_subtracted_25 : decode cX1_subtracted 25 = .ok (.istore 7, 2) := by decide +kernel
theorem dX1_subtracted_27 : decode cX1_subtracted 27 = .ok (.aload_n 0, 1) := by decide +kernel
theorem dX1_subtracted_28 : decode cX1_subtracted 28 = .ok (.aload_n 1, 1) := by decide +kernel
theorem dX1_subtracted_29 : decode cX1_subtracted 29 = .ok (.iload 7, 2) := by decide +kernel
theorem dX1_subtracted_31 : decode cX1_subtracted 31 = .ok (.iload_n 2, 1) := by decide +kernel
theorem dX1_subtracted_32 : decode cX1_subtracted 32 = .ok (.iload_n 3, 1) := by decide +kernel
theorem dX1_subtracted_33 : decode cX1_subtracted 33 = .ok (.ixor, 1) := by decide +kernel
theorem dX1_subtracted_34 : decode cX1_subtracted 34 = .ok (.iload_n 2, 1) := by decide +kernel
theorem dX1_subtracted_35 : decode cX1_subtracted 35 = .ok (.iload 7, 2) := by decide +kernel
theorem dX1_subtracted_37 : decode cX1_subtracted 37 = .ok (.ixor, 1) := by decide +kernel
theorem dX1_subtracted_38 : decode cX1_subtracted 38 = .ok (.iand, 1) := by decide +kernel
theorem dX1_subtracted_39 : decode cX1_subtracted 39 = .ok (.aload_n 1, 1) := by decide +kernel
theorem dX1_subtracted_40 : decode cX1_subtracted 40 = .ok (.getfield 15, 3) := by decide +kernel
theorem dX1_subtracted_43 : decode cX1_subtracted 43 = .ok (.iand, 1) := by decide +kernel
theorem dX1_subtracted_44 : decode cX1_subtracted 44 = .ok (.ifCond .eq 7, 3) := by decide +kernel
theorem dX1_subtracted_47 : decode cX1_subtracted 47 = .ok (.iconst 1, 1) := by decide +kernel
theorem dX1_subtracted_48 : decode cX1_subtracted 48 = .ok (.goto 4, 3) := by decide +kernel
theorem dX1_subtracted_51 : decode cX1_subtracted 51 = .ok (.iconst 0, 1) := by decide +kernel
theorem dX1_subtracted_52 : decode cX1_subtracted 52 = .ok (.lload 5, 2) := by decide +kernel
theorem dX1_subtracted_54 : decode cX1_subtracted 54 = .ok (.lconst 0, 1) := by decide +kernel
theorem dX1_subtracted_55 : decode cX1_subtracted 55 = .ok (.lcmp, 1) := by decide +kernel
theorem dX1_subtracted_56 : decode cX1_subtracted 56 = .ok (.ifCond .ge 7, 3) := by decide +kernel
theorem dX1_subtracted_59 : decode cX1_subtracted 59 = .ok (.iconst 1, 1) := by decide +kernel
theorem dX1_subtracted_60 : decode cX1_subtracted 60 = .ok (.goto 4, 3) := by decide +kernel
theorem dX1_subtracted_63 : decode cX1_subtracted 63 = .ok (.iconst 0, 1) := by decide +kernel
theorem dX1_subtracted_64 : decode cX1_subtracted 64 = .ok (.invokevirtual 29, 3) := by decide +kernel
theorem dX1_subtracted_67 : decode cX1_subtracted 67 = .ok (.iload 7, 2) := by decide +kernel
theorem dX1_subtracted_69 : decode cX1_subtracted 69 = .ok (.ireturn, 1) := by decide +kernel
theorem dX1_withCarryToX_0 : decode cX1_withCarryToX 0 = .ok (.aload_n 0, 1) := by decide +kernel
theorem dX1_withCarryToX_1 : decode cX1_withCarryToX 1 = .ok (.getfield 9, 3) := by decide +kernel
theorem dX1_withCarryToX_4 : decode cX1_withCarryToX 4 = .ok (.bipush 16, 2) := by decide +kernel
theorem dX1_withCarryToX_6 : decode cX1_withCarryToX 6 = .ok (.aload_n 0, 1) := by decide +kernel
theorem dX1_withCarryToX_7 : decode cX1_withCarryToX 7 = .ok (.getfield 9, 3) := by decide +kernel
theorem dX1_withCarryToX_10 : decode cX1_withCarryToX 10 = .ok (.iconst 1, 1) := by decide +kernel
theorem dX1_withCarryToX_11 : decode cX1_withCarryToX 11 = .ok (.invokevirtual 37, 3) := by decide +kernel
theorem dX1_withCarryToX_14 : decode cX1_withCarryToX 14 = .ok (.invokevirtual 41, 3) := by decide +kernel
theorem dX1_withCarryToX_17 : decode cX1_withCarryToX 17 = .ok (.iload_n 1, 1) := by decide +kernel
theorem dX1_withCarryToX_18 : decode cX1_withCarryToX 18 = .ok (.ireturn, 1) := by decide +kernel
theorem dX1_xAsNumber_0 : decode cX1_xAsNumber 0 = .ok (.aload_n 0, 1) := by decide +kernel
theorem dX1_xAsNumber_1 : decode cX1_xAsNumber 1 = .ok (.getfield 9, 3) := by decide +kernel
theorem dX1_xAsNumber_4 : decode cX1_xAsNumber 4 = .ok (.bipush 16, 2) := by decide +kernel
theorem dX1_xAsNumber_6 : decode cX1_xAsNumber 6 = .ok (.invokevirtual 37, 3) := by decide +kernel
theorem dX1_xAsNumber_9 : decode cX1_xAsNumber 9 = .ok (.ifCond .eq 7, 3) := by decide +kernel
theorem dX1_xAsNumber_12 : decode cX1_xAsNumber 12 = .ok (.iconst 1, 1) := by decide +kernel
theorem dX1_xAsNumber_13 : decode cX1_xAsNumber 13 = .ok (.goto 4, 3) := by decide +kernel
theorem dX1_xAsNumber_16 : decode cX1_xAsNumber 16 = .ok (.iconst 0, 1) := by decide +kernel
theorem dX1_xAsNumber_17 : decode cX1_xAsNumber 17 = .ok (.ireturn, 1) := by decide +kernel
theorem dX1_compare_0 : decode cX1_compare 0 = .ok (.aload_n 0, 1) := by decide +kernel
theorem dX1_compare_1 : decode cX1_compare 1 = .ok (.aload_n 1, 1) := by decide +kernel
theorem dX1_compare_2 : decode cX1_compare 2 = .ok (.iload_n 2, 1) := by decide +kernel
theorem dX1_compare_3 : decode cX1_compare 3 = .ok (.iload_n 3, 1) := by decide +kernel
theorem dX1_compare_4 : decode cX1_compare 4 = .ok (.iconst 0, 1) := by decide +kernel
theorem dX1_compare_5 : decode cX1_compare 5 = .ok (.invokevirtual 45, 3) := by decide +kernel
theorem dX1_compare_8 : decode cX1_compare 8 = .ok (.pop, 1) := by decide +kernel
theorem dX1_compare_9 : decode cX1_compare 9 = .ok (.return_, 1) := by decide +kernel
theorem dX1_joined_0 : decode cX1_joined 0 = .ok (.iload_n 1, 1) := by decide +kernel
theorem dX1_joined_1 : decode cX1_joined 1 = .ok (.tableswitch 79 0 3 #[31, 41, 51, 65], 31) := by decide +kernel
theorem dX1_joined_32 : decode cX1_joined 32 = .ok (.aload_n 0, 1) := by decide +kernel
theorem dX1_joined_33 : decode cX1_joined 33 = .ok (.aload_n 2, 1) := by decide +kernel
theorem dX1_joined_34 : decode cX1_joined 34 = .ok (.iload_n 3, 1) := by decide +kernel
theorem dX1_joined_35 : decode cX1_joined 35 = .ok (.iload 4, 2) := by decide +kernel
theorem dX1_joined_37 : decode cX1_joined 37 = .ok (.ior, 1) := by decide +kernel
theorem dX1_joined_38 : decode cX1_joined 38 = .ok (.invokevirtual 49, 3) := by decide +kernel
theorem dX1_joined_41 : decode cX1_joined 41 = .ok (.ireturn, 1) := by decide +kernel
theorem dX1_joined_42 : decode cX1_joined 42 = .ok (.aload_n 0, 1) := by decide +kernel
theorem dX1_joined_43 : decode cX1_joined 43 = .ok (.aload_n 2, 1) := by decide +kernel
theorem dX1_joined_44 : decode cX1_joined 44 = .ok (.iload_n 3, 1) := by decide +kernel
theorem dX1_joined_45 : decode cX1_joined 45 = .ok (.iload 4, 2) := by decide +kernel
theorem dX1_joined_47 : decode cX1_joined 47 = .ok (.iand, 1) := by decide +kernel
theorem dX1_joined_48 : decode cX1_joined 48 = .ok (.invokevirtual 49, 3) := by decide +kernel
theorem dX1_joined_51 : decode cX1_joined 51 = .ok (.ireturn, 1) := by decide +kernel
theorem dX1_joined_52 : decode cX1_joined 52 = .ok (.aload_n 0, 1) := by decide +kernel
theorem dX1_joined_53 : decode cX1_joined 53 = .ok (.aload_n 0, 1) := by decide +kernel
theorem dX1_joined_54 : decode cX1_joined 54 = .ok (.aload_n 2, 1) := by decide +kernel
theorem dX1_joined_55 : decode cX1_joined 55 = .ok (.iload_n 3, 1) := by decide +kernel
theorem dX1_joined_56 : decode cX1_joined 56 = .ok (.iload 4, 2) := by decide +kernel
theorem dX1_joined_58 : decode cX1_joined 58 = .ok (.iconst 0, 1) := by decide +kernel
theorem dX1_joined_59 : decode cX1_joined 59 = .ok (.invokevirtual 45, 3) := by decide +kernel
theorem dX1_joined_62 : decode cX1_joined 62 = .ok (.invokevirtual 53, 3) := by decide +kernel
theorem dX1_joined_65 : decode cX1_joined 65 = .ok (.ireturn, 1) := by decide +kernel
theorem dX1_joined_66 : decode cX1_joined 66 = .ok (.aload_n 0, 1) := by decide +kernel
theorem dX1_joined_67 : decode cX1_joined 67 = .ok (.aload_n 0, 1) := by decide +kernel
theorem dX1_joined_68 : decode cX1_joined 68 = .ok (.aload_n 2, 1) := by decide +kernel
theorem dX1_joined_69 : decode cX1_joined 69 = .ok (.iload_n 3, 1) := by decide +kernel
theorem dX1_joined_70 : decode cX1_joined 70 = .ok (.iload 4, 2) := by decide +kernel
theorem dX1_joined_72 : decode cX1_joined 72 = .ok (.iconst 0, 1) := by decide +kernel
theorem dX1_joined_73 : decode cX1_joined 73 = .ok (.invokevirtual 57, 3) := by decide +kernel
theorem dX1_joined_76 : decode cX1_joined 76 = .ok (.invokevirtual 53, 3) := by decide +kernel
theorem dX1_joined_79 : decode cX1_joined 79 = .ok (.ireturn, 1) := by decide +kernel
theorem dX1_joined_80 : decode cX1_joined 80 = .ok (.aload_n 0, 1) := by decide +kernel
theorem dX1_joined_81 : decode cX1_joined 81 = .ok (.aload_n 2, 1) := by decide +kernel
theorem dX1_joined_82 : decode cX1_joined 82 = .ok (.iload_n 3, 1) := by decide +kernel
theorem dX1_joined_83 : decode cX1_joined 83 = .ok (.iload 4, 2) := by decide +kernel
theorem dX1_joined_85 : decode cX1_joined 85 = .ok (.ixor, 1) := by decide +kernel
theorem dX1_joined_86 : decode cX1_joined 86 = .ok (.invokevirtual 49, 3) := by decide +kernel
theorem dX1_joined_89 : decode cX1_joined 89 = .ok (.ireturn, 1) := by decide +kernel
theorem dX1_joinedWithX_0 : decode cX1_joinedWithX 0 = .ok (.aload_n 0, 1) := by decide +kernel
theorem dX1_joinedWithX_1 : decode cX1_joinedWithX 1 = .ok (.getfield 9, 3) := by decide +kernel
theorem dX1_joinedWithX_4 : decode cX1_joinedWithX 4 = .ok (.iconst 4, 1) := by decide +kernel
theorem dX1_joinedWithX_5 : decode cX1_joinedWithX 5 = .ok (.invokevirtual 37, 3) := by decide +kernel
theorem dX1_joinedWithX_8 : decode cX1_joinedWithX 8 = .ok (.istore 5, 2) := by decide +kernel
theorem dX1_joinedWithX_10 : decode cX1_joinedWithX 10 = .ok (.iload_n 1, 1) := by decide +kernel
theorem dX1_joinedWithX_11 : decode cX1_joinedWithX 11 = .ok (.iconst 2, 1) := by decide +kernel
theorem dX1_joinedWithX_12 : decode cX1_joinedWithX 12 = .ok (.if_icmp .ne 18, 3) := by decide +kernel
theorem dX1_joinedWithX_15 : decode cX1_joinedWithX 15 = .ok (.aload_n 0, 1) := by decide +kernel
theorem dX1_joinedWithX_16 : decode cX1_joinedWithX 16 = .ok (.aload_n 2, 1) := by decide +kernel
theorem dX1_joinedWithX_17 : decode cX1_joinedWithX 17 = .ok (.iload_n 3, 1) := by decide +kernel
theorem dX1_joinedWithX_18 : decode cX1_joinedWithX 18 = .ok (.iload 4, 2) := by decide +kernel
theorem dX1_joinedWithX_20 : decode cX1_joinedWithX 20 = .ok (.aload_n 0, 1) := by decide +kernel
theorem dX1_joinedWithX_21 : decode cX1_joinedWithX 21 = .ok (.invokevirtual 60, 3) := by decide +kernel
theorem dX1_joinedWithX_24 : decode cX1_joinedWithX 24 = .ok (.invokevirtual 45, 3) := by decide +kernel
theorem dX1_joinedWithX_27 : decode cX1_joinedWithX 27 = .ok (.goto 15, 3) := by decide +kernel
theorem dX1_joinedWithX_30 : decode cX1_joinedWithX 30 = .ok (.aload_n 0, 1) := by decide +kernel
theorem dX1_joinedWithX_31 : decode cX1_joinedWithX 31 = .ok (.aload_n 2, 1) := by decide +kernel
theorem dX1_joinedWithX_32 : decode cX1_joinedWithX 32 = .ok (.iload_n 3, 1) := by decide +kernel
theorem dX1_joinedWithX_33 : decode cX1_joinedWithX 33 = .ok (.iload 4, 2) := by decide +kernel
theorem dX1_joinedWithX_35 : decode cX1_joinedWithX 35 = .ok (.aload_n 0, 1) := by decide +kernel
theorem dX1_joinedWithX_36 : decode cX1_joinedWithX 36 = .ok (.invokevirtual 60, 3) := by decide +kernel
theorem dX1_joinedWithX_39 : decode cX1_joinedWithX 39 = .ok (.invokevirtual 57, 3) := by decide +kernel
theorem dX1_joinedWithX_42 : decode cX1_joinedWithX 42 = .ok (.istore 6, 2) := by decide +kernel
theorem dX1_joinedWithX_44 : decode cX1_joinedWithX 44 = .ok (.aload_n 0, 1) := by decide +kernel
theorem dX1_joinedWithX_45 : decode cX1_joinedWithX 45 = .ok (.getfield 9, 3) := by decide +kernel
theorem dX1_joinedWithX_48 : decode cX1_joinedWithX 48 = .ok (.iconst 4, 1) := by decide +kernel
theorem dX1_joinedWithX_49 : decode cX1_joinedWithX 49 = .ok (.iload 5, 2) := by decide +kernel
theorem dX1_joinedWithX_51 : decode cX1_joinedWithX 51 = .ok (.ifCond .eq 12, 3) := by decide +kernel
theorem dX1_joinedWithX_54 : decode cX1_joinedWithX 54 = .ok (.iload 6, 2) := by decide +kernel
theorem dX1_joinedWithX_56 : decode cX1_joinedWithX 56 = .ok (.ifCond .ne 7, 3) := by decide +kernel
theorem dX1_joinedWithX_59 : decode cX1_joinedWithX 59 = .ok (.iconst 1, 1) := by decide +kernel
theorem dX1_joinedWithX_60 : decode cX1_joinedWithX 60 = .ok (.goto 4, 3) := by decide +kernel
theorem dX1_joinedWithX_63 : decode cX1_joinedWithX 63 = .ok (.iconst 0, 1) := by decide +kernel
theorem dX1_joinedWithX_64 : decode cX1_joinedWithX 64 = .ok (.invokevirtual 41, 3) := by decide +kernel
theorem dX1_joinedWithX_67 : decode cX1_joinedWithX 67 = .ok (.aload_n 0, 1) := by decide +kernel
theorem dX1_joinedWithX_68 : decode cX1_joinedWithX 68 = .ok (.iload 6, 2) := by decide +kernel
theorem dX1_joinedWithX_70 : decode cX1_joinedWithX 70 = .ok (.invokevirtual 53, 3) := by decide +kernel
theorem dX1_joinedWithX_73 : decode cX1_joinedWithX 73 = .ok (.ireturn, 1) := by decide +kernel
theorem dX1_decimalPlus_0 : decode cX1_decimalPlus 0 = .ok (.iload_n 1, 1) := by decide +kernel
theorem dX1_decimalPlus_1 : decode cX1_decimalPlus 1 = .ok (.bipush 15, 2) := by decide +kernel
theorem dX1_decimalPlus_3 : decode cX1_decimalPlus 3 = .ok (.iand, 1) := by decide +kernel
theorem dX1_decimalPlus_4 : decode cX1_decimalPlus 4 = .ok (.iload_n 2, 1) := by decide +kernel
theorem dX1_decimalPlus_5 : decode cX1_decimalPlus 5 = .ok (.bipush 15, 2) := by decide +kernel
theorem dX1_decimalPlus_7 : decode cX1_decimalPlus 7 = .ok (.iand, 1) := by decide +kernel
theorem dX1_decimalPlus_8 : decode cX1_decimalPlus 8 = .ok (.iadd, 1) := by decide +kernel
theorem dX1_decimalPlus_9 : decode cX1_decimalPlus 9 = .ok (.aload_n 0, 1) := by decide +kernel
theorem dX1_decimalPlus_10 : decode cX1_decimalPlus 10 = .ok (.invokevirtual 60, 3) := by decide +kernel
theorem dX1_decimalPlus_13 : decode cX1_decimalPlus 13 = .ok (.iadd, 1) := by decide +kernel
theorem dX1_decimalPlus_14 : decode cX1_decimalPlus 14 = .ok (.istore_n 3, 1) := by decide +kernel
theorem dX1_decimalPlus_15 : decode cX1_decimalPlus 15 = .ok (.iload_n 3, 1) := by decide +kernel
theorem dX1_decimalPlus_16 : decode cX1_decimalPlus 16 = .ok (.bipush 9, 2) := by decide +kernel
theorem dX1_decimalPlus_18 : decode cX1_decimalPlus 18 = .ok (.if_icmp .le 6, 3) := by decide +kernel
theorem dX1_decimalPlus_21 : decode cX1_decimalPlus 21 = .ok (.iinc 3 6, 3) := by decide +kernel
theorem dX1_decimalPlus_24 : decode cX1_decimalPlus 24 = .ok (.iload_n 3, 1) := by decide +kernel
theorem dX1_decimalPlus_25 : decode cX1_decimalPlus 25 = .ok (.iload_n 1, 1) := by decide +kernel
theorem dX1_decimalPlus_26 : decode cX1_decimalPlus 26 = .ok (.sipush 240, 3) := by decide +kernel
theorem dX1_decimalPlus_29 : decode cX1_decimalPlus 29 = .ok (.iand, 1) := by decide +kernel
theorem dX1_decimalPlus_30 : decode cX1_decimalPlus 30 = .ok (.iload_n 2, 1) := by decide +kernel
theorem dX1_decimalPlus_31 : decode cX1_decimalPlus 31 = .ok (.sipush 240, 3) := by decide +kernel
theorem dX1_decimalPlus_34 : decode cX1_decimalPlus 34 = .ok (.iand, 1) := by decide +kernel
theorem dX1_decimalPlus_35 : decode cX1_decimalPlus 35 = .ok (.iadd, 1) := by decide +kernel
theorem dX1_decimalPlus_36 : decode cX1_decimalPlus 36 = .ok (.iadd, 1) := by decide +kernel
theorem dX1_decimalPlus_37 : decode cX1_decimalPlus 37 = .ok (.istore_n 3, 1) := by decide +kernel
theorem dX1_decimalPlus_38 : decode cX1_decimalPlus 38 = .ok (.iload_n 3, 1) := by decide +kernel
theorem dX1_decimalPlus_39 : decode cX1_decimalPlus 39 = .ok (.sipush 159, 3) := by decide +kernel
theorem dX1_decimalPlus_42 : decode cX1_decimalPlus 42 = .ok (.if_icmp .le 7, 3) := by decide +kernel
theorem dX1_decimalPlus_45 : decode cX1_decimalPlus 45 = .ok (.iconst 1, 1) := by decide +kernel
theorem dX1_decimalPlus_46 : decode cX1_decimalPlus 46 = .ok (.goto 4, 3) := by decide +kernel
theorem dX1_decimalPlus_49 : decode cX1_decimalPlus 49 = .ok (.iconst 0, 1) := by decide +kernel
theorem dX1_decimalPlus_50 : decode cX1_decimalPlus 50 = .ok (.istore 4, 2) := by decide +kernel
theorem dX1_decimalPlus_52 : decode cX1_decimalPlus 52 = .ok (.aload_n 0, 1) := by decide +kernel
theorem dX1_decimalPlus_53 : decode cX1_decimalPlus 53 = .ok (.iload 4, 2) := by decide +kernel
theorem dX1_decimalPlus_55 : decode cX1_decimalPlus 55 = .ok (.ifCond .eq 10, 3) := by decide +kernel
theorem dX1_decimalPlus_58 : decode cX1_decimalPlus 58 = .ok (.iload_n 3, 1) := by decide +kernel
theorem dX1_decimalPlus_59 : decode cX1_decimalPlus 59 = .ok (.bipush 96, 2) := by decide +kernel
theorem dX1_decimalPlus_61 : decode cX1_decimalPlus 61 = .ok (.iadd, 1) := by decide +kernel
theorem dX1_decimalPlus_62 : decode cX1_decimalPlus 62 = .ok (.goto 4, 3) := by decide +kernel
theorem dX1_decimalPlus_65 : decode cX1_decimalPlus 65 = .ok (.iload_n 3, 1) := by decide +kernel
theorem dX1_decimalPlus_66 : decode cX1_decimalPlus 66 = .ok (.iload 4, 2) := by decide +kernel
theorem dX1_decimalPlus_68 : decode cX1_decimalPlus 68 = .ok (.invokevirtual 64, 3) := by decide +kernel
theorem dX1_decimalPlus_71 : decode cX1_decimalPlus 71 = .ok (.ireturn, 1) := by decide +kernel
theorem dX1_decimalMinus_0 : decode cX1_decimalMinus 0 = .ok (.iload_n 1, 1) := by decide +kernel
theorem dX1_decimalMinus_1 : decode cX1_decimalMinus 1 = .ok (.bipush 15, 2) := by decide +kernel
theorem dX1_decimalMinus_3 : decode cX1_decimalMinus 3 = .ok (.iand, 1) := by decide +kernel
theorem dX1_decimalMinus_4 : decode cX1_decimalMinus 4 = .ok (.iload_n 2, 1) := by decide +kernel
theorem dX1_decimalMinus_5 : decode cX1_decimalMinus 5 = .ok (.bipush 15, 2) := by decide +kernel
theorem dX1_decimalMinus_7 : decode cX1_decimalMinus 7 = .ok (.iand, 1) := by decide +kernel
theorem dX1_decimalMinus_8 : decode cX1_decimalMinus 8 = .ok (.isub, 1) := by decide +kernel
theorem dX1_decimalMinus_9 : decode cX1_decimalMinus 9 = .ok (.aload_n 0, 1) := by decide +kernel
theorem dX1_decimalMinus_10 : decode cX1_decimalMinus 10 = .ok (.invokevirtual 60, 3) := by decide +kernel
theorem dX1_decimalMinus_13 : decode cX1_decimalMinus 13 = .ok (.isub, 1) := by decide +kernel
theorem dX1_decimalMinus_14 : decode cX1_decimalMinus 14 = .ok (.istore_n 3, 1) := by decide +kernel
theorem dX1_decimalMinus_15 : decode cX1_decimalMinus 15 = .ok (.iload_n 3, 1) := by decide +kernel
theorem dX1_decimalMinus_16 : decode cX1_decimalMinus 16 = .ok (.ifCond .ge 6, 3) := by decide +kernel
theorem dX1_decimalMinus_19 : decode cX1_decimalMinus 19 = .ok (.iinc 3 (-6), 3) := by decide +kernel
theorem dX1_decimalMinus_22 : decode cX1_decimalMinus 22 = .ok (.iload_n 3, 1) := by decide +kernel
theorem dX1_decimalMinus_23 : decode cX1_decimalMinus 23 = .ok (.iload_n 1, 1) := by decide +kernel
theorem dX1_decimalMinus_24 : decode cX1_decimalMinus 24 = .ok (.sipush 240, 3) := by decide +kernel
theorem dX1_decimalMinus_27 : decode cX1_decimalMinus 27 = .ok (.iand, 1) := by decide +kernel
theorem dX1_decimalMinus_28 : decode cX1_decimalMinus 28 = .ok (.iload_n 2, 1) := by decide +kernel
theorem dX1_decimalMinus_29 : decode cX1_decimalMinus 29 = .ok (.sipush 240, 3) := by decide +kernel
theorem dX1_decimalMinus_32 : decode cX1_decimalMinus 32 = .ok (.iand, 1) := by decide +kernel
theorem dX1_decimalMinus_33 : decode cX1_decimalMinus 33 = .ok (.isub, 1) := by decide +kernel
theorem dX1_decimalMinus_34 : decode cX1_decimalMinus 34 = .ok (.iadd, 1) := by decide +kernel
theorem dX1_decimalMinus_35 : decode cX1_decimalMinus 35 = .ok (.istore_n 3, 1) := by decide +kernel
theorem dX1_decimalMinus_36 : decode cX1_decimalMinus 36 = .ok (.iload_n 3, 1) := by decide +kernel
theorem dX1_decimalMinus_37 : decode cX1_decimalMinus 37 = .ok (.ifCond .ge 7, 3) := by decide +kernel
theorem dX1_decimalMinus_40 : decode cX1_decimalMinus 40 = .ok (.iconst 1, 1) := by decide +kernel
theorem dX1_decimalMinus_41 : decode cX1_decimalMinus 41 = .ok (.goto 4, 3) := by decide +kernel
theorem dX1_decimalMinus_44 : decode cX1_decimalMinus 44 = .ok (.iconst 0, 1) := by decide +kernel
theorem dX1_decimalMinus_45 : decode cX1_decimalMinus 45 = .ok (.istore 4, 2) := by decide +kernel
theorem dX1_decimalMinus_47 : decode cX1_decimalMinus 47 = .ok (.aload_n 0, 1) := by decide +kernel
theorem dX1_decimalMinus_48 : decode cX1_decimalMinus 48 = .ok (.iload 4, 2) := by decide +kernel
theorem dX1_decimalMinus_50 : decode cX1_decimalMinus 50 = .ok (.ifCond .eq 10, 3) := by decide +kernel
theorem dX1_decimalMinus_53 : decode cX1_decimalMinus 53 = .ok (.iload_n 3, 1) := by decide +kernel
theorem dX1_decimalMinus_54 : decode cX1_decimalMinus 54 = .ok (.bipush 96, 2) := by decide +kernel
theorem dX1_decimalMinus_56 : decode cX1_decimalMinus 56 = .ok (.isub, 1) := by decide +kernel
theorem dX1_decimalMinus_57 : decode cX1_decimalMinus 57 = .ok (.goto 4, 3) := by decide +kernel
theorem dX1_decimalMinus_60 : decode cX1_decimalMinus 60 = .ok (.iload_n 3, 1) := by decide +kernel
theorem dX1_decimalMinus_61 : decode cX1_decimalMinus 61 = .ok (.iload 4, 2) := by decide +kernel
theorem dX1_decimalMinus_63 : decode cX1_decimalMinus 63 = .ok (.invokevirtual 64, 3) := by decide +kernel
theorem dX1_decimalMinus_66 : decode cX1_decimalMinus 66 = .ok (.ireturn, 1) := by decide +kernel
theorem dX1_decimal_0 : decode cX1_decimal 0 = .ok (.iload_n 1, 1) := by decide +kernel
theorem dX1_decimal_1 : decode cX1_decimal 1 = .ok (.sipush 255, 3) := by decide +kernel
theorem dX1_decimal_4 : decode cX1_decimal 4 = .ok (.iand, 1) := by decide +kernel
theorem dX1_decimal_5 : decode cX1_decimal 5 = .ok (.istore_n 3, 1) := by decide +kernel
theorem dX1_decimal_6 : decode cX1_decimal 6 = .ok (.aload_n 0, 1) := by decide +kernel
theorem dX1_decimal_7 : decode cX1_decimal 7 = .ok (.getfield 9, 3) := by decide +kernel
theorem dX1_decimal_10 : decode cX1_decimal 10 = .ok (.iconst 1, 1) := by decide +kernel
theorem dX1_decimal_11 : decode cX1_decimal 11 = .ok (.iload_n 2, 1) := by decide +kernel
theorem dX1_decimal_12 : decode cX1_decimal 12 = .ok (.invokevirtual 41, 3) := by decide +kernel
theorem dX1_decimal_15 : decode cX1_decimal 15 = .ok (.aload_n 0, 1) := by decide +kernel
theorem dX1_decimal_16 : decode cX1_decimal 16 = .ok (.getfield 9, 3) := by decide +kernel
theorem dX1_decimal_19 : decode cX1_decimal 19 = .ok (.bipush 16, 2) := by decide +kernel
theorem dX1_decimal_21 : decode cX1_decimal 21 = .ok (.iload_n 2, 1) := by decide +kernel
theorem dX1_decimal_22 : decode cX1_decimal 22 = .ok (.invokevirtual 41, 3) := by decide +kernel
theorem dX1_decimal_25 : decode cX1_decimal 25 = .ok (.iload_n 3, 1) := by decide +kernel
theorem dX1_decimal_26 : decode cX1_decimal 26 = .ok (.ifCond .eq 12, 3) := by decide +kernel
theorem dX1_decimal_29 : decode cX1_decimal 29 = .ok (.aload_n 0, 1) := by decide +kernel
theorem dX1_decimal_30 : decode cX1_decimal 30 = .ok (.getfield 9, 3) := by decide +kernel
theorem dX1_decimal_33 : decode cX1_decimal 33 = .ok (.iconst 4, 1) := by decide +kernel
theorem dX1_decimal_34 : decode cX1_decimal 34 = .ok (.iconst 0, 1) := by decide +kernel
theorem dX1_decimal_35 : decode cX1_decimal 35 = .ok (.invokevirtual 41, 3) := by decide +kernel
theorem dX1_decimal_38 : decode cX1_decimal 38 = .ok (.iload_n 3, 1) := by decide +kernel
theorem dX1_decimal_39 : decode cX1_decimal 39 = .ok (.ireturn, 1) := by decide +kernel
theorem dX1_shifted_0 : decode cX1_shifted 0 = .ok (.iload_n 2, 1) := by decide +kernel
theorem dX1_shifted_1 : decode cX1_shifted 1 = .ok (.aload_n 1, 1) := by decide +kernel
theorem dX1_shifted_2 : decode cX1_shifted 2 = .ok (.getfield 21, 3) := by decide +kernel
theorem dX1_shifted_5 : decode cX1_shifted 5 = .ok (.iand, 1) := by decide +kernel
theorem dX1_shifted_6 : decode cX1_shifted 6 = .ok (.istore 6, 2) := by decide +kernel
theorem dX1_shifted_8 : decode cX1_shifted 8 = .ok (.aload_n 0, 1) := by decide +kernel
theorem dX1_shifted_9 : decode cX1_shifted 9 = .ok (.getfield 9, 3) := by decide +kernel
theorem dX1_shifted_12 : decode cX1_shifted 12 = .ok (.bipush 16, 2) := by decide +kernel
theorem dX1_shifted_14 : decode cX1_shifted 14 = .ok (.invokevirtual 37, 3) := by decide +kernel
theorem dX1_shifted_17 : decode cX1_shifted 17 = .ok (.istore 7, 2) := by decide +kernel
theorem dX1_shifted_19 : decode cX1_shifted 19 = .ok (.iload 4, 2) := by decide +kernel
theorem dX1_shifted_21 : decode cX1_shifted 21 = .ok (.iconst 2, 1) := by decide +kernel
theorem dX1_shifted_22 : decode cX1_shifted 22 = .ok (.if_icmp .ne 12, 3) := by decide +kernel
theorem dX1_shifted_25 : decode cX1_shifted 25 = .ok (.iload 7, 2) := by decide +kernel
theorem dX1_shifted_27 : decode cX1_shifted 27 = .ok (.ifCond .eq 7, 3) := by decide +kernel
theorem dX1_shifted_30 : decode cX1_shifted 30 = .ok (.iconst 1, 1) := by decide +kernel
theorem dX1_shifted_31 : decode cX1_shifted 31 = .ok (.goto 4, 3) := by decide +kernel
theorem dX1_shifted_34 : decode cX1_shifted 34 = .ok (.iconst 0, 1) := by decide +kernel
theorem dX1_shifted_35 : decode cX1_shifted 35 = .ok (.istore 8, 2) := by decide +kernel
theorem dX1_shifted_37 : decode cX1_shifted 37 = .ok (.iconst 0, 1) := by decide +kernel
theorem dX1_shifted_38 : decode cX1_shifted 38 = .ok (.istore 9, 2) := by decide +kernel
theorem dX1_shifted_40 : decode cX1_shifted 40 = .ok (.iconst 0, 1) := by decide +kernel
theorem dX1_shifted_41 : decode cX1_shifted 41 = .ok (.istore 10, 2) := by decide +kernel
theorem dX1_shifted_43 : decode cX1_shifted 43 = .ok (.iload 10, 2) := by decide +kernel
theorem dX1_shifted_45 : decode cX1_shifted 45 = .ok (.iload_n 3, 1) := by decide +kernel
theorem dX1_shifted_46 : decode cX1_shifted 46 = .ok (.if_icmp .ge 156, 3) := by decide +kernel
theorem dX1_shifted_49 : decode cX1_shifted 49 = .ok (.iload 6, 2) := by decide +kernel
theorem dX1_shifted_51 : decode cX1_shifted 51 = .ok (.iload 5, 2) := by decide +kernel
theorem dX1_shifted_53 : decode cX1_shifted 53 = .ok (.ifCond .eq 10, 3) := by decide +kernel
theorem dX1_shifted_56 : decode cX1_shifted 56 = .ok (.aload_n 1, 1) := by decide +kernel
theorem dX1_shifted_57 : decode cX1_shifted 57 = .ok (.getfield 15, 3) := by decide +kernel
theorem dX1_shifted_60 : decode cX1_shifted 60 = .ok (.goto 4, 3) := by decide +kernel
theorem dX1_shifted_63 : decode cX1_shifted 63 = .ok (.iconst 1, 1) := by decide +kernel
theorem dX1_shifted_64 : decode cX1_shifted 64 = .ok (.iand, 1) := by decide +kernel
theorem dX1_shifted_65 : decode cX1_shifted 65 = .ok (.ifCond .eq 7, 3) := by decide +kernel
theorem dX1_shifted_68 : decode cX1_shifted 68 = .ok (.iconst 1, 1) := by decide +kernel
theorem dX1_shifted_69 : decode cX1_shifted 69 = .ok (.goto 4, 3) := by decide +kernel
theorem dX1_shifted_72 : decode cX1_shifted 72 = .ok (.iconst 0, 1) := by decide +kernel
theorem dX1_shifted_73 : decode cX1_shifted 73 = .ok (.istore 8, 2) := by decide +kernel
theorem dX1_shifted_75 : decode cX1_shifted 75 = .ok (.iload 4, 2) := by decide +kernel
theorem dX1_shifted_77 : decode cX1_shifted 77 = .ok (.iload 8, 2) := by decide +kernel
theorem dX1_shifted_79 : decode cX1_shifted 79 = .ok (.iload 7, 2) := by decide +kernel
theorem dX1_shifted_81 : decode cX1_shifted 81 = .ok (.iload 5, 2) := by decide +kernel
theorem dX1_shifted_83 : decode cX1_shifted 83 = .ok (.ifCond .ne 17, 3) := by decide +kernel
theorem dX1_shifted_86 : decode cX1_shifted 86 = .ok (.iload 6, 2) := by decide +kernel
theorem dX1_shifted_88 : decode cX1_shifted 88 = .ok (.aload_n 1, 1) := by decide +kernel
theorem dX1_shifted_89 : decode cX1_shifted 89 = .ok (.getfield 15, 3) := by decide +kernel
theorem dX1_shifted_92 : decode cX1_shifted 92 = .ok (.iand, 1) := by decide +kernel
theorem dX1_shifted_93 : decode cX1_shifted 93 = .ok (.ifCond .eq 7, 3) := by decide +kernel
theorem dX1_shifted_96 : decode cX1_shifted 96 = .ok (.iconst 1, 1) := by decide +kernel
theorem dX1_shifted_97 : decode cX1_shifted 97 = .ok (.goto 4, 3) := by decide +kernel
theorem dX1_shifted_100 : decode cX1_shifted 100 = .ok (.iconst 0, 1) := by decide +kernel
theorem dX1_shifted_101 : decode cX1_shifted 101 = .ok (.invokestatic 68, 3) := by decide +kernel
theorem dX1_shifted_104 : decode cX1_shifted 104 = .ok (.istore 11, 2) := by decide +kernel
theorem dX1_shifted_106 : decode cX1_shifted 106 = .ok (.iload 6, 2) := by decide +kernel
theorem dX1_shifted_108 : decode cX1_shifted 108 = .ok (.istore 12, 2) := by decide +kernel
theorem dX1_shifted_110 : decode cX1_shifted 110 = .ok (.iload 5, 2) := by decide +kernel
theorem dX1_shifted_112 : decode cX1_shifted 112 = .ok (.ifCond .eq 26, 3) := by decide +kernel
theorem dX1_shifted_115 : decode cX1_shifted 115 = .ok (.iload 6, 2) := by decide +kernel
theorem dX1_shifted_117 : decode cX1_shifted 117 = .ok (.iconst 1, 1) := by decide +kernel
theorem dX1_shifted_118 : decode cX1_shifted 118 = .ok (.ishl, 1) := by decide +kernel
theorem dX1_shifted_119 : decode cX1_shifted 119 = .ok (.aload_n 1, 1) := by decide +kernel
theorem dX1_shifted_120 : decode cX1_shifted 120 = .ok (.getfield 21, 3) := by decide +kernel
theorem dX1_shifted_123 : decode cX1_shifted 123 = .ok (.iand, 1) := by decide +kernel
theorem dX1_shifted_124 : decode cX1_shifted 124 = .ok (.iload 11, 2) := by decide +kernel
theorem dX1_shifted_126 : decode cX1_shifted 126 = .ok (.ifCond .eq 7, 3) := by decide +kernel
theorem dX1_shifted_129 : decode cX1_shifted 129 = .ok (.iconst 1, 1) := by decide +kernel
theorem dX1_shifted_130 : decode cX1_shifted 130 = .ok (.goto 4, 3) := by decide +kernel
theorem dX1_shifted_133 : decode cX1_shifted 133 = .ok (.iconst 0, 1) := by decide +kernel
theorem dX1_shifted_134 : decode cX1_shifted 134 = .ok (.ior, 1) := by decide +kernel
theorem dX1_shifted_135 : decode cX1_shifted 135 = .ok (.goto 21, 3) := by decide +kernel
theorem dX1_shifted_138 : decode cX1_shifted 138 = .ok (.iload 6, 2) := by decide +kernel
theorem dX1_shifted_140 : decode cX1_shifted 140 = .ok (.iconst 1, 1) := by decide +kernel
theorem dX1_shifted_141 : decode cX1_shifted 141 = .ok (.iushr, 1) := by decide +kernel
theorem dX1_shifted_142 : decode cX1_shifted 142 = .ok (.iload 11, 2) := by decide +kernel
theorem dX1_shifted_144 : decode cX1_shifted 144 = .ok (.ifCond .eq 10, 3) := by decide +kernel
theorem dX1_shifted_147 : decode cX1_shifted 147 = .ok (.aload_n 1, 1) := by decide +kernel
theorem dX1_shifted_148 : decode cX1_shifted 148 = .ok (.getfield 15, 3) := by decide +kernel
theorem dX1_shifted_151 : decode cX1_shifted 151 = .ok (.goto 4, 3) := by decide +kernel
theorem dX1_shifted_154 : decode cX1_shifted 154 = .ok (.iconst 0, 1) := by decide +kernel
theorem dX1_shifted_155 : decode cX1_shifted 155 = .ok (.ior, 1) := by decide +kernel
theorem dX1_shifted_156 : decode cX1_shifted 156 = .ok (.istore 6, 2) := by decide +kernel
theorem dX1_shifted_158 : decode cX1_shifted 158 = .ok (.iload 9, 2) := by decide +kernel
theorem dX1_shifted_160 : decode cX1_shifted 160 = .ok (.iload 12, 2) := by decide +kernel
theorem dX1_shifted_162 : decode cX1_shifted 162 = .ok (.iload 6, 2) := by decide +kernel
theorem dX1_shifted_164 : decode cX1_shifted 164 = .ok (.ixor, 1) := by decide +kernel
theorem dX1_shifted_165 : decode cX1_shifted 165 = .ok (.aload_n 1, 1) := by decide +kernel
theorem dX1_shifted_166 : decode cX1_shifted 166 = .ok (.getfield 15, 3) := by decide +kernel
theorem dX1_shifted_169 : decode cX1_shifted 169 = .ok (.iand, 1) := by decide +kernel
theorem dX1_shifted_170 : decode cX1_shifted 170 = .ok (.ifCond .eq 7, 3) := by decide +kernel
theorem dX1_shifted_173 : decode cX1_shifted 173 = .ok (.iconst 1, 1) := by decide +kernel
theorem dX1_shifted_174 : decode cX1_shifted 174 = .ok (.goto 4, 3) := by decide +kernel
theorem dX1_shifted_177 : decode cX1_shifted 177 = .ok (.iconst 0, 1) := by decide +kernel
theorem dX1_shifted_178 : decode cX1_shifted 178 = .ok (.ior, 1) := by decide +kernel
theorem dX1_shifted_179 : decode cX1_shifted 179 = .ok (.istore 9, 2) := by decide +kernel
theorem dX1_shifted_181 : decode cX1_shifted 181 = .ok (.iload 4, 2) := by decide +kernel
theorem dX1_shifted_183 : decode cX1_shifted 183 = .ok (.iconst 3, 1) := by decide +kernel
theorem dX1_shifted_184 : decode cX1_shifted 184 = .ok (.if_icmp .ne 8, 3) := by decide +kernel
theorem dX1_shifted_187 : decode cX1_shifted 187 = .ok (.iload 7, 2) := by decide +kernel
theorem dX1_shifted_189 : decode cX1_shifted 189 = .ok (.goto 5, 3) := by decide +kernel
theorem dX1_shifted_192 : decode cX1_shifted 192 = .ok (.iload 8, 2) := by decide +kernel
theorem dX1_shifted_194 : decode cX1_shifted 194 = .ok (.istore 7, 2) := by decide +kernel
theorem dX1_shifted_196 : decode cX1_shifted 196 = .ok (.iinc 10 1, 3) := by decide +kernel
theorem dX1_shifted_199 : decode cX1_shifted 199 = .ok (.goto (-156), 3) := by decide +kernel
theorem dX1_shifted_202 : decode cX1_shifted 202 = .ok (.aload_n 0, 1) := by decide +kernel
theorem dX1_shifted_203 : decode cX1_shifted 203 = .ok (.aload_n 1, 1) := by decide +kernel
theorem dX1_shifted_204 : decode cX1_shifted 204 = .ok (.iload 6, 2) := by decide +kernel
theorem dX1_shifted_206 : decode cX1_shifted 206 = .ok (.iload 4, 2) := by decide +kernel
theorem dX1_shifted_208 : decode cX1_shifted 208 = .ok (.ifCond .ne 17, 3) := by decide +kernel
theorem dX1_shifted_211 : decode cX1_shifted 211 = .ok (.iload 5, 2) := by decide +kernel
theorem dX1_shifted_213 : decode cX1_shifted 213 = .ok (.ifCond .eq 12, 3) := by decide +kernel
theorem dX1_shifted_216 : decode cX1_shifted 216 = .ok (.iload 9, 2) := by decide +kernel
theorem dX1_shifted_218 : decode cX1_shifted 218 = .ok (.ifCond .eq 7, 3) := by decide +kernel
theorem dX1_shifted_221 : decode cX1_shifted 221 = .ok (.iconst 1, 1) := by decide +kernel
theorem dX1_shifted_222 : decode cX1_shifted 222 = .ok (.goto 4, 3) := by decide +kernel
theorem dX1_shifted_225 : decode cX1_shifted 225 = .ok (.iconst 0, 1) := by decide +kernel
theorem dX1_shifted_226 : decode cX1_shifted 226 = .ok (.iload 8, 2) := by decide +kernel
theorem dX1_shifted_228 : decode cX1_shifted 228 = .ok (.invokevirtual 29, 3) := by decide +kernel
theorem dX1_shifted_231 : decode cX1_shifted 231 = .ok (.aload_n 0, 1) := by decide +kernel
theorem dX1_shifted_232 : decode cX1_shifted 232 = .ok (.getfield 9, 3) := by decide +kernel
theorem dX1_shifted_235 : decode cX1_shifted 235 = .ok (.bipush 16, 2) := by decide +kernel
theorem dX1_shifted_237 : decode cX1_shifted 237 = .ok (.iload 7, 2) := by decide +kernel
theorem dX1_shifted_239 : decode cX1_shifted 239 = .ok (.invokevirtual 41, 3) := by decide +kernel
theorem dX1_shifted_242 : decode cX1_shifted 242 = .ok (.iload 6, 2) := by decide +kernel
theorem dX1_shifted_244 : decode cX1_shifted 244 = .ok (.ireturn, 1) := by decide +kernel
theorem dX1_comingIn_0 : decode cX1_comingIn 0 = .ok (.iload_n 0, 1) := by decide +kernel
theorem dX1_comingIn_1 : decode cX1_comingIn 1 = .ok (.tableswitch 33 0 2 #[27, 29, 31], 27) := by decide +kernel
theorem dX1_comingIn_28 : decode cX1_comingIn 28 = .ok (.iload_n 3, 1) := by decide +kernel
theorem dX1_comingIn_29 : decode cX1_comingIn 29 = .ok (.ireturn, 1) := by decide +kernel
theorem dX1_comingIn_30 : decode cX1_comingIn 30 = .ok (.iconst 0, 1) := by decide +kernel
theorem dX1_comingIn_31 : decode cX1_comingIn 31 = .ok (.ireturn, 1) := by decide +kernel
theorem dX1_comingIn_32 : decode cX1_comingIn 32 = .ok (.iload_n 2, 1) := by decide +kernel
theorem dX1_comingIn_33 : decode cX1_comingIn 33 = .ok (.ireturn, 1) := by decide +kernel
theorem dX1_comingIn_34 : decode cX1_comingIn 34 = .ok (.iload_n 1, 1) := by decide +kernel
theorem dX1_comingIn_35 : decode cX1_comingIn 35 = .ok (.ireturn, 1) := by decide +kernel
theorem dX2_init_0 : decode cX2_init 0 = .ok (.aload_n 0, 1) := by decide +kernel
theorem dX2_init_1 : decode cX2_init 1 = .ok (.invokespecial 3, 3) := by decide +kernel
theorem dX2_init_4 : decode cX2_init 4 = .ok (.aload_n 0, 1) := by decide +kernel
theorem dX2_init_5 : decode cX2_init 5 = .ok (.aload_n 1, 1) := by decide +kernel
theorem dX2_init_6 : decode cX2_init 6 = .ok (.putfield 9, 3) := by decide +kernel
theorem dX2_init_9 : decode cX2_init 9 = .ok (.aload_n 0, 1) := by decide +kernel
theorem dX2_init_10 : decode cX2_init 10 = .ok (.aload_n 2, 1) := by decide +kernel
theorem dX2_init_11 : decode cX2_init 11 = .ok (.putfield 15, 3) := by decide +kernel
theorem dX2_init_14 : decode cX2_init 14 = .ok (.aload_n 0, 1) := by decide +kernel
theorem dX2_init_15 : decode cX2_init 15 = .ok (.new 19, 3) := by decide +kernel
theorem dX2_init_18 : decode cX2_init 18 = .ok (.dup, 1) := by decide +kernel
theorem dX2_init_19 : decode cX2_init 19 = .ok (.aload_n 1, 1) := by decide +kernel
theorem dX2_init_20 : decode cX2_init 20 = .ok (.invokespecial 21, 3) := by decide +kernel
theorem dX2_init_23 : decode cX2_init 23 = .ok (.putfield 24, 3) := by decide +kernel
theorem dX2_init_26 : decode cX2_init 26 = .ok (.aload_n 0, 1) := by decide +kernel
theorem dX2_init_27 : decode cX2_init 27 = .ok (.iconst 0, 1) := by decide +kernel
theorem dX2_init_28 : decode cX2_init 28 = .ok (.putfield 28, 3) := by decide +kernel
theorem dX2_init_31 : decode cX2_init 31 = .ok (.return_, 1) := by decide +kernel
theorem dX2_stops_0 : decode cX2_stops 0 = .ok (.aload_n 0, 1) := by decide +kernel
theorem dX2_stops_1 : decode cX2_stops 1 = .ok (.getfield 28, 3) := by decide +kernel
theorem dX2_stops_4 : decode cX2_stops 4 = .ok (.ireturn, 1) := by decide +kernel
theorem dX2_obey_0 : decode cX2_obey 0 = .ok (.aload_n 0, 1) := by decide +kernel
theorem dX2_obey_1 : decode cX2_obey 1 = .ok (.iconst 0, 1) := by decide +kernel
theorem dX2_obey_2 : decode cX2_obey 2 = .ok (.putfield 28, 3) := by decide +kernel
theorem dX2_obey_5 : decode cX2_obey 5 = .ok (.iload_n 1, 1) := by decide +kernel
theorem dX2_obey_6 : decode cX2_obey 6 = .ok (.bipush 12, 2) := by decide +kernel
theorem dX2_obey_8 : decode cX2_obey 8 = .ok (.iushr, 1) := by decide +kernel
theorem dX2_obey_9 : decode cX2_obey 9 = .ok (.tableswitch 210 0 14 #[75, 83, 94, 105, 116, 124, 132, 140, 148, 156, 165, 177, 185, 193, 202], 75) := by decide +kernel
theorem dX2_obey_84 : decode cX2_obey 84 = .ok (.aload_n 0, 1) := by decide +kernel
theorem dX2_obey_85 : decode cX2_obey 85 = .ok (.iload_n 1, 1) := by decide +kernel
theorem dX2_obey_86 : decode cX2_obey 86 = .ok (.invokevirtual 32, 3) := by decide +kernel
theorem dX2_obey_89 : decode cX2_obey 89 = .ok (.goto 139, 3) := by decide +kernel
theorem dX2_obey_92 : decode cX2_obey 92 = .ok (.aload_n 0, 1) := by decide +kernel
theorem dX2_obey_93 : decode cX2_obey 93 = .ok (.iload_n 1, 1) := by decide +kernel
theorem dX2_obey_94 : decode cX2_obey 94 = .ok (.getstatic 36, 3) := by decide +kernel
theorem dX2_obey_97 : decode cX2_obey 97 = .ok (.invokevirtual 42, 3) := by decide +kernel
theorem dX2_obey_100 : decode cX2_obey 100 = .ok (.goto 128, 3) := by decide +kernel
theorem dX2_obey_103 : decode cX2_obey 103 = .ok (.aload_n 0, 1) := by decide +kernel
theorem dX2_obey_104 : decode cX2_obey 104 = .ok (.iload_n 1, 1) := by decide +kernel
theorem dX2_obey_105 : decode cX2_obey 105 = .ok (.getstatic 46, 3) := by decide +kernel
theorem dX2_obey_108 : decode cX2_obey 108 = .ok (.invokevirtual 42, 3) := by decide +kernel
theorem dX2_obey_111 : decode cX2_obey 111 = .ok (.goto 117, 3) := by decide +kernel
theorem dX2_obey_114 : decode cX2_obey 114 = .ok (.aload_n 0, 1) := by decide +kernel
theorem dX2_obey_115 : decode cX2_obey 115 = .ok (.iload_n 1, 1) := by decide +kernel
theorem dX2_obey_116 : decode cX2_obey 116 = .ok (.getstatic 49, 3) := by decide +kernel
theorem dX2_obey_119 : decode cX2_obey 119 = .ok (.invokevirtual 42, 3) := by decide +kernel
theorem dX2_obey_122 : decode cX2_obey 122 = .ok (.goto 106, 3) := by decide +kernel
theorem dX2_obey_125 : decode cX2_obey 125 = .ok (.aload_n 0, 1) := by decide +kernel
theorem dX2_obey_126 : decode cX2_obey 126 = .ok (.iload_n 1, 1) := by decide +kernel
theorem dX2_obey_127 : decode cX2_obey 127 = .ok (.invokevirtual 52, 3) := by decide +kernel
theorem dX2_obey_130 : decode cX2_obey 130 = .ok (.goto 98, 3) := by decide +kernel
theorem dX2_obey_133 : decode cX2_obey 133 = .ok (.aload_n 0, 1) := by decide +kernel
theorem dX2_obey_134 : decode cX2_obey 134 = .ok (.iload_n 1, 1) := by decide +kernel
theorem dX2_obey_135 : decode cX2_obey 135 = .ok (.invokevirtual 55, 3) := by decide +kernel
theorem dX2_obey_138 : decode cX2_obey 138 = .ok (.goto 90, 3) := by decide +kernel
theorem dX2_obey_141 : decode cX2_obey 141 = .ok (.aload_n 0, 1) := by decide +kernel
theorem dX2_obey_142 : decode cX2_obey 142 = .ok (.iload_n 1, 1) := by decide +kernel
theorem dX2_obey_143 : decode cX2_obey 143 = .ok (.invokevirtual 58, 3) := by decide +kernel
theorem dX2_obey_146 : decode cX2_obey 146 = .ok (.goto 82, 3) := by decide +kernel
theorem dX2_obey_149 : decode cX2_obey 149 = .ok (.aload_n 0, 1) := by decide +kernel
theorem dX2_obey_150 : decode cX2_obey 150 = .ok (.iload_n 1, 1) := by decide +kernel
theorem dX2_obey_151 : decode cX2_obey 151 = .ok (.invokevirtual 61, 3) := by decide +kernel
theorem dX2_obey_154 : decode cX2_obey 154 = .ok (.goto 74, 3) := by decide +kernel
theorem dX2_obey_157 : decode cX2_obey 157 = .ok (.aload_n 0, 1) := by decide +kernel
theorem dX2_obey_158 : decode cX2_obey 158 = .ok (.iload_n 1, 1) := by decide +kernel
theorem dX2_obey_159 : decode cX2_obey 159 = .ok (.invokevirtual 64, 3) := by decide +kernel
theorem dX2_obey_162 : decode cX2_obey 162 = .ok (.goto 66, 3) := by decide +kernel
theorem dX2_obey_165 : decode cX2_obey 165 = .ok (.aload_n 0, 1) := by decide +kernel
theorem dX2_obey_166 : decode cX2_obey 166 = .ok (.iload_n 1, 1) := by decide +kernel
theorem dX2_obey_167 : decode cX2_obey 167 = .ok (.iconst 2, 1) := by decide +kernel
theorem dX2_obey_168 : decode cX2_obey 168 = .ok (.invokevirtual 67, 3) := by decide +kernel
theorem dX2_obey_171 : decode cX2_obey 171 = .ok (.goto 57, 3) := by decide +kernel
theorem dX2_obey_174 : decode cX2_obey 174 = .ok (.aload_n 0, 1) := by decide +kernel
theorem dX2_obey_175 : decode cX2_obey 175 = .ok (.getfield 15, 3) := by decide +kernel
theorem dX2_obey_178 : decode cX2_obey 178 = .ok (.bipush 10, 2) := by decide +kernel
theorem dX2_obey_180 : decode cX2_obey 180 = .ok (.invokevirtual 71, 3) := by decide +kernel
theorem dX2_obey_183 : decode cX2_obey 183 = .ok (.goto 45, 3) := by decide +kernel
theorem dX2_obey_186 : decode cX2_obey 186 = .ok (.aload_n 0, 1) := by decide +kernel
theorem dX2_obey_187 : decode cX2_obey 187 = .ok (.iload_n 1, 1) := by decide +kernel
theorem dX2_obey_188 : decode cX2_obey 188 = .ok (.invokevirtual 76, 3) := by decide +kernel
theorem dX2_obey_191 : decode cX2_obey 191 = .ok (.goto 37, 3) := by decide +kernel
theorem dX2_obey_194 : decode cX2_obey 194 = .ok (.aload_n 0, 1) := by decide +kernel
theorem dX2_obey_195 : decode cX2_obey 195 = .ok (.iload_n 1, 1) := by decide +kernel
theorem dX2_obey_196 : decode cX2_obey 196 = .ok (.invokevirtual 79, 3) := by decide +kernel
theorem dX2_obey_199 : decode cX2_obey 199 = .ok (.goto 29, 3) := by decide +kernel
theorem dX2_obey_202 : decode cX2_obey 202 = .ok (.aload_n 0, 1) := by decide +kernel
theorem dX2_obey_203 : decode cX2_obey 203 = .ok (.iload_n 1, 1) := by decide +kernel
theorem dX2_obey_204 : decode cX2_obey 204 = .ok (.iconst 3, 1) := by decide +kernel
theorem dX2_obey_205 : decode cX2_obey 205 = .ok (.invokevirtual 67, 3) := by decide +kernel
theorem dX2_obey_208 : decode cX2_obey 208 = .ok (.goto 20, 3) := by decide +kernel
theorem dX2_obey_211 : decode cX2_obey 211 = .ok (.aload_n 0, 1) := by decide +kernel
theorem dX2_obey_212 : decode cX2_obey 212 = .ok (.iload_n 1, 1) := by decide +kernel
theorem dX2_obey_213 : decode cX2_obey 213 = .ok (.invokevirtual 82, 3) := by decide +kernel
theorem dX2_obey_216 : decode cX2_obey 216 = .ok (.goto 12, 3) := by decide +kernel
theorem dX2_obey_219 : decode cX2_obey 219 = .ok (.aload_n 0, 1) := by decide +kernel
theorem dX2_obey_220 : decode cX2_obey 220 = .ok (.getfield 15, 3) := by decide +kernel
theorem dX2_obey_223 : decode cX2_obey 223 = .ok (.bipush 11, 2) := by decide +kernel
theorem dX2_obey_225 : decode cX2_obey 225 = .ok (.invokevirtual 71, 3) := by decide +kernel
theorem dX2_obey_228 : decode cX2_obey 228 = .ok (.return_, 1) := by decide +kernel
theorem dX2_upper_0 : decode cX2_upper 0 = .ok (.iload_n 0, 1) := by decide +kernel
theorem dX2_upper_1 : decode cX2_upper 1 = .ok (.bipush 9, 2) := by decide +kernel
theorem dX2_upper_3 : decode cX2_upper 3 = .ok (.iushr, 1) := by decide +kernel
theorem dX2_upper_4 : decode cX2_upper 4 = .ok (.bipush 7, 2) := by decide +kernel
theorem dX2_upper_6 : decode cX2_upper 6 = .ok (.iand, 1) := by decide +kernel
theorem dX2_upper_7 : decode cX2_upper 7 = .ok (.ireturn, 1) := by decide +kernel
theorem dX2_lower_0 : decode cX2_lower 0 = .ok (.iload_n 0, 1) := by decide +kernel
theorem dX2_lower_1 : decode cX2_lower 1 = .ok (.bipush 7, 2) := by decide +kernel
theorem dX2_lower_3 : decode cX2_lower 3 = .ok (.iand, 1) := by decide +kernel
theorem dX2_lower_4 : decode cX2_lower 4 = .ok (.ireturn, 1) := by decide +kernel
theorem dX2_operand_0 : decode cX2_operand 0 = .ok (.iload_n 0, 1) := by decide +kernel
theorem dX2_operand_1 : decode cX2_operand 1 = .ok (.bipush 63, 2) := by decide +kernel
theorem dX2_operand_3 : decode cX2_operand 3 = .ok (.iand, 1) := by decide +kernel
theorem dX2_operand_4 : decode cX2_operand 4 = .ok (.ireturn, 1) := by decide +kernel
theorem dX2_sizeBits_0 : decode cX2_sizeBits 0 = .ok (.iload_n 0, 1) := by decide +kernel
theorem dX2_sizeBits_1 : decode cX2_sizeBits 1 = .ok (.bipush 6, 2) := by decide +kernel
theorem dX2_sizeBits_3 : decode cX2_sizeBits 3 = .ok (.iushr, 1) := by decide +kernel
theorem dX2_sizeBits_4 : decode cX2_sizeBits 4 = .ok (.iconst 3, 1) := by decide +kernel
theorem dX2_sizeBits_5 : decode cX2_sizeBits 5 = .ok (.iand, 1) := by decide +kernel
theorem dX2_sizeBits_6 : decode cX2_sizeBits 6 = .ok (.ireturn, 1) := by decide +kernel
theorem dX2_isTo_0 : decode cX2_isTo 0 = .ok (.iload_n 0, 1) := by decide +kernel
theorem dX2_isTo_1 : decode cX2_isTo 1 = .ok (.sipush 256, 3) := by decide +kernel
theorem dX2_isTo_4 : decode cX2_isTo 4 = .ok (.iand, 1) := by decide +kernel
theorem dX2_isTo_5 : decode cX2_isTo 5 = .ok (.ifCond .eq 7, 3) := by decide +kernel
theorem dX2_isTo_8 : decode cX2_isTo 8 = .ok (.iconst 1, 1) := by decide +kernel
theorem dX2_isTo_9 : decode cX2_isTo 9 = .ok (.goto 4, 3) := by decide +kernel
theorem dX2_isTo_12 : decode cX2_isTo 12 = .ok (.iconst 0, 1) := by decide +kernel
theorem dX2_isTo_13 : decode cX2_isTo 13 = .ok (.ireturn, 1) := by decide +kernel
theorem dX2_illegal_0 : decode cX2_illegal 0 = .ok (.aload_n 0, 1) := by decide +kernel
theorem dX2_illegal_1 : decode cX2_illegal 1 = .ok (.getfield 15, 3) := by decide +kernel
theorem dX2_illegal_4 : decode cX2_illegal 4 = .ok (.iconst 4, 1) := by decide +kernel
theorem dX2_illegal_5 : decode cX2_illegal 5 = .ok (.invokevirtual 71, 3) := by decide +kernel
theorem dX2_illegal_8 : decode cX2_illegal 8 = .ok (.return_, 1) := by decide +kernel
theorem dX2_misfits_0 : decode cX2_misfits 0 = .ok (.iload_n 1, 1) := by decide +kernel
theorem dX2_misfits_1 : decode cX2_misfits 1 = .ok (.iload_n 2, 1) := by decide +kernel
theorem dX2_misfits_2 : decode cX2_misfits 2 = .ok (.invokestatic 85, 3) := by decide +kernel
theorem dX2_misfits_5 : decode cX2_misfits 5 = .ok (.iushr, 1) := by decide +kernel
theorem dX2_misfits_6 : decode cX2_misfits 6 = .ok (.iconst 1, 1) := by decide +kernel
theorem dX2_misfits_7 : decode cX2_misfits 7 = .ok (.iand, 1) := by decide +kernel
theorem dX2_misfits_8 : decode cX2_misfits 8 = .ok (.ifCond .eq 5, 3) := by decide +kernel
theorem dX2_misfits_11 : decode cX2_misfits 11 = .ok (.iconst 0, 1) := by decide +kernel
theorem dX2_misfits_12 : decode cX2_misfits 12 = .ok (.ireturn, 1) := by decide +kernel
theorem dX2_misfits_13 : decode cX2_misfits 13 = .ok (.aload_n 0, 1) := by decide +kernel
theorem dX2_misfits_14 : decode cX2_misfits 14 = .ok (.getfield 15, 3) := by decide +kernel
theorem dX2_misfits_17 : decode cX2_misfits 17 = .ok (.iconst 4, 1) := by decide +kernel
theorem dX2_misfits_18 : decode cX2_misfits 18 = .ok (.invokevirtual 71, 3) := by decide +kernel
theorem dX2_misfits_21 : decode cX2_misfits 21 = .ok (.iconst 1, 1) := by decide +kernel
theorem dX2_misfits_22 : decode cX2_misfits 22 = .ok (.ireturn, 1) := by decide +kernel
theorem dX2_ofSize_0 : decode cX2_ofSize 0 = .ok (.aload_n 1, 1) := by decide +kernel
theorem dX2_ofSize_1 : decode cX2_ofSize 1 = .ok (.getstatic 36, 3) := by decide +kernel
theorem dX2_ofSize_4 : decode cX2_ofSize 4 = .ok (.if_acmp .ne 11, 3) := by decide +kernel
theorem dX2_ofSize_7 : decode cX2_ofSize 7 = .ok (.iload_n 0, 1) := by decide +kernel
theorem dX2_ofSize_8 : decode cX2_ofSize 8 = .ok (.sipush 4093, 3) := by decide +kernel
theorem dX2_ofSize_11 : decode cX2_ofSize 11 = .ok (.iand, 1) := by decide +kernel
theorem dX2_ofSize_12 : decode cX2_ofSize 12 = .ok (.goto 4, 3) := by decide +kernel
theorem dX2_ofSize_15 : decode cX2_ofSize 15 = .ok (.iload_n 0, 1) := by decide +kernel
theorem dX2_ofSize_16 : decode cX2_ofSize 16 = .ok (.ireturn, 1) := by decide +kernel
theorem dX2_permitted_0 : decode cX2_permitted 0 = .ok (.aload_n 0, 1) := by decide +kernel
theorem dX2_permitted_1 : decode cX2_permitted 1 = .ok (.getfield 9, 3) := by decide +kernel
theorem dX2_permitted_4 : decode cX2_permitted 4 = .ok (.sipush 8192, 3) := by decide +kernel
theorem dX2_permitted_7 : decode cX2_permitted 7 = .ok (.invokevirtual 89, 3) := by decide +kernel
theorem dX2_permitted_10 : decode cX2_permitted 10 = .ok (.ifCond .eq 5, 3) := by decide +kernel
theorem dX2_permitted_13 : decode cX2_permitted 13 = .ok (.iconst 1, 1) := by decide +kernel
theorem dX2_permitted_14 : decode cX2_permitted 14 = .ok (.ireturn, 1) := by decide +kernel
theorem dX2_permitted_15 : decode cX2_permitted 15 = .ok (.aload_n 0, 1) := by decide +kernel
theorem dX2_permitted_16 : decode cX2_permitted 16 = .ok (.getfield 15, 3) := by decide +kernel
theorem dX2_permitted_19 : decode cX2_permitted 19 = .ok (.bipush 8, 2) := by decide +kernel
theorem dX2_permitted_21 : decode cX2_permitted 21 = .ok (.invokevirtual 71, 3) := by decide +kernel
theorem dX2_permitted_24 : decode cX2_permitted 24 = .ok (.iconst 0, 1) := by decide +kernel
theorem dX2_permitted_25 : decode cX2_permitted 25 = .ok (.ireturn, 1) := by decide +kernel
theorem dX2_lineZero_0 : decode cX2_lineZero 0 = .ok (.iload_n 1, 1) := by decide +kernel
theorem dX2_lineZero_1 : decode cX2_lineZero 1 = .ok (.invokestatic 95, 3) := by decide +kernel
theorem dX2_lineZero_4 : decode cX2_lineZero 4 = .ok (.bipush 60, 2) := by decide +kernel
theorem dX2_lineZero_6 : decode cX2_lineZero 6 = .ok (.if_icmp .ne 15, 3) := by decide +kernel
theorem dX2_lineZero_9 : decode cX2_lineZero 9 = .ok (.iload_n 1, 1) := by decide +kernel
theorem dX2_lineZero_10 : decode cX2_lineZero 10 = .ok (.invokestatic 98, 3) := by decide +kernel
theorem dX2_lineZero_13 : decode cX2_lineZero 13 = .ok (.iconst 2, 1) := by decide +kernel
theorem dX2_lineZero_14 : decode cX2_lineZero 14 = .ok (.if_icmp .ge 7, 3) := by decide +kernel
theorem dX2_lineZero_17 : decode cX2_lineZero 17 = .ok (.iconst 1, 1) := by decide +kernel
theorem dX2_lineZero_18 : decode cX2_lineZero 18 = .ok (.goto 4, 3) := by decide +kernel
theorem dX2_lineZero_21 : decode cX2_lineZero 21 = .ok (.iconst 0, 1) := by decide +kernel
theorem dX2_lineZero_22 : decode cX2_lineZero 22 = .ok (.istore_n 2, 1) := by decide +kernel
theorem dX2_lineZero_23 : decode cX2_lineZero 23 = .ok (.iload_n 1, 1) := by decide +kernel
theorem dX2_lineZero_24 : decode cX2_lineZero 24 = .ok (.invokestatic 101, 3) := by decide +kernel
theorem dX2_lineZero_27 : decode cX2_lineZero 27 = .ok (.istore_n 3, 1) := by decide +kernel
theorem dX2_lineZero_28 : decode cX2_lineZero 28 = .ok (.iload_n 1, 1) := by decide +kernel
theorem dX2_lineZero_29 : decode cX2_lineZero 29 = .ok (.sipush 312, 3) := by decide +kernel
theorem dX2_lineZero_32 : decode cX2_lineZero 32 = .ok (.iand, 1) := by decide +kernel
theorem dX2_lineZero_33 : decode cX2_lineZero 33 = .ok (.sipush 264, 3) := by decide +kernel
theorem dX2_lineZero_36 : decode cX2_lineZero 36 = .ok (.if_icmp .ne 11, 3) := by decide +kernel
theorem dX2_lineZero_39 : decode cX2_lineZero 39 = .ok (.aload_n 0, 1) := by decide +kernel
theorem dX2_lineZero_40 : decode cX2_lineZero 40 = .ok (.iload_n 1, 1) := by decide +kernel
theorem dX2_lineZero_41 : decode cX2_lineZero 41 = .ok (.invokevirtual 104, 3) := by decide +kernel
theorem dX2_lineZero_44 : decode cX2_lineZero 44 = .ok (.goto 109, 3) := by decide +kernel
theorem dX2_lineZero_47 : decode cX2_lineZero 47 = .ok (.iload_n 1, 1) := by decide +kernel
theorem dX2_lineZero_48 : decode cX2_lineZero 48 = .ok (.invokestatic 107, 3) := by decide +kernel
theorem dX2_lineZero_51 : decode cX2_lineZero 51 = .ok (.ifCond .eq 28, 3) := by decide +kernel
theorem dX2_lineZero_54 : decode cX2_lineZero 54 = .ok (.aload_n 0, 1) := by decide +kernel
theorem dX2_lineZero_55 : decode cX2_lineZero 55 = .ok (.iload_n 1, 1) := by decide +kernel
theorem dX2_lineZero_56 : decode cX2_lineZero 56 = .ok (.iload_n 1, 1) := by decide +kernel
theorem dX2_lineZero_57 : decode cX2_lineZero 57 = .ok (.invokestatic 98, 3) := by decide +kernel
theorem dX2_lineZero_60 : decode cX2_lineZero 60 = .ok (.ifCond .ne 9, 3) := by decide +kernel
theorem dX2_lineZero_63 : decode cX2_lineZero 63 = .ok (.sipush 4093, 3) := by decide +kernel
theorem dX2_lineZero_66 : decode cX2_lineZero 66 = .ok (.goto 6, 3) := by decide +kernel
theorem dX2_lineZero_69 : decode cX2_lineZero 69 = .ok (.sipush 509, 3) := by decide +kernel
theorem dX2_lineZero_72 : decode cX2_lineZero 72 = .ok (.iconst 0, 1) := by decide +kernel
theorem dX2_lineZero_73 : decode cX2_lineZero 73 = .ok (.invokevirtual 110, 3) := by decide +kernel
theorem dX2_lineZero_76 : decode cX2_lineZero 76 = .ok (.goto 77, 3) := by decide +kernel
theorem dX2_lineZero_79 : decode cX2_lineZero 79 = .ok (.iload_n 3, 1) := by decide +kernel
theorem dX2_lineZero_80 : decode cX2_lineZero 80 = .ok (.iconst 4, 1) := by decide +kernel
theorem dX2_lineZero_81 : decode cX2_lineZero 81 = .ok (.if_icmp .ne 28, 3) := by decide +kernel
theorem dX2_lineZero_84 : decode cX2_lineZero 84 = .ok (.aload_n 0, 1) := by decide +kernel
theorem dX2_lineZero_85 : decode cX2_lineZero 85 = .ok (.iload_n 1, 1) := by decide +kernel
theorem dX2_lineZero_86 : decode cX2_lineZero 86 = .ok (.iload_n 1, 1) := by decide +kernel
theorem dX2_lineZero_87 : decode cX2_lineZero 87 = .ok (.invokestatic 98, 3) := by decide +kernel
theorem dX2_lineZero_90 : decode cX2_lineZero 90 = .ok (.ifCond .ne 9, 3) := by decide +kernel
theorem dX2_lineZero_93 : decode cX2_lineZero 93 = .ok (.sipush 2045, 3) := by decide +kernel
theorem dX2_lineZero_96 : decode cX2_lineZero 96 = .ok (.goto 6, 3) := by decide +kernel
theorem dX2_lineZero_99 : decode cX2_lineZero 99 = .ok (.sipush 509, 3) := by decide +kernel
theorem dX2_lineZero_102 : decode cX2_lineZero 102 = .ok (.iconst 1, 1) := by decide +kernel
theorem dX2_lineZero_103 : decode cX2_lineZero 103 = .ok (.invokevirtual 110, 3) := by decide +kernel
theorem dX2_lineZero_106 : decode cX2_lineZero 106 = .ok (.goto 47, 3) := by decide +kernel
theorem dX2_lineZero_109 : decode cX2_lineZero 109 = .ok (.iload_n 2, 1) := by decide +kernel
theorem dX2_lineZero_110 : decode cX2_lineZero 110 = .ok (.ifCond .eq 38, 3) := by decide +kernel
theorem dX2_lineZero_113 : decode cX2_lineZero 113 = .ok (.iload_n 3, 1) := by decide +kernel
theorem dX2_lineZero_114 : decode cX2_lineZero 114 = .ok (.ifCond .eq 13, 3) := by decide +kernel
theorem dX2_lineZero_117 : decode cX2_lineZero 117 = .ok (.iload_n 3, 1) := by decide +kernel
theorem dX2_lineZero_118 : decode cX2_lineZero 118 = .ok (.iconst 1, 1) := by decide +kernel
theorem dX2_lineZero_119 : decode cX2_lineZero 119 = .ok (.if_icmp .eq 8, 3) := by decide +kernel
theorem dX2_lineZero_122 : decode cX2_lineZero 122 = .ok (.iload_n 3, 1) := by decide +kernel
theorem dX2_lineZero_123 : decode cX2_lineZero 123 = .ok (.iconst 5, 1) := by decide +kernel
theorem dX2_lineZero_124 : decode cX2_lineZero 124 = .ok (.if_icmp .ne 24, 3) := by decide +kernel
theorem dX2_lineZero_127 : decode cX2_lineZero 127 = .ok (.aload_n 0, 1) := by decide +kernel
theorem dX2_lineZero_128 : decode cX2_lineZero 128 = .ok (.iload_n 3, 1) := by decide +kernel
theorem dX2_lineZero_129 : decode cX2_lineZero 129 = .ok (.iload_n 1, 1) := by decide +kernel
theorem dX2_lineZero_130 : decode cX2_lineZero 130 = .ok (.invokestatic 98, 3) := by decide +kernel
theorem dX2_lineZero_133 : decode cX2_lineZero 133 = .ok (.iconst 1, 1) := by decide +kernel
theorem dX2_lineZero_134 : decode cX2_lineZero 134 = .ok (.if_icmp .ne 7, 3) := by decide +kernel
theorem dX2_lineZero_137 : decode cX2_lineZero 137 = .ok (.iconst 1, 1) := by decide +kernel
theorem dX2_lineZero_138 : decode cX2_lineZero 138 = .ok (.goto 4, 3) := by decide +kernel
theorem dX2_lineZero_141 : decode cX2_lineZero 141 = .ok (.iconst 0, 1) := by decide +kernel
theorem dX2_lineZero_142 : decode cX2_lineZero 142 = .ok (.invokevirtual 114, 3) := by decide +kernel
theorem dX2_lineZero_145 : decode cX2_lineZero 145 = .ok (.goto 8, 3) := by decide +kernel
theorem dX2_lineZero_148 : decode cX2_lineZero 148 = .ok (.aload_n 0, 1) := by decide +kernel
theorem dX2_lineZero_149 : decode cX2_lineZero 149 = .ok (.iload_n 1, 1) := by decide +kernel
theorem dX2_lineZero_150 : decode cX2_lineZero 150 = .ok (.invokevirtual 118, 3) := by decide +kernel
theorem dX2_lineZero_153 : decode cX2_lineZero 153 = .ok (.return_, 1) := by decide +kernel
theorem dX2_movePeripheral_0 : decode cX2_movePeripheral 0 = .ok (.aload_n 0, 1) := by decide +kernel
theorem dX2_movePeripheral_1 : decode cX2_movePeripheral 1 = .ok (.getfield 9, 3) := by decide +kernel
theorem dX2_movePeripheral_4 : decode cX2_movePeripheral 4 = .ok (.bipush 8, 2) := by decide +kernel
theorem dX2_movePeripheral_6 : decode cX2_movePeripheral 6 = .ok (.iload_n 1, 1) := by decide +kernel
theorem dX2_movePeripheral_7 : decode cX2_movePeripheral 7 = .ok (.invokestatic 121, 3) := by decide +kernel
theorem dX2_movePeripheral_10 : decode cX2_movePeripheral 10 = .ok (.iadd, 1) := by decide +kernel
theorem dX2_movePeripheral_11 : decode cX2_movePeripheral 11 = .ok (.invokevirtual 124, 3) := by decide +kernel
theorem dX2_movePeripheral_14 : decode cX2_movePeripheral 14 = .ok (.aload_n 0, 1) := by decide +kernel
theorem dX2_movePeripheral_15 : decode cX2_movePeripheral 15 = .ok (.getfield 15, 3) := by decide +kernel
theorem dX2_movePeripheral_18 : decode cX2_movePeripheral 18 = .ok (.invokevirtual 127, 3) := by decide +kernel
theorem dX2_movePeripheral_21 : decode cX2_movePeripheral 21 = .ok (.i2s, 1) := by decide +kernel
theorem dX2_movePeripheral_22 : decode cX2_movePeripheral 22 = .ok (.iadd, 1) := by decide +kernel
theorem dX2_movePeripheral_23 : decode cX2_movePeripheral 23 = .ok (.istore_n 2, 1) := by decide +kernel
theorem dX2_movePeripheral_24 : decode cX2_movePeripheral 24 = .ok (.iload_n 1, 1) := by decide +kernel
theorem dX2_movePeripheral_25 : decode cX2_movePeripheral 25 = .ok (.invokestatic 101, 3) := by decide +kernel
theorem dX2_movePeripheral_28 : decode cX2_movePeripheral 28 = .ok (.istore_n 3, 1) := by decide +kernel
theorem dX2_movePeripheral_29 : decode cX2_movePeripheral 29 = .ok (.iload_n 1, 1) := by decide +kernel
theorem dX2_movePeripheral_30 : decode cX2_movePeripheral 30 = .ok (.bipush 64, 2) := by decide +kernel
theorem dX2_movePeripheral_32 : decode cX2_movePeripheral 32 = .ok (.iand, 1) := by decide +kernel
theorem dX2_movePeripheral_33 : decode cX2_movePeripheral 33 = .ok (.ifCond .ne 9, 3) := by decide +kernel
theorem dX2_movePeripheral_36 : decode cX2_movePeripheral 36 = .ok (.getstatic 49, 3) := by decide +kernel
theorem dX2_movePeripheral_39 : decode cX2_movePeripheral 39 = .ok (.goto 6, 3) := by decide +kernel
theorem dX2_movePeripheral_42 : decode cX2_movePeripheral 42 = .ok (.getstatic 46, 3) := by decide +kernel
theorem dX2_movePeripheral_45 : decode cX2_movePeripheral 45 = .ok (.astore 4, 2) := by decide +kernel
theorem dX2_movePeripheral_47 : decode cX2_movePeripheral 47 = .ok (.aload_n 0, 1) := by decide +kernel
theorem dX2_movePeripheral_48 : decode cX2_movePeripheral 48 = .ok (.getfield 9, 3) := by decide +kernel
theorem dX2_movePeripheral_51 : decode cX2_movePeripheral 51 = .ok (.iload_n 3, 1) := by decide +kernel
theorem dX2_movePeripheral_52 : decode cX2_movePeripheral 52 = .ok (.invokevirtual 124, 3) := by decide +kernel
theorem dX2_movePeripheral_55 : decode cX2_movePeripheral 55 = .ok (.istore 5, 2) := by decide +kernel
theorem dX2_movePeripheral_57 : decode cX2_movePeripheral 57 = .ok (.iconst 0, 1) := by decide +kernel
theorem dX2_movePeripheral_58 : decode cX2_movePeripheral 58 = .ok (.istore 6, 2) := by decide +kernel
theorem dX2_movePeripheral_60 : decode cX2_movePeripheral 60 = .ok (.iload 6, 2) := by decide +kernel
theorem dX2_movePeripheral_62 : decode cX2_movePeripheral 62 = .ok (.aload 4, 2) := by decide +kernel
theorem dX2_movePeripheral_64 : decode cX2_movePeripheral 64 = .ok (.getfield 131, 3) := by decide +kernel
theorem dX2_movePeripheral_67 : decode cX2_movePeripheral 67 = .ok (.if_icmp .ge 89, 3) := by decide +kernel
theorem dX2_movePeripheral_70 : decode cX2_movePeripheral 70 = .ok (.bipush 8, 2) := by decide +kernel
theorem dX2_movePeripheral_72 : decode cX2_movePeripheral 72 = .ok (.aload 4, 2) := by decide +kernel
theorem dX2_movePeripheral_74 : decode cX2_movePeripheral 74 = .ok (.getfield 131, 3) := by decide +kernel
theorem dX2_movePeripheral_77 : decode cX2_movePeripheral 77 = .ok (.iconst 1, 1) := by decide +kernel
theorem dX2_movePeripheral_78 : decode cX2_movePeripheral 78 = .ok (.isub, 1) := by decide +kernel
theorem dX2_movePeripheral_79 : decode cX2_movePeripheral 79 = .ok (.iload 6, 2) := by decide +kernel
theorem dX2_movePeripheral_81 : decode cX2_movePeripheral 81 = .ok (.isub, 1) := by decide +kernel
theorem dX2_movePeripheral_82 : decode cX2_movePeripheral 82 = .ok (.imul, 1) := by decide +kernel
theorem dX2_movePeripheral_83 : decode cX2_movePeripheral 83 = .ok (.istore 7, 2) := by decide +kernel
theorem dX2_movePeripheral_85 : decode cX2_movePeripheral 85 = .ok (.iload_n 1, 1) := by decide +kernel
theorem dX2_movePeripheral_86 : decode cX2_movePeripheral 86 = .ok (.sipush 128, 3) := by decide +kernel
theorem dX2_movePeripheral_89 : decode cX2_movePeripheral 89 = .ok (.iand, 1) := by decide +kernel
theorem dX2_movePeripheral_90 : decode cX2_movePeripheral 90 = .ok (.ifCond .eq 27, 3) := by decide +kernel
theorem dX2_movePeripheral_93 : decode cX2_movePeripheral 93 = .ok (.aload_n 0, 1) := by decide +kernel
theorem dX2_movePeripheral_94 : decode cX2_movePeripheral 94 = .ok (.getfield 15, 3) := by decide +kernel
theorem dX2_movePeripheral_97 : decode cX2_movePeripheral 97 = .ok (.getstatic 36, 3) := by decide +kernel
theorem dX2_movePeripheral_100 : decode cX2_movePeripheral 100 = .ok (.iload_n 2, 1) := by decide +kernel
theorem dX2_movePeripheral_101 : decode cX2_movePeripheral 101 = .ok (.iconst 2, 1) := by decide +kernel
theorem dX2_movePeripheral_102 : decode cX2_movePeripheral 102 = .ok (.iload 6, 2) := by decide +kernel
theorem dX2_movePeripheral_104 : decode cX2_movePeripheral 104 = .ok (.imul, 1) := by decide +kernel
theorem dX2_movePeripheral_105 : decode cX2_movePeripheral 105 = .ok (.iadd, 1) := by decide +kernel
theorem dX2_movePeripheral_106 : decode cX2_movePeripheral 106 = .ok (.iload 5, 2) := by decide +kernel
theorem dX2_movePeripheral_108 : decode cX2_movePeripheral 108 = .ok (.iload 7, 2) := by decide +kernel
theorem dX2_movePeripheral_110 : decode cX2_movePeripheral 110 = .ok (.iushr, 1) := by decide +kernel
theorem dX2_movePeripheral_111 : decode cX2_movePeripheral 111 = .ok (.invokevirtual 135, 3) := by decide +kernel
theorem dX2_movePeripheral_114 : decode cX2_movePeripheral 114 = .ok (.goto 36, 3) := by decide +kernel
theorem dX2_movePeripheral_117 : decode cX2_movePeripheral 117 = .ok (.iload 5, 2) := by decide +kernel
theorem dX2_movePeripheral_119 : decode cX2_movePeripheral 119 = .ok (.sipush 255, 3) := by decide +kernel
theorem dX2_movePeripheral_122 : decode cX2_movePeripheral 122 = .ok (.iload 7, 2) := by decide +kernel
theorem dX2_movePeripheral_124 : decode cX2_movePeripheral 124 = .ok (.ishl, 1) := by decide +kernel
theorem dX2_movePeripheral_125 : decode cX2_movePeripheral 125 = .ok (.iconst (-1), 1) := by decide +kernel
theorem dX2_movePeripheral_126 : decode cX2_movePeripheral 126 = .ok (.ixor, 1) := by decide +kernel
theorem dX2_movePeripheral_127 : decode cX2_movePeripheral 127 = .ok (.iand, 1) := by decide +kernel
theorem dX2_movePeripheral_128 : decode cX2_movePeripheral 128 = .ok (.aload_n 0, 1) := by decide +kernel
theorem dX2_movePeripheral_129 : decode cX2_movePeripheral 129 = .ok (.getfield 15, 3) := by decide +kernel
theorem dX2_movePeripheral_132 : decode cX2_movePeripheral 132 = .ok (.getstatic 36, 3) := by decide +kernel
theorem dX2_movePeripheral_135 : decode cX2_movePeripheral 135 = .ok (.iload_n 2, 1) := by decide +kernel
theorem dX2_movePeripheral_136 : decode cX2_movePeripheral 136 = .ok (.iconst 2, 1) := by decide +kernel
theorem dX2_movePeripheral_137 : decode cX2_movePeripheral 137 = .ok (.iload 6, 2) := by decide +kernel
theorem dX2_movePeripheral_139 : decode cX2_movePeripheral 139 = .ok (.imul, 1) := by decide +kernel
theorem dX2_movePeripheral_140 : decode cX2_movePeripheral 140 = .ok (.iadd, 1) := by decide +kernel
theorem dX2_movePeripheral_141 : decode cX2_movePeripheral 141 = .ok (.invokevirtual 139, 3) := by decide +kernel
theorem dX2_movePeripheral_144 : decode cX2_movePeripheral 144 = .ok (.iload 7, 2) := by decide +kernel
theorem dX2_movePeripheral_146 : decode cX2_movePeripheral 146 = .ok (.ishl, 1) := by decide +kernel
theorem dX2_movePeripheral_147 : decode cX2_movePeripheral 147 = .ok (.ior, 1) := by decide +kernel
theorem dX2_movePeripheral_148 : decode cX2_movePeripheral 148 = .ok (.istore 5, 2) := by decide +kernel
theorem dX2_movePeripheral_150 : decode cX2_movePeripheral 150 = .ok (.iinc 6 1, 3) := by decide +kernel
theorem dX2_movePeripheral_153 : decode cX2_movePeripheral 153 = .ok (.goto (-93), 3) := by decide +kernel
theorem dX2_movePeripheral_156 : decode cX2_movePeripheral 156 = .ok (.aload_n 0, 1) := by decide +kernel
theorem dX2_movePeripheral_157 : decode cX2_movePeripheral 157 = .ok (.getfield 9, 3) := by decide +kernel
theorem dX2_movePeripheral_160 : decode cX2_movePeripheral 160 = .ok (.iload_n 3, 1) := by decide +kernel
theorem dX2_movePeripheral_161 : decode cX2_movePeripheral 161 = .ok (.iload 5, 2) := by decide +kernel
theorem dX2_movePeripheral_163 : decode cX2_movePeripheral 163 = .ok (.invokevirtual 143, 3) := by decide +kernel
theorem dX2_movePeripheral_166 : decode cX2_movePeripheral 166 = .ok (.return_, 1) := by decide +kernel
theorem dX2_bit_0 : decode cX2_bit 0 = .ok (.aload_n 0, 1) := by decide +kernel
theorem dX2_bit_1 : decode cX2_bit 1 = .ok (.iload_n 2, 1) := by decide +kernel
theorem dX2_bit_2 : decode cX2_bit 2 = .ok (.iload_n 1, 1) := by decide +kernel
theorem dX2_bit_3 : decode cX2_bit 3 = .ok (.invokestatic 95, 3) := by decide +kernel
theorem dX2_bit_6 : decode cX2_bit 6 = .ok (.invokevirtual 146, 3) := by decide +kernel
theorem dX2_bit_9 : decode cX2_bit 9 = .ok (.ifCond .eq 4, 3) := by decide +kernel
theorem dX2_bit_12 : decode cX2_bit 12 = .ok (.return_, 1) := by decide +kernel
theorem dX2_bit_13 : decode cX2_bit 13 = .ok (.iload_n 3, 1) := by decide +kernel
theorem dX2_bit_14 : decode cX2_bit 14 = .ok (.ifCond .eq 13, 3) := by decide +kernel
theorem dX2_bit_17 : decode cX2_bit 17 = .ok (.aload_n 0, 1) := by decide +kernel
theorem dX2_bit_18 : decode cX2_bit 18 = .ok (.getfield 15, 3) := by decide +kernel
theorem dX2_bit_21 : decode cX2_bit 21 = .ok (.invokevirtual 127, 3) := by decide +kernel
theorem dX2_bit_24 : decode cX2_bit 24 = .ok (.goto 14, 3) := by decide +kernel
theorem dX2_bit_27 : decode cX2_bit 27 = .ok (.aload_n 0, 1) := by decide +kernel
theorem dX2_bit_28 : decode cX2_bit 28 = .ok (.getfield 9, 3) := by decide +kernel
theorem dX2_bit_31 : decode cX2_bit 31 = .ok (.iload_n 1, 1) := by decide +kernel
theorem dX2_bit_32 : decode cX2_bit 32 = .ok (.invokestatic 101, 3) := by decide +kernel
theorem dX2_bit_35 : decode cX2_bit 35 = .ok (.invokevirtual 124, 3) := by decide +kernel
theorem dX2_bit_38 : decode cX2_bit 38 = .ok (.istore 4, 2) := by decide +kernel
theorem dX2_bit_40 : decode cX2_bit 40 = .ok (.iload_n 1, 1) := by decide +kernel
theorem dX2_bit_41 : decode cX2_bit 41 = .ok (.invokestatic 95, 3) := by decide +kernel
theorem dX2_bit_44 : decode cX2_bit 44 = .ok (.bipush 8, 2) := by decide +kernel
theorem dX2_bit_46 : decode cX2_bit 46 = .ok (.if_icmp .ge 9, 3) := by decide +kernel
theorem dX2_bit_49 : decode cX2_bit 49 = .ok (.getstatic 46, 3) := by decide +kernel
theorem dX2_bit_52 : decode cX2_bit 52 = .ok (.goto 6, 3) := by decide +kernel
theorem dX2_bit_55 : decode cX2_bit 55 = .ok (.getstatic 36, 3) := by decide +kernel
theorem dX2_bit_58 : decode cX2_bit 58 = .ok (.astore 5, 2) := by decide +kernel
theorem dX2_bit_60 : decode cX2_bit 60 = .ok (.aload_n 0, 1) := by decide +kernel
theorem dX2_bit_61 : decode cX2_bit 61 = .ok (.getfield 15, 3) := by decide +kernel
theorem dX2_bit_64 : decode cX2_bit 64 = .ok (.aload 5, 2) := by decide +kernel
theorem dX2_bit_66 : decode cX2_bit 66 = .ok (.iload_n 1, 1) := by decide +kernel
theorem dX2_bit_67 : decode cX2_bit 67 = .ok (.invokestatic 95, 3) := by decide +kernel
theorem dX2_bit_70 : decode cX2_bit 70 = .ok (.invokevirtual 150, 3) := by decide +kernel
theorem dX2_bit_73 : decode cX2_bit 73 = .ok (.lstore 6, 2) := by decide +kernel
theorem dX2_bit_75 : decode cX2_bit 75 = .ok (.aload_n 0, 1) := by decide +kernel
theorem dX2_bit_76 : decode cX2_bit 76 = .ok (.getfield 15, 3) := by decide +kernel
theorem dX2_bit_79 : decode cX2_bit 79 = .ok (.aload 5, 2) := by decide +kernel
theorem dX2_bit_81 : decode cX2_bit 81 = .ok (.lload 6, 2) := by decide +kernel
theorem dX2_bit_83 : decode cX2_bit 83 = .ok (.invokevirtual 154, 3) := by decide +kernel
theorem dX2_bit_86 : decode cX2_bit 86 = .ok (.istore 8, 2) := by decide +kernel
theorem dX2_bit_88 : decode cX2_bit 88 = .ok (.iconst 1, 1) := by decide +kernel
theorem dX2_bit_89 : decode cX2_bit 89 = .ok (.iload 4, 2) := by decide +kernel
theorem dX2_bit_91 : decode cX2_bit 91 = .ok (.bipush 8, 2) := by decide +kernel
theorem dX2_bit_93 : decode cX2_bit 93 = .ok (.aload 5, 2) := by decide +kernel
theorem dX2_bit_95 : decode cX2_bit 95 = .ok (.getfield 131, 3) := by decide +kernel
theorem dX2_bit_98 : decode cX2_bit 98 = .ok (.imul, 1) := by decide +kernel
theorem dX2_bit_99 : decode cX2_bit 99 = .ok (.iconst 1, 1) := by decide +kernel
theorem dX2_bit_100 : decode cX2_bit 100 = .ok (.isub, 1) := by decide +kernel
theorem dX2_bit_101 : decode cX2_bit 101 = .ok (.iand, 1) := by decide +kernel
theorem dX2_bit_102 : decode cX2_bit 102 = .ok (.ishl, 1) := by decide +kernel
theorem dX2_bit_103 : decode cX2_bit 103 = .ok (.istore 9, 2) := by decide +kernel
theorem dX2_bit_105 : decode cX2_bit 105 = .ok (.aload_n 0, 1) := by decide +kernel
theorem dX2_bit_106 : decode cX2_bit 106 = .ok (.getfield 9, 3) := by decide +kernel
theorem dX2_bit_109 : decode cX2_bit 109 = .ok (.iconst 4, 1) := by decide +kernel
theorem dX2_bit_110 : decode cX2_bit 110 = .ok (.iload 8, 2) := by decide +kernel
theorem dX2_bit_112 : decode cX2_bit 112 = .ok (.iload 9, 2) := by decide +kernel
theorem dX2_bit_114 : decode cX2_bit 114 = .ok (.iand, 1) := by decide +kernel
theorem dX2_bit_115 : decode cX2_bit 115 = .ok (.ifCond .ne 7, 3) := by decide +kernel
theorem dX2_bit_118 : decode cX2_bit 118 = .ok (.iconst 1, 1) := by decide +kernel
theorem dX2_bit_119 : decode cX2_bit 119 = .ok (.goto 4, 3) := by decide +kernel
theorem dX2_bit_122 : decode cX2_bit 122 = .ok (.iconst 0, 1) := by decide +kernel
theorem dX2_bit_123 : decode cX2_bit 123 = .ok (.invokevirtual 158, 3) := by decide +kernel
theorem dX2_bit_126 : decode cX2_bit 126 = .ok (.iload_n 1, 1) := by decide +kernel
theorem dX2_bit_127 : decode cX2_bit 127 = .ok (.invokestatic 98, 3) := by decide +kernel
theorem dX2_bit_130 : decode cX2_bit 130 = .ok (.tableswitch 69 0 2 #[26, 29, 48], 26) := by decide +kernel
theorem dX2_bit_156 : decode cX2_bit 156 = .ok (.goto 59, 3) := by decide +kernel
theorem dX2_bit_159 : decode cX2_bit 159 = .ok (.aload_n 0, 1) := by decide +kernel
theorem dX2_bit_160 : decode cX2_bit 160 = .ok (.getfield 15, 3) := by decide +kernel
theorem dX2_bit_163 : decode cX2_bit 163 = .ok (.aload 5, 2) := by decide +kernel
theorem dX2_bit_165 : decode cX2_bit 165 = .ok (.lload 6, 2) := by decide +kernel
theorem dX2_bit_167 : decode cX2_bit 167 = .ok (.iload 8, 2) := by decide +kernel
theorem dX2_bit_169 : decode cX2_bit 169 = .ok (.iload 9, 2) := by decide +kernel
theorem dX2_bit_171 : decode cX2_bit 171 = .ok (.ixor, 1) := by decide +kernel
theorem dX2_bit_172 : decode cX2_bit 172 = .ok (.invokevirtual 161, 3) := by decide +kernel
theorem dX2_bit_175 : decode cX2_bit 175 = .ok (.goto 40, 3) := by decide +kernel
theorem dX2_bit_178 : decode cX2_bit 178 = .ok (.aload_n 0, 1) := by decide +kernel
theorem dX2_bit_179 : decode cX2_bit 179 = .ok (.getfield 15, 3) := by decide +kernel
theorem dX2_bit_182 : decode cX2_bit 182 = .ok (.aload 5, 2) := by decide +kernel
theorem dX2_bit_184 : decode cX2_bit 184 = .ok (.lload 6, 2) := by decide +kernel
theorem dX2_bit_186 : decode cX2_bit 186 = .ok (.iload 8, 2) := by decide +kernel
theorem dX2_bit_188 : decode cX2_bit 188 = .ok (.iload 9, 2) := by decide +kernel
theorem dX2_bit_190 : decode cX2_bit 190 = .ok (.iconst (-1), 1) := by decide +kernel
theorem dX2_bit_191 : decode cX2_bit 191 = .ok (.ixor, 1) := by decide +kernel
theorem dX2_bit_192 : decode cX2_bit 192 = .ok (.iand, 1) := by decide +kernel
theorem dX2_bit_193 : decode cX2_bit 193 = .ok (.invokevirtual 161, 3) := by decide +kernel
theorem dX2_bit_196 : decode cX2_bit 196 = .ok (.goto 19, 3) := by decide +kernel
theorem dX2_bit_199 : decode cX2_bit 199 = .ok (.aload_n 0, 1) := by decide +kernel
theorem dX2_bit_200 : decode cX2_bit 200 = .ok (.getfield 15, 3) := by decide +kernel
theorem dX2_bit_203 : decode cX2_bit 203 = .ok (.aload 5, 2) := by decide +kernel
theorem dX2_bit_205 : decode cX2_bit 205 = .ok (.lload 6, 2) := by decide +kernel
theorem dX2_bit_207 : decode cX2_bit 207 = .ok (.iload 8, 2) := by decide +kernel
theorem dX2_bit_209 : decode cX2_bit 209 = .ok (.iload 9, 2) := by decide +kernel
theorem dX2_bit_211 : decode cX2_bit 211 = .ok (.ior, 1) := by decide +kernel
theorem dX2_bit_212 : decode cX2_bit 212 = .ok (.invokevirtual 161, 3) := by decide +kernel
theorem dX2_bit_215 : decode cX2_bit 215 = .ok (.return_, 1) := by decide +kernel
theorem dX2_joinStatus_0 : decode cX2_joinStatus 0 = .ok (.iload_n 2, 1) := by decide +kernel
theorem dX2_joinStatus_1 : decode cX2_joinStatus 1 = .ok (.ifCond .eq 11, 3) := by decide +kernel
theorem dX2_joinStatus_4 : decode cX2_joinStatus 4 = .ok (.aload_n 0, 1) := by decide +kernel
theorem dX2_joinStatus_5 : decode cX2_joinStatus 5 = .ok (.invokevirtual 165, 3) := by decide +kernel
theorem dX2_joinStatus_8 : decode cX2_joinStatus 8 = .ok (.ifCond .ne 4, 3) := by decide +kernel
theorem dX2_joinStatus_11 : decode cX2_joinStatus 11 = .ok (.return_, 1) := by decide +kernel
theorem dX2_joinStatus_12 : decode cX2_joinStatus 12 = .ok (.aload_n 0, 1) := by decide +kernel
theorem dX2_joinStatus_13 : decode cX2_joinStatus 13 = .ok (.getfield 15, 3) := by decide +kernel
theorem dX2_joinStatus_16 : decode cX2_joinStatus 16 = .ok (.invokevirtual 127, 3) := by decide +kernel
theorem dX2_joinStatus_19 : decode cX2_joinStatus 19 = .ok (.istore_n 3, 1) := by decide +kernel
theorem dX2_joinStatus_20 : decode cX2_joinStatus 20 = .ok (.aload_n 0, 1) := by decide +kernel
theorem dX2_joinStatus_21 : decode cX2_joinStatus 21 = .ok (.getfield 9, 3) := by decide +kernel
theorem dX2_joinStatus_24 : decode cX2_joinStatus 24 = .ok (.getfield 169, 3) := by decide +kernel
theorem dX2_joinStatus_27 : decode cX2_joinStatus 27 = .ok (.istore 4, 2) := by decide +kernel
theorem dX2_joinStatus_29 : decode cX2_joinStatus 29 = .ok (.iload_n 1, 1) := by decide +kernel
theorem dX2_joinStatus_30 : decode cX2_joinStatus 30 = .ok (.ifCond .ne 10, 3) := by decide +kernel
theorem dX2_joinStatus_33 : decode cX2_joinStatus 33 = .ok (.iload 4, 2) := by decide +kernel
theorem dX2_joinStatus_35 : decode cX2_joinStatus 35 = .ok (.iload_n 3, 1) := by decide +kernel
theorem dX2_joinStatus_36 : decode cX2_joinStatus 36 = .ok (.ior, 1) := by decide +kernel
theorem dX2_joinStatus_37 : decode cX2_joinStatus 37 = .ok (.goto 19, 3) := by decide +kernel
theorem dX2_joinStatus_40 : decode cX2_joinStatus 40 = .ok (.iload_n 1, 1) := by decide +kernel
theorem dX2_joinStatus_41 : decode cX2_joinStatus 41 = .ok (.iconst 1, 1) := by decide +kernel
theorem dX2_joinStatus_42 : decode cX2_joinStatus 42 = .ok (.if_icmp .ne 10, 3) := by decide +kernel
theorem dX2_joinStatus_45 : decode cX2_joinStatus 45 = .ok (.iload 4, 2) := by decide +kernel
theorem dX2_joinStatus_47 : decode cX2_joinStatus 47 = .ok (.iload_n 3, 1) := by decide +kernel
theorem dX2_joinStatus_48 : decode cX2_joinStatus 48 = .ok (.iand, 1) := by decide +kernel
theorem dX2_joinStatus_49 : decode cX2_joinStatus 49 = .ok (.goto 7, 3) := by decide +kernel
theorem dX2_joinStatus_52 : decode cX2_joinStatus 52 = .ok (.iload 4, 2) := by decide +kernel
theorem dX2_joinStatus_54 : decode cX2_joinStatus 54 = .ok (.iload_n 3, 1) := by decide +kernel
theorem dX2_joinStatus_55 : decode cX2_joinStatus 55 = .ok (.ixor, 1) := by decide +kernel
theorem dX2_joinStatus_56 : decode cX2_joinStatus 56 = .ok (.istore 5, 2) := by decide +kernel
theorem dX2_joinStatus_58 : decode cX2_joinStatus 58 = .ok (.iload_n 2, 1) := by decide +kernel
theorem dX2_joinStatus_59 : decode cX2_joinStatus 59 = .ok (.ifCond .eq 15, 3) := by decide +kernel
theorem dX2_joinStatus_62 : decode cX2_joinStatus 62 = .ok (.aload_n 0, 1) := by decide +kernel
theorem dX2_joinStatus_63 : decode cX2_joinStatus 63 = .ok (.getfield 9, 3) := by decide +kernel
theorem dX2_joinStatus_66 : decode cX2_joinStatus 66 = .ok (.iload 5, 2) := by decide +kernel
theorem dX2_joinStatus_68 : decode cX2_joinStatus 68 = .ok (.invokevirtual 172, 3) := by decide +kernel
theorem dX2_joinStatus_71 : decode cX2_joinStatus 71 = .ok (.goto 12, 3) := by decide +kernel
theorem dX2_joinStatus_74 : decode cX2_joinStatus 74 = .ok (.aload_n 0, 1) := by decide +kernel
theorem dX2_joinStatus_75 : decode cX2_joinStatus 75 = .ok (.getfield 9, 3) := by decide +kernel
theorem dX2_joinStatus_78 : decode cX2_joinStatus 78 = .ok (.iload 5, 2) := by decide +kernel
theorem dX2_joinStatus_80 : decode cX2_joinStatus 80 = .ok (.invokevirtual 175, 3) := by decide +kernel
theorem dX2_joinStatus_83 : decode cX2_joinStatus 83 = .ok (.return_, 1) := by decide +kernel
theorem dX2_joinImmediate_0 : decode cX2_joinImmediate 0 = .ok (.iload_n 1, 1) := by decide +kernel
theorem dX2_joinImmediate_1 : decode cX2_joinImmediate 1 = .ok (.invokestatic 101, 3) := by decide +kernel
theorem dX2_joinImmediate_4 : decode cX2_joinImmediate 4 = .ok (.istore_n 2, 1) := by decide +kernel
theorem dX2_joinImmediate_5 : decode cX2_joinImmediate 5 = .ok (.iload_n 2, 1) := by decide +kernel
theorem dX2_joinImmediate_6 : decode cX2_joinImmediate 6 = .ok (.bipush 7, 2) := by decide +kernel
theorem dX2_joinImmediate_8 : decode cX2_joinImmediate 8 = .ok (.if_icmp .eq 11, 3) := by decide +kernel
theorem dX2_joinImmediate_11 : decode cX2_joinImmediate 11 = .ok (.iload_n 1, 1) := by decide +kernel
theorem dX2_joinImmediate_12 : decode cX2_joinImmediate 12 = .ok (.invokestatic 98, 3) := by decide +kernel
theorem dX2_joinImmediate_15 : decode cX2_joinImmediate 15 = .ok (.iconst 3, 1) := by decide +kernel
theorem dX2_joinImmediate_16 : decode cX2_joinImmediate 16 = .ok (.if_icmp .ne 8, 3) := by decide +kernel
theorem dX2_joinImmediate_19 : decode cX2_joinImmediate 19 = .ok (.aload_n 0, 1) := by decide +kernel
theorem dX2_joinImmediate_20 : decode cX2_joinImmediate 20 = .ok (.invokevirtual 178, 3) := by decide +kernel
theorem dX2_joinImmediate_23 : decode cX2_joinImmediate 23 = .ok (.return_, 1) := by decide +kernel
theorem dX2_joinImmediate_24 : decode cX2_joinImmediate 24 = .ok (.aload_n 0, 1) := by decide +kernel
theorem dX2_joinImmediate_25 : decode cX2_joinImmediate 25 = .ok (.sipush 509, 3) := by decide +kernel
theorem dX2_joinImmediate_28 : decode cX2_joinImmediate 28 = .ok (.iload_n 1, 1) := by decide +kernel
theorem dX2_joinImmediate_29 : decode cX2_joinImmediate 29 = .ok (.invokestatic 95, 3) := by decide +kernel
theorem dX2_joinImmediate_32 : decode cX2_joinImmediate 32 = .ok (.invokevirtual 146, 3) := by decide +kernel
theorem dX2_joinImmediate_35 : decode cX2_joinImmediate 35 = .ok (.ifCond .eq 4, 3) := by decide +kernel
theorem dX2_joinImmediate_38 : decode cX2_joinImmediate 38 = .ok (.return_, 1) := by decide +kernel
theorem dX2_joinImmediate_39 : decode cX2_joinImmediate 39 = .ok (.iload_n 1, 1) := by decide +kernel
theorem dX2_joinImmediate_40 : decode cX2_joinImmediate 40 = .ok (.invokestatic 98, 3) := by decide +kernel
theorem dX2_joinImmediate_43 : decode cX2_joinImmediate 43 = .ok (.invokestatic 181, 3) := by decide +kernel
theorem dX2_joinImmediate_46 : decode cX2_joinImmediate 46 = .ok (.astore_n 3, 1) := by decide +kernel
theorem dX2_joinImmediate_47 : decode cX2_joinImmediate 47 = .ok (.aload_n 0, 1) := by decide +kernel
theorem dX2_joinImmediate_48 : decode cX2_joinImmediate 48 = .ok (.getfield 15, 3) := by decide +kernel
theorem dX2_joinImmediate_51 : decode cX2_joinImmediate 51 = .ok (.aload_n 3, 1) := by decide +kernel
theorem dX2_joinImmediate_52 : decode cX2_joinImmediate 52 = .ok (.invokevirtual 185, 3) := by decide +kernel
theorem dX2_joinImmediate_55 : decode cX2_joinImmediate 55 = .ok (.istore 4, 2) := by decide +kernel
theorem dX2_joinImmediate_57 : decode cX2_joinImmediate 57 = .ok (.aload_n 0, 1) := by decide +kernel
theorem dX2_joinImmediate_58 : decode cX2_joinImmediate 58 = .ok (.getfield 15, 3) := by decide +kernel
theorem dX2_joinImmediate_61 : decode cX2_joinImmediate 61 = .ok (.aload_n 3, 1) := by decide +kernel
theorem dX2_joinImmediate_62 : decode cX2_joinImmediate 62 = .ok (.iload_n 1, 1) := by decide +kernel
theorem dX2_joinImmediate_63 : decode cX2_joinImmediate 63 = .ok (.invokestatic 95, 3) := by decide +kernel
theorem dX2_joinImmediate_66 : decode cX2_joinImmediate 66 = .ok (.invokevirtual 150, 3) := by decide +kernel
theorem dX2_joinImmediate_69 : decode cX2_joinImmediate 69 = .ok (.lstore 5, 2) := by decide +kernel
theorem dX2_joinImmediate_71 : decode cX2_joinImmediate 71 = .ok (.aload_n 0, 1) := by decide +kernel
theorem dX2_joinImmediate_72 : decode cX2_joinImmediate 72 = .ok (.getfield 15, 3) := by decide +kernel
theorem dX2_joinImmediate_75 : decode cX2_joinImmediate 75 = .ok (.aload_n 3, 1) := by decide +kernel
theorem dX2_joinImmediate_76 : decode cX2_joinImmediate 76 = .ok (.lload 5, 2) := by decide +kernel
theorem dX2_joinImmediate_78 : decode cX2_joinImmediate 78 = .ok (.invokevirtual 154, 3) := by decide +kernel
theorem dX2_joinImmediate_81 : decode cX2_joinImmediate 81 = .ok (.istore 7, 2) := by decide +kernel
theorem dX2_joinImmediate_83 : decode cX2_joinImmediate 83 = .ok (.iload_n 2, 1) := by decide +kernel
theorem dX2_joinImmediate_84 : decode cX2_joinImmediate 84 = .ok (.bipush 6, 2) := by decide +kernel
theorem dX2_joinImmediate_86 : decode cX2_joinImmediate 86 = .ok (.if_icmp .ne 18, 3) := by decide +kernel
theorem dX2_joinImmediate_89 : decode cX2_joinImmediate 89 = .ok (.aload_n 0, 1) := by decide +kernel
theorem dX2_joinImmediate_90 : decode cX2_joinImmediate 90 = .ok (.getfield 24, 3) := by decide +kernel
theorem dX2_joinImmediate_93 : decode cX2_joinImmediate 93 = .ok (.aload_n 3, 1) := by decide +kernel
theorem dX2_joinImmediate_94 : decode cX2_joinImmediate 94 = .ok (.iload 7, 2) := by decide +kernel
theorem dX2_joinImmediate_96 : decode cX2_joinImmediate 96 = .ok (.iload 4, 2) := by decide +kernel
theorem dX2_joinImmediate_98 : decode cX2_joinImmediate 98 = .ok (.invokevirtual 189, 3) := by decide +kernel
theorem dX2_joinImmediate_101 : decode cX2_joinImmediate 101 = .ok (.goto 26, 3) := by decide +kernel
theorem dX2_joinImmediate_104 : decode cX2_joinImmediate 104 = .ok (.aload_n 0, 1) := by decide +kernel
theorem dX2_joinImmediate_105 : decode cX2_joinImmediate 105 = .ok (.getfield 15, 3) := by decide +kernel
theorem dX2_joinImmediate_108 : decode cX2_joinImmediate 108 = .ok (.aload_n 3, 1) := by decide +kernel
theorem dX2_joinImmediate_109 : decode cX2_joinImmediate 109 = .ok (.lload 5, 2) := by decide +kernel
theorem dX2_joinImmediate_111 : decode cX2_joinImmediate 111 = .ok (.aload_n 0, 1) := by decide +kernel
theorem dX2_joinImmediate_112 : decode cX2_joinImmediate 112 = .ok (.getfield 24, 3) := by decide +kernel
theorem dX2_joinImmediate_115 : decode cX2_joinImmediate 115 = .ok (.iload_n 2, 1) := by decide +kernel
theorem dX2_joinImmediate_116 : decode cX2_joinImmediate 116 = .ok (.aload_n 3, 1) := by decide +kernel
theorem dX2_joinImmediate_117 : decode cX2_joinImmediate 117 = .ok (.iload 7, 2) := by decide +kernel
theorem dX2_joinImmediate_119 : decode cX2_joinImmediate 119 = .ok (.iload 4, 2) := by decide +kernel
theorem dX2_joinImmediate_121 : decode cX2_joinImmediate 121 = .ok (.invokevirtual 192, 3) := by decide +kernel
theorem dX2_joinImmediate_124 : decode cX2_joinImmediate 124 = .ok (.invokevirtual 161, 3) := by decide +kernel
theorem dX2_joinImmediate_127 : decode cX2_joinImmediate 127 = .ok (.return_, 1) := by decide +kernel
theorem dX2_move_0 : decode cX2_move 0 = .ok (.iload_n 1, 1) := by decide +kernel
theorem dX2_move_1 : decode cX2_move 1 = .ok (.invokestatic 101, 3) := by decide +kernel
theorem dX2_move_4 : decode cX2_move 4 = .ok (.istore_n 3, 1) := by decide +kernel
theorem dX2_move_5 : decode cX2_move 5 = .ok (.iload_n 1, 1) := by decide +kernel
theorem dX2_move_6 : decode cX2_move 6 = .ok (.bipush 6, 2) := by decide +kernel
theorem dX2_move_8 : decode cX2_move 8 = .ok (.iushr, 1) := by decide +kernel
theorem dX2_move_9 : decode cX2_move 9 = .ok (.bipush 7, 2) := by decide +kernel
theorem dX2_move_11 : decode cX2_move 11 = .ok (.iand, 1) := by decide +kernel
theorem dX2_move_12 : decode cX2_move 12 = .ok (.iconst 3, 1) := by decide +kernel
theorem dX2_move_13 : decode cX2_move 13 = .ok (.ishl, 1) := by decide +kernel
theorem dX2_move_14 : decode cX2_move 14 = .ok (.iload_n 3, 1) := by decide +kernel
theorem dX2_move_15 : decode cX2_move 15 = .ok (.ior, 1) := by decide +kernel
theorem dX2_move_16 : decode cX2_move 16 = .ok (.istore 4, 2) := by decide +kernel
theorem dX2_move_18 : decode cX2_move 18 = .ok (.iload 4, 2) := by decide +kernel
theorem dX2_move_20 : decode cX2_move 20 = .ok (.iconst 3, 1) := by decide +kernel
theorem dX2_move_21 : decode cX2_move 21 = .ok (.iushr, 1) := by decide +kernel
theorem dX2_move_22 : decode cX2_move 22 = .ok (.iconst 1, 1) := by decide +kernel
theorem dX2_move_23 : decode cX2_move 23 = .ok (.if_icmp .ne 7, 3) := by decide +kernel
theorem dX2_move_26 : decode cX2_move 26 = .ok (.iconst 1, 1) := by decide +kernel
theorem dX2_move_27 : decode cX2_move 27 = .ok (.goto 4, 3) := by decide +kernel
theorem dX2_move_30 : decode cX2_move 30 = .ok (.iconst 0, 1) := by decide +kernel
theorem dX2_move_31 : decode cX2_move 31 = .ok (.istore 5, 2) := by decide +kernel
theorem dX2_move_33 : decode cX2_move 33 = .ok (.iload 5, 2) := by decide +kernel
theorem dX2_move_35 : decode cX2_move 35 = .ok (.ifCond .eq 13, 3) := by decide +kernel
theorem dX2_move_38 : decode cX2_move 38 = .ok (.sipush 4095, 3) := by decide +kernel
theorem dX2_move_41 : decode cX2_move 41 = .ok (.aload_n 2, 1) := by decide +kernel
theorem dX2_move_42 : decode cX2_move 42 = .ok (.invokestatic 196, 3) := by decide +kernel
theorem dX2_move_45 : decode cX2_move 45 = .ok (.goto 6, 3) := by decide +kernel
theorem dX2_move_48 : decode cX2_move 48 = .ok (.sipush 509, 3) := by decide +kernel
theorem dX2_move_51 : decode cX2_move 51 = .ok (.istore 6, 2) := by decide +kernel
theorem dX2_move_53 : decode cX2_move 53 = .ok (.aload_n 0, 1) := by decide +kernel
theorem dX2_move_54 : decode cX2_move 54 = .ok (.sipush 4095, 3) := by decide +kernel
theorem dX2_move_57 : decode cX2_move 57 = .ok (.aload_n 2, 1) := by decide +kernel
theorem dX2_move_58 : decode cX2_move 58 = .ok (.invokestatic 196, 3) := by decide +kernel
theorem dX2_move_61 : decode cX2_move 61 = .ok (.iload_n 1, 1) := by decide +kernel
theorem dX2_move_62 : decode cX2_move 62 = .ok (.invokestatic 95, 3) := by decide +kernel
theorem dX2_move_65 : decode cX2_move 65 = .ok (.invokevirtual 146, 3) := by decide +kernel
theorem dX2_move_68 : decode cX2_move 68 = .ok (.ifCond .ne 14, 3) := by decide +kernel
theorem dX2_move_71 : decode cX2_move 71 = .ok (.aload_n 0, 1) := by decide +kernel
theorem dX2_move_72 : decode cX2_move 72 = .ok (.iload 6, 2) := by decide +kernel
theorem dX2_move_74 : decode cX2_move 74 = .ok (.iload 4, 2) := by decide +kernel
theorem dX2_move_76 : decode cX2_move 76 = .ok (.invokevirtual 146, 3) := by decide +kernel
theorem dX2_move_79 : decode cX2_move 79 = .ok (.ifCond .eq 4, 3) := by decide +kernel
theorem dX2_move_82 : decode cX2_move 82 = .ok (.return_, 1) := by decide +kernel
theorem dX2_move_83 : decode cX2_move 83 = .ok (.aload_n 0, 1) := by decide +kernel
theorem dX2_move_84 : decode cX2_move 84 = .ok (.getfield 15, 3) := by decide +kernel
theorem dX2_move_87 : decode cX2_move 87 = .ok (.aload_n 2, 1) := by decide +kernel
theorem dX2_move_88 : decode cX2_move 88 = .ok (.aload_n 0, 1) := by decide +kernel
theorem dX2_move_89 : decode cX2_move 89 = .ok (.getfield 15, 3) := by decide +kernel
theorem dX2_move_92 : decode cX2_move 92 = .ok (.aload_n 2, 1) := by decide +kernel
theorem dX2_move_93 : decode cX2_move 93 = .ok (.iload_n 1, 1) := by decide +kernel
theorem dX2_move_94 : decode cX2_move 94 = .ok (.invokestatic 95, 3) := by decide +kernel
theorem dX2_move_97 : decode cX2_move 97 = .ok (.invokevirtual 150, 3) := by decide +kernel
theorem dX2_move_100 : decode cX2_move 100 = .ok (.invokevirtual 154, 3) := by decide +kernel
theorem dX2_move_103 : decode cX2_move 103 = .ok (.istore 7, 2) := by decide +kernel
theorem dX2_move_105 : decode cX2_move 105 = .ok (.iload 5, 2) := by decide +kernel
theorem dX2_move_107 : decode cX2_move 107 = .ok (.ifCond .eq 23, 3) := by decide +kernel
theorem dX2_move_110 : decode cX2_move 110 = .ok (.aload_n 0, 1) := by decide +kernel
theorem dX2_move_111 : decode cX2_move 111 = .ok (.getfield 9, 3) := by decide +kernel
theorem dX2_move_114 : decode cX2_move 114 = .ok (.bipush 8, 2) := by decide +kernel
theorem dX2_move_116 : decode cX2_move 116 = .ok (.iload_n 3, 1) := by decide +kernel
theorem dX2_move_117 : decode cX2_move 117 = .ok (.iadd, 1) := by decide +kernel
theorem dX2_move_118 : decode cX2_move 118 = .ok (.aload_n 2, 1) := by decide +kernel
theorem dX2_move_119 : decode cX2_move 119 = .ok (.iload 7, 2) := by decide +kernel
theorem dX2_move_121 : decode cX2_move 121 = .ok (.invokevirtual 200, 3) := by decide +kernel
theorem dX2_move_124 : decode cX2_move 124 = .ok (.invokevirtual 143, 3) := by decide +kernel
theorem dX2_move_127 : decode cX2_move 127 = .ok (.goto 35, 3) := by decide +kernel
theorem dX2_move_130 : decode cX2_move 130 = .ok (.aload_n 0, 1) := by decide +kernel
theorem dX2_move_131 : decode cX2_move 131 = .ok (.getfield 15, 3) := by decide +kernel
theorem dX2_move_134 : decode cX2_move 134 = .ok (.aload_n 2, 1) := by decide +kernel
theorem dX2_move_135 : decode cX2_move 135 = .ok (.iload 4, 2) := by decide +kernel
theorem dX2_move_137 : decode cX2_move 137 = .ok (.invokevirtual 150, 3) := by decide +kernel
theorem dX2_move_140 : decode cX2_move 140 = .ok (.lstore 8, 2) := by decide +kernel
theorem dX2_move_142 : decode cX2_move 142 = .ok (.aload_n 0, 1) := by decide +kernel
theorem dX2_move_143 : decode cX2_move 143 = .ok (.getfield 15, 3) := by decide +kernel
theorem dX2_move_146 : decode cX2_move 146 = .ok (.aload_n 2, 1) := by decide +kernel
theorem dX2_move_147 : decode cX2_move 147 = .ok (.lload 8, 2) := by decide +kernel
theorem dX2_move_149 : decode cX2_move 149 = .ok (.aload_n 0, 1) := by decide +kernel
theorem dX2_move_150 : decode cX2_move 150 = .ok (.getfield 24, 3) := by decide +kernel
theorem dX2_move_153 : decode cX2_move 153 = .ok (.aload_n 2, 1) := by decide +kernel
theorem dX2_move_154 : decode cX2_move 154 = .ok (.iload 7, 2) := by decide +kernel
theorem dX2_move_156 : decode cX2_move 156 = .ok (.invokevirtual 203, 3) := by decide +kernel
theorem dX2_move_159 : decode cX2_move 159 = .ok (.invokevirtual 161, 3) := by decide +kernel
theorem dX2_move_162 : decode cX2_move 162 = .ok (.return_, 1) := by decide +kernel
theorem dX2_lineFour_0 : decode cX2_lineFour 0 = .ok (.iload_n 1, 1) := by decide +kernel
theorem dX2_lineFour_1 : decode cX2_lineFour 1 = .ok (.invokestatic 107, 3) := by decide +kernel
theorem dX2_lineFour_4 : decode cX2_lineFour 4 = .ok (.ifCond .eq 11, 3) := by decide +kernel
theorem dX2_lineFour_7 : decode cX2_lineFour 7 = .ok (.iload_n 1, 1) := by decide +kernel
theorem dX2_lineFour_8 : decode cX2_lineFour 8 = .ok (.sipush 448, 3) := by decide +kernel
theorem dX2_lineFour_11 : decode cX2_lineFour 11 = .ok (.iand, 1) := by decide +kernel
theorem dX2_lineFour_12 : decode cX2_lineFour 12 = .ok (.goto 8, 3) := by decide +kernel
theorem dX2_lineFour_15 : decode cX2_lineFour 15 = .ok (.iload_n 1, 1) := by decide +kernel
theorem dX2_lineFour_16 : decode cX2_lineFour 16 = .ok (.sipush 4032, 3) := by decide +kernel
theorem dX2_lineFour_19 : decode cX2_lineFour 19 = .ok (.iand, 1) := by decide +kernel
theorem dX2_lineFour_20 : decode cX2_lineFour 20 = .ok (.lookupswitch 220 #[(192, 148), (384, 132), (448, 140), (1216, 156), (1728, 156), (2048, 164), (2112, 172), (2176, 180), (2240, 180), (2752, 188), (3200, 196), (3264, 196), (3648, 204), (3712, 212), (3776, 212)], 132) := by decide +kernel
theorem dX2_lineFour_152 : decode cX2_lineFour 152 = .ok (.aload_n 0, 1) := by decide +kernel
theorem dX2_lineFour_153 : decode cX2_lineFour 153 = .ok (.iload_n 1, 1) := by decide +kernel
theorem dX2_lineFour_154 : decode cX2_lineFour 154 = .ok (.invokevirtual 206, 3) := by decide +kernel
theorem dX2_lineFour_157 : decode cX2_lineFour 157 = .ok (.goto 88, 3) := by decide +kernel
theorem dX2_lineFour_160 : decode cX2_lineFour 160 = .ok (.aload_n 0, 1) := by decide +kernel
theorem dX2_lineFour_161 : decode cX2_lineFour 161 = .ok (.iload_n 1, 1) := by decide +kernel
theorem dX2_lineFour_162 : decode cX2_lineFour 162 = .ok (.invokevirtual 209, 3) := by decide +kernel
theorem dX2_lineFour_165 : decode cX2_lineFour 165 = .ok (.goto 80, 3) := by decide +kernel
theorem dX2_lineFour_168 : decode cX2_lineFour 168 = .ok (.aload_n 0, 1) := by decide +kernel
theorem dX2_lineFour_169 : decode cX2_lineFour 169 = .ok (.iload_n 1, 1) := by decide +kernel
theorem dX2_lineFour_170 : decode cX2_lineFour 170 = .ok (.invokevirtual 212, 3) := by decide +kernel
theorem dX2_lineFour_173 : decode cX2_lineFour 173 = .ok (.goto 72, 3) := by decide +kernel
theorem dX2_lineFour_176 : decode cX2_lineFour 176 = .ok (.aload_n 0, 1) := by decide +kernel
theorem dX2_lineFour_177 : decode cX2_lineFour 177 = .ok (.iload_n 1, 1) := by decide +kernel
theorem dX2_lineFour_178 : decode cX2_lineFour 178 = .ok (.invokevirtual 215, 3) := by decide +kernel
theorem dX2_lineFour_181 : decode cX2_lineFour 181 = .ok (.goto 64, 3) := by decide +kernel
theorem dX2_lineFour_184 : decode cX2_lineFour 184 = .ok (.aload_n 0, 1) := by decide +kernel
theorem dX2_lineFour_185 : decode cX2_lineFour 185 = .ok (.iload_n 1, 1) := by decide +kernel
theorem dX2_lineFour_186 : decode cX2_lineFour 186 = .ok (.invokevirtual 218, 3) := by decide +kernel
theorem dX2_lineFour_189 : decode cX2_lineFour 189 = .ok (.goto 56, 3) := by decide +kernel
theorem dX2_lineFour_192 : decode cX2_lineFour 192 = .ok (.aload_n 0, 1) := by decide +kernel
theorem dX2_lineFour_193 : decode cX2_lineFour 193 = .ok (.iload_n 1, 1) := by decide +kernel
theorem dX2_lineFour_194 : decode cX2_lineFour 194 = .ok (.invokevirtual 221, 3) := by decide +kernel
theorem dX2_lineFour_197 : decode cX2_lineFour 197 = .ok (.goto 48, 3) := by decide +kernel
theorem dX2_lineFour_200 : decode cX2_lineFour 200 = .ok (.aload_n 0, 1) := by decide +kernel
theorem dX2_lineFour_201 : decode cX2_lineFour 201 = .ok (.iload_n 1, 1) := by decide +kernel
theorem dX2_lineFour_202 : decode cX2_lineFour 202 = .ok (.invokevirtual 224, 3) := by decide +kernel
theorem dX2_lineFour_205 : decode cX2_lineFour 205 = .ok (.goto 40, 3) := by decide +kernel
theorem dX2_lineFour_208 : decode cX2_lineFour 208 = .ok (.aload_n 0, 1) := by decide +kernel
theorem dX2_lineFour_209 : decode cX2_lineFour 209 = .ok (.iload_n 1, 1) := by decide +kernel
theorem dX2_lineFour_210 : decode cX2_lineFour 210 = .ok (.invokevirtual 227, 3) := by decide +kernel
theorem dX2_lineFour_213 : decode cX2_lineFour 213 = .ok (.goto 32, 3) := by decide +kernel
theorem dX2_lineFour_216 : decode cX2_lineFour 216 = .ok (.aload_n 0, 1) := by decide +kernel
theorem dX2_lineFour_217 : decode cX2_lineFour 217 = .ok (.iload_n 1, 1) := by decide +kernel
theorem dX2_lineFour_218 : decode cX2_lineFour 218 = .ok (.invokevirtual 230, 3) := by decide +kernel
theorem dX2_lineFour_221 : decode cX2_lineFour 221 = .ok (.goto 24, 3) := by decide +kernel
theorem dX2_lineFour_224 : decode cX2_lineFour 224 = .ok (.aload_n 0, 1) := by decide +kernel
theorem dX2_lineFour_225 : decode cX2_lineFour 225 = .ok (.iload_n 1, 1) := by decide +kernel
theorem dX2_lineFour_226 : decode cX2_lineFour 226 = .ok (.invokevirtual 233, 3) := by decide +kernel
theorem dX2_lineFour_229 : decode cX2_lineFour 229 = .ok (.goto 16, 3) := by decide +kernel
theorem dX2_lineFour_232 : decode cX2_lineFour 232 = .ok (.aload_n 0, 1) := by decide +kernel
theorem dX2_lineFour_233 : decode cX2_lineFour 233 = .ok (.iload_n 1, 1) := by decide +kernel
theorem dX2_lineFour_234 : decode cX2_lineFour 234 = .ok (.invokevirtual 236, 3) := by decide +kernel
theorem dX2_lineFour_237 : decode cX2_lineFour 237 = .ok (.goto 8, 3) := by decide +kernel
theorem dX2_lineFour_240 : decode cX2_lineFour 240 = .ok (.aload_n 0, 1) := by decide +kernel
theorem dX2_lineFour_241 : decode cX2_lineFour 241 = .ok (.iload_n 1, 1) := by decide +kernel
theorem dX2_lineFour_242 : decode cX2_lineFour 242 = .ok (.invokevirtual 239, 3) := by decide +kernel
theorem dX2_lineFour_245 : decode cX2_lineFour 245 = .ok (.return_, 1) := by decide +kernel
theorem dX2_check_0 : decode cX2_check 0 = .ok (.aload_n 0, 1) := by decide +kernel
theorem dX2_check_1 : decode cX2_check 1 = .ok (.sipush 4093, 3) := by decide +kernel
theorem dX2_check_4 : decode cX2_check 4 = .ok (.iload_n 1, 1) := by decide +kernel
theorem dX2_check_5 : decode cX2_check 5 = .ok (.invokestatic 95, 3) := by decide +kernel
theorem dX2_check_8 : decode cX2_check 8 = .ok (.invokevirtual 146, 3) := by decide +kernel
theorem dX2_check_11 : decode cX2_check 11 = .ok (.ifCond .eq 4, 3) := by decide +kernel
theorem dX2_check_14 : decode cX2_check 14 = .ok (.return_, 1) := by decide +kernel
theorem dX2_check_15 : decode cX2_check 15 = .ok (.aload_n 0, 1) := by decide +kernel
theorem dX2_check_16 : decode cX2_check 16 = .ok (.getfield 15, 3) := by decide +kernel
theorem dX2_check_19 : decode cX2_check 19 = .ok (.getstatic 49, 3) := by decide +kernel
theorem dX2_check_22 : decode cX2_check 22 = .ok (.aload_n 0, 1) := by decide +kernel
theorem dX2_check_23 : decode cX2_check 23 = .ok (.getfield 15, 3) := by decide +kernel
theorem dX2_check_26 : decode cX2_check 26 = .ok (.getstatic 49, 3) := by decide +kernel
theorem dX2_check_29 : decode cX2_check 29 = .ok (.iload_n 1, 1) := by decide +kernel
theorem dX2_check_30 : decode cX2_check 30 = .ok (.invokestatic 95, 3) := by decide +kernel
theorem dX2_check_33 : decode cX2_check 33 = .ok (.invokevirtual 150, 3) := by decide +kernel
theorem dX2_check_36 : decode cX2_check 36 = .ok (.invokevirtual 154, 3) := by decide +kernel
theorem dX2_check_39 : decode cX2_check 39 = .ok (.i2s, 1) := by decide +kernel
theorem dX2_check_40 : decode cX2_check 40 = .ok (.istore_n 2, 1) := by decide +kernel
theorem dX2_check_41 : decode cX2_check 41 = .ok (.aload_n 0, 1) := by decide +kernel
theorem dX2_check_42 : decode cX2_check 42 = .ok (.getfield 9, 3) := by decide +kernel
theorem dX2_check_45 : decode cX2_check 45 = .ok (.iload_n 1, 1) := by decide +kernel
theorem dX2_check_46 : decode cX2_check 46 = .ok (.invokestatic 101, 3) := by decide +kernel
theorem dX2_check_49 : decode cX2_check 49 = .ok (.invokevirtual 124, 3) := by decide +kernel
theorem dX2_check_52 : decode cX2_check 52 = .ok (.i2s, 1) := by decide +kernel
theorem dX2_check_53 : decode cX2_check 53 = .ok (.istore_n 3, 1) := by decide +kernel
theorem dX2_check_54 : decode cX2_check 54 = .ok (.iload_n 3, 1) := by decide +kernel
theorem dX2_check_55 : decode cX2_check 55 = .ok (.ifCond .lt 8, 3) := by decide +kernel
theorem dX2_check_58 : decode cX2_check 58 = .ok (.iload_n 3, 1) := by decide +kernel
theorem dX2_check_59 : decode cX2_check 59 = .ok (.iload_n 2, 1) := by decide +kernel
theorem dX2_check_60 : decode cX2_check 60 = .ok (.if_icmp .le 30, 3) := by decide +kernel
theorem dX2_check_63 : decode cX2_check 63 = .ok (.aload_n 0, 1) := by decide +kernel
theorem dX2_check_64 : decode cX2_check 64 = .ok (.getfield 9, 3) := by decide +kernel
theorem dX2_check_67 : decode cX2_check 67 = .ok (.bipush 8, 2) := by decide +kernel
theorem dX2_check_69 : decode cX2_check 69 = .ok (.iload_n 3, 1) := by decide +kernel
theorem dX2_check_70 : decode cX2_check 70 = .ok (.ifCond .ge 7, 3) := by decide +kernel
theorem dX2_check_73 : decode cX2_check 73 = .ok (.iconst 1, 1) := by decide +kernel
theorem dX2_check_74 : decode cX2_check 74 = .ok (.goto 4, 3) := by decide +kernel
theorem dX2_check_77 : decode cX2_check 77 = .ok (.iconst 0, 1) := by decide +kernel
theorem dX2_check_78 : decode cX2_check 78 = .ok (.invokevirtual 158, 3) := by decide +kernel
theorem dX2_check_81 : decode cX2_check 81 = .ok (.aload_n 0, 1) := by decide +kernel
theorem dX2_check_82 : decode cX2_check 82 = .ok (.getfield 15, 3) := by decide +kernel
theorem dX2_check_85 : decode cX2_check 85 = .ok (.bipush 6, 2) := by decide +kernel
theorem dX2_check_87 : decode cX2_check 87 = .ok (.invokevirtual 71, 3) := by decide +kernel
theorem dX2_check_90 : decode cX2_check 90 = .ok (.return_, 1) := by decide +kernel
theorem dX2_loadAddress_0 : decode cX2_loadAddress 0 = .ok (.aload_n 0, 1) := by decide +kernel
theorem dX2_loadAddress_1 : decode cX2_loadAddress 1 = .ok (.sipush 2020, 3) := by decide +kernel
theorem dX2_loadAddress_4 : decode cX2_loadAddress 4 = .ok (.iload_n 1, 1) := by decide +kernel
theorem dX2_loadAddress_5 : decode cX2_loadAddress 5 = .ok (.invokestatic 95, 3) := by decide +kernel
theorem dX2_loadAddress_8 : decode cX2_loadAddress 8 = .ok (.invokevirtual 146, 3) := by decide +kernel
theorem dX2_loadAddress_11 : decode cX2_loadAddress 11 = .ok (.ifCond .ne 32, 3) := by decide +kernel
theorem dX2_loadAddress_14 : decode cX2_loadAddress 14 = .ok (.aload_n 0, 1) := by decide +kernel
theorem dX2_loadAddress_15 : decode cX2_loadAddress 15 = .ok (.getfield 9, 3) := by decide +kernel
theorem dX2_loadAddress_18 : decode cX2_loadAddress 18 = .ok (.bipush 8, 2) := by decide +kernel
theorem dX2_loadAddress_20 : decode cX2_loadAddress 20 = .ok (.iload_n 1, 1) := by decide +kernel
theorem dX2_loadAddress_21 : decode cX2_loadAddress 21 = .ok (.invokestatic 101, 3) := by decide +kernel
theorem dX2_loadAddress_24 : decode cX2_loadAddress 24 = .ok (.iadd, 1) := by decide +kernel
theorem dX2_loadAddress_25 : decode cX2_loadAddress 25 = .ok (.aload_n 0, 1) := by decide +kernel
theorem dX2_loadAddress_26 : decode cX2_loadAddress 26 = .ok (.getfield 15, 3) := by decide +kernel
theorem dX2_loadAddress_29 : decode cX2_loadAddress 29 = .ok (.getstatic 46, 3) := by decide +kernel
theorem dX2_loadAddress_32 : decode cX2_loadAddress 32 = .ok (.iload_n 1, 1) := by decide +kernel
theorem dX2_loadAddress_33 : decode cX2_loadAddress 33 = .ok (.invokestatic 95, 3) := by decide +kernel
theorem dX2_loadAddress_36 : decode cX2_loadAddress 36 = .ok (.invokevirtual 150, 3) := by decide +kernel
theorem dX2_loadAddress_39 : decode cX2_loadAddress 39 = .ok (.l2i, 1) := by decide +kernel
theorem dX2_loadAddress_40 : decode cX2_loadAddress 40 = .ok (.invokevirtual 143, 3) := by decide +kernel
theorem dX2_loadAddress_43 : decode cX2_loadAddress 43 = .ok (.return_, 1) := by decide +kernel
theorem dX2_moveFromStatus_0 : decode cX2_moveFromStatus 0 = .ok (.aload_n 0, 1) := by decide +kernel
theorem dX2_moveFromStatus_1 : decode cX2_moveFromStatus 1 = .ok (.sipush 509, 3) := by decide +kernel
theorem dX2_moveFromStatus_4 : decode cX2_moveFromStatus 4 = .ok (.iload_n 1, 1) := by decide +kernel
theorem dX2_moveFromStatus_5 : decode cX2_moveFromStatus 5 = .ok (.invokestatic 95, 3) := by decide +kernel
theorem dX2_moveFromStatus_8 : decode cX2_moveFromStatus 8 = .ok (.invokevirtual 146, 3) := by decide +kernel
theorem dX2_moveFromStatus_11 : decode cX2_moveFromStatus 11 = .ok (.ifCond .ne 34, 3) := by decide +kernel
theorem dX2_moveFromStatus_14 : decode cX2_moveFromStatus 14 = .ok (.aload_n 0, 1) := by decide +kernel
theorem dX2_moveFromStatus_15 : decode cX2_moveFromStatus 15 = .ok (.getfield 15, 3) := by decide +kernel
theorem dX2_moveFromStatus_18 : decode cX2_moveFromStatus 18 = .ok (.getstatic 49, 3) := by decide +kernel
theorem dX2_moveFromStatus_21 : decode cX2_moveFromStatus 21 = .ok (.aload_n 0, 1) := by decide +kernel
theorem dX2_moveFromStatus_22 : decode cX2_moveFromStatus 22 = .ok (.getfield 15, 3) := by decide +kernel
theorem dX2_moveFromStatus_25 : decode cX2_moveFromStatus 25 = .ok (.getstatic 49, 3) := by decide +kernel
theorem dX2_moveFromStatus_28 : decode cX2_moveFromStatus 28 = .ok (.iload_n 1, 1) := by decide +kernel
theorem dX2_moveFromStatus_29 : decode cX2_moveFromStatus 29 = .ok (.invokestatic 95, 3) := by decide +kernel
theorem dX2_moveFromStatus_32 : decode cX2_moveFromStatus 32 = .ok (.invokevirtual 150, 3) := by decide +kernel
theorem dX2_moveFromStatus_35 : decode cX2_moveFromStatus 35 = .ok (.aload_n 0, 1) := by decide +kernel
theorem dX2_moveFromStatus_36 : decode cX2_moveFromStatus 36 = .ok (.getfield 9, 3) := by decide +kernel
theorem dX2_moveFromStatus_39 : decode cX2_moveFromStatus 39 = .ok (.getfield 169, 3) := by decide +kernel
theorem dX2_moveFromStatus_42 : decode cX2_moveFromStatus 42 = .ok (.invokevirtual 161, 3) := by decide +kernel
theorem dX2_moveFromStatus_45 : decode cX2_moveFromStatus 45 = .ok (.return_, 1) := by decide +kernel
theorem dX2_moveToStatus_0 : decode cX2_moveToStatus 0 = .ok (.iload_n 1, 1) := by decide +kernel
theorem dX2_moveToStatus_1 : decode cX2_moveToStatus 1 = .ok (.sipush 512, 3) := by decide +kernel
theorem dX2_moveToStatus_4 : decode cX2_moveToStatus 4 = .ok (.iand, 1) := by decide +kernel
theorem dX2_moveToStatus_5 : decode cX2_moveToStatus 5 = .ok (.ifCond .eq 7, 3) := by decide +kernel
theorem dX2_moveToStatus_8 : decode cX2_moveToStatus 8 = .ok (.iconst 1, 1) := by decide +kernel
theorem dX2_moveToStatus_9 : decode cX2_moveToStatus 9 = .ok (.goto 4, 3) := by decide +kernel
theorem dX2_moveToStatus_12 : decode cX2_moveToStatus 12 = .ok (.iconst 0, 1) := by decide +kernel
theorem dX2_moveToStatus_13 : decode cX2_moveToStatus 13 = .ok (.istore_n 2, 1) := by decide +kernel
theorem dX2_moveToStatus_14 : decode cX2_moveToStatus 14 = .ok (.aload_n 0, 1) := by decide +kernel
theorem dX2_moveToStatus_15 : decode cX2_moveToStatus 15 = .ok (.sipush 4093, 3) := by decide +kernel
theorem dX2_moveToStatus_18 : decode cX2_moveToStatus 18 = .ok (.iload_n 1, 1) := by decide +kernel
theorem dX2_moveToStatus_19 : decode cX2_moveToStatus 19 = .ok (.invokestatic 95, 3) := by decide +kernel
theorem dX2_moveToStatus_22 : decode cX2_moveToStatus 22 = .ok (.invokevirtual 146, 3) := by decide +kernel
theorem dX2_moveToStatus_25 : decode cX2_moveToStatus 25 = .ok (.ifCond .ne 14, 3) := by decide +kernel
theorem dX2_moveToStatus_28 : decode cX2_moveToStatus 28 = .ok (.iload_n 2, 1) := by decide +kernel
theorem dX2_moveToStatus_29 : decode cX2_moveToStatus 29 = .ok (.ifCond .eq 11, 3) := by decide +kernel
theorem dX2_moveToStatus_32 : decode cX2_moveToStatus 32 = .ok (.aload_n 0, 1) := by decide +kernel
theorem dX2_moveToStatus_33 : decode cX2_moveToStatus 33 = .ok (.invokevirtual 165, 3) := by decide +kernel
theorem dX2_moveToStatus_36 : decode cX2_moveToStatus 36 = .ok (.ifCond .ne 4, 3) := by decide +kernel
theorem dX2_moveToStatus_39 : decode cX2_moveToStatus 39 = .ok (.return_, 1) := by decide +kernel
theorem dX2_moveToStatus_40 : decode cX2_moveToStatus 40 = .ok (.aload_n 0, 1) := by decide +kernel
theorem dX2_moveToStatus_41 : decode cX2_moveToStatus 41 = .ok (.getfield 15, 3) := by decide +kernel
theorem dX2_moveToStatus_44 : decode cX2_moveToStatus 44 = .ok (.getstatic 49, 3) := by decide +kernel
theorem dX2_moveToStatus_47 : decode cX2_moveToStatus 47 = .ok (.aload_n 0, 1) := by decide +kernel
theorem dX2_moveToStatus_48 : decode cX2_moveToStatus 48 = .ok (.getfield 15, 3) := by decide +kernel
theorem dX2_moveToStatus_51 : decode cX2_moveToStatus 51 = .ok (.getstatic 49, 3) := by decide +kernel
theorem dX2_moveToStatus_54 : decode cX2_moveToStatus 54 = .ok (.iload_n 1, 1) := by decide +kernel
theorem dX2_moveToStatus_55 : decode cX2_moveToStatus 55 = .ok (.invokestatic 95, 3) := by decide +kernel
theorem dX2_moveToStatus_58 : decode cX2_moveToStatus 58 = .ok (.invokevirtual 150, 3) := by decide +kernel
theorem dX2_moveToStatus_61 : decode cX2_moveToStatus 61 = .ok (.invokevirtual 154, 3) := by decide +kernel
theorem dX2_moveToStatus_64 : decode cX2_moveToStatus 64 = .ok (.istore_n 3, 1) := by decide +kernel
theorem dX2_moveToStatus_65 : decode cX2_moveToStatus 65 = .ok (.iload_n 2, 1) := by decide +kernel
theorem dX2_moveToStatus_66 : decode cX2_moveToStatus 66 = .ok (.ifCond .eq 14, 3) := by decide +kernel
theorem dX2_moveToStatus_69 : decode cX2_moveToStatus 69 = .ok (.aload_n 0, 1) := by decide +kernel
theorem dX2_moveToStatus_70 : decode cX2_moveToStatus 70 = .ok (.getfield 9, 3) := by decide +kernel
theorem dX2_moveToStatus_73 : decode cX2_moveToStatus 73 = .ok (.iload_n 3, 1) := by decide +kernel
theorem dX2_moveToStatus_74 : decode cX2_moveToStatus 74 = .ok (.invokevirtual 172, 3) := by decide +kernel
theorem dX2_moveToStatus_77 : decode cX2_moveToStatus 77 = .ok (.goto 11, 3) := by decide +kernel
theorem dX2_moveToStatus_80 : decode cX2_moveToStatus 80 = .ok (.aload_n 0, 1) := by decide +kernel
theorem dX2_moveToStatus_81 : decode cX2_moveToStatus 81 = .ok (.getfield 9, 3) := by decide +kernel
theorem dX2_moveToStatus_84 : decode cX2_moveToStatus 84 = .ok (.iload_n 3, 1) := by decide +kernel
theorem dX2_moveToStatus_85 : decode cX2_moveToStatus 85 = .ok (.invokevirtual 175, 3) := by decide +kernel
theorem dX2_moveToStatus_88 : decode cX2_moveToStatus 88 = .ok (.return_, 1) := by decide +kernel
theorem dX2_single_0 : decode cX2_single 0 = .ok (.iload_n 1, 1) := by decide +kernel
theorem dX2_single_1 : decode cX2_single 1 = .ok (.invokestatic 101, 3) := by decide +kernel
theorem dX2_single_4 : decode cX2_single 4 = .ok (.istore_n 2, 1) := by decide +kernel
theorem dX2_single_5 : decode cX2_single 5 = .ok (.iload_n 1, 1) := by decide +kernel
theorem dX2_single_6 : decode cX2_single 6 = .ok (.invokestatic 107, 3) := by decide +kernel
theorem dX2_single_9 : decode cX2_single 9 = .ok (.ifCond .ne 16, 3) := by decide +kernel
theorem dX2_single_12 : decode cX2_single 12 = .ok (.iload_n 1, 1) := by decide +kernel
theorem dX2_single_13 : decode cX2_single 13 = .ok (.invokestatic 98, 3) := by decide +kernel
theorem dX2_single_16 : decode cX2_single 16 = .ok (.iconst 3, 1) := by decide +kernel
theorem dX2_single_17 : decode cX2_single 17 = .ok (.if_icmp .eq 8, 3) := by decide +kernel
theorem dX2_single_20 : decode cX2_single 20 = .ok (.iload_n 2, 1) := by decide +kernel
theorem dX2_single_21 : decode cX2_single 21 = .ok (.iconst 5, 1) := by decide +kernel
theorem dX2_single_22 : decode cX2_single 22 = .ok (.if_icmp .le 8, 3) := by decide +kernel
theorem dX2_single_25 : decode cX2_single 25 = .ok (.aload_n 0, 1) := by decide +kernel
theorem dX2_single_26 : decode cX2_single 26 = .ok (.invokevirtual 178, 3) := by decide +kernel
theorem dX2_single_29 : decode cX2_single 29 = .ok (.return_, 1) := by decide +kernel
theorem dX2_single_30 : decode cX2_single 30 = .ok (.aload_n 0, 1) := by decide +kernel
theorem dX2_single_31 : decode cX2_single 31 = .ok (.sipush 509, 3) := by decide +kernel
theorem dX2_single_34 : decode cX2_single 34 = .ok (.iload_n 1, 1) := by decide +kernel
theorem dX2_single_35 : decode cX2_single 35 = .ok (.invokestatic 95, 3) := by decide +kernel
theorem dX2_single_38 : decode cX2_single 38 = .ok (.invokevirtual 146, 3) := by decide +kernel
theorem dX2_single_41 : decode cX2_single 41 = .ok (.ifCond .eq 4, 3) := by decide +kernel
theorem dX2_single_44 : decode cX2_single 44 = .ok (.return_, 1) := by decide +kernel
theorem dX2_single_45 : decode cX2_single 45 = .ok (.iload_n 1, 1) := by decide +kernel
theorem dX2_single_46 : decode cX2_single 46 = .ok (.invokestatic 98, 3) := by decide +kernel
theorem dX2_single_49 : decode cX2_single 49 = .ok (.invokestatic 181, 3) := by decide +kernel
theorem dX2_single_52 : decode cX2_single 52 = .ok (.astore_n 3, 1) := by decide +kernel
theorem dX2_single_53 : decode cX2_single 53 = .ok (.aload_n 0, 1) := by decide +kernel
theorem dX2_single_54 : decode cX2_single 54 = .ok (.getfield 15, 3) := by decide +kernel
theorem dX2_single_57 : decode cX2_single 57 = .ok (.aload_n 3, 1) := by decide +kernel
theorem dX2_single_58 : decode cX2_single 58 = .ok (.iload_n 1, 1) := by decide +kernel
theorem dX2_single_59 : decode cX2_single 59 = .ok (.invokestatic 95, 3) := by decide +kernel
theorem dX2_single_62 : decode cX2_single 62 = .ok (.invokevirtual 150, 3) := by decide +kernel
theorem dX2_single_65 : decode cX2_single 65 = .ok (.lstore 4, 2) := by decide +kernel
theorem dX2_single_67 : decode cX2_single 67 = .ok (.aload_n 0, 1) := by decide +kernel
theorem dX2_single_68 : decode cX2_single 68 = .ok (.getfield 15, 3) := by decide +kernel
theorem dX2_single_71 : decode cX2_single 71 = .ok (.aload_n 3, 1) := by decide +kernel
theorem dX2_single_72 : decode cX2_single 72 = .ok (.lload 4, 2) := by decide +kernel
theorem dX2_single_74 : decode cX2_single 74 = .ok (.invokevirtual 154, 3) := by decide +kernel
theorem dX2_single_77 : decode cX2_single 77 = .ok (.istore 6, 2) := by decide +kernel
theorem dX2_single_79 : decode cX2_single 79 = .ok (.iload_n 2, 1) := by decide +kernel
theorem dX2_single_80 : decode cX2_single 80 = .ok (.tableswitch 129 0 3 #[32, 57, 79, 104], 32) := by decide +kernel
theorem dX2_single_112 : decode cX2_single 112 = .ok (.aload_n 0, 1) := by decide +kernel
theorem dX2_single_113 : decode cX2_single 113 = .ok (.getfield 15, 3) := by decide +kernel
theorem dX2_single_116 : decode cX2_single 116 = .ok (.aload_n 3, 1) := by decide +kernel
theorem dX2_single_117 : decode cX2_single 117 = .ok (.lload 4, 2) := by decide +kernel
theorem dX2_single_119 : decode cX2_single 119 = .ok (.aload_n 0, 1) := by decide +kernel
theorem dX2_single_120 : decode cX2_single 120 = .ok (.getfield 24, 3) := by decide +kernel
theorem dX2_single_123 : decode cX2_single 123 = .ok (.iconst 2, 1) := by decide +kernel
theorem dX2_single_124 : decode cX2_single 124 = .ok (.aload_n 3, 1) := by decide +kernel
theorem dX2_single_125 : decode cX2_single 125 = .ok (.iconst 0, 1) := by decide +kernel
theorem dX2_single_126 : decode cX2_single 126 = .ok (.iload 6, 2) := by decide +kernel
theorem dX2_single_128 : decode cX2_single 128 = .ok (.invokevirtual 242, 3) := by decide +kernel
theorem dX2_single_131 : decode cX2_single 131 = .ok (.invokevirtual 161, 3) := by decide +kernel
theorem dX2_single_134 : decode cX2_single 134 = .ok (.goto 86, 3) := by decide +kernel
theorem dX2_single_137 : decode cX2_single 137 = .ok (.aload_n 0, 1) := by decide +kernel
theorem dX2_single_138 : decode cX2_single 138 = .ok (.getfield 15, 3) := by decide +kernel
theorem dX2_single_141 : decode cX2_single 141 = .ok (.aload_n 3, 1) := by decide +kernel
theorem dX2_single_142 : decode cX2_single 142 = .ok (.lload 4, 2) := by decide +kernel
theorem dX2_single_144 : decode cX2_single 144 = .ok (.aload_n 0, 1) := by decide +kernel
theorem dX2_single_145 : decode cX2_single 145 = .ok (.getfield 24, 3) := by decide +kernel
theorem dX2_single_148 : decode cX2_single 148 = .ok (.aload_n 3, 1) := by decide +kernel
theorem dX2_single_149 : decode cX2_single 149 = .ok (.iconst 0, 1) := by decide +kernel
theorem dX2_single_150 : decode cX2_single 150 = .ok (.invokevirtual 203, 3) := by decide +kernel
theorem dX2_single_153 : decode cX2_single 153 = .ok (.invokevirtual 161, 3) := by decide +kernel
theorem dX2_single_156 : decode cX2_single 156 = .ok (.goto 64, 3) := by decide +kernel
theorem dX2_single_159 : decode cX2_single 159 = .ok (.aload_n 0, 1) := by decide +kernel
theorem dX2_single_160 : decode cX2_single 160 = .ok (.getfield 15, 3) := by decide +kernel
theorem dX2_single_163 : decode cX2_single 163 = .ok (.aload_n 3, 1) := by decide +kernel
theorem dX2_single_164 : decode cX2_single 164 = .ok (.lload 4, 2) := by decide +kernel
theorem dX2_single_166 : decode cX2_single 166 = .ok (.aload_n 0, 1) := by decide +kernel
theorem dX2_single_167 : decode cX2_single 167 = .ok (.getfield 24, 3) := by decide +kernel
theorem dX2_single_170 : decode cX2_single 170 = .ok (.iconst 2, 1) := by decide +kernel
theorem dX2_single_171 : decode cX2_single 171 = .ok (.aload_n 3, 1) := by decide +kernel
theorem dX2_single_172 : decode cX2_single 172 = .ok (.iconst 0, 1) := by decide +kernel
theorem dX2_single_173 : decode cX2_single 173 = .ok (.iload 6, 2) := by decide +kernel
theorem dX2_single_175 : decode cX2_single 175 = .ok (.invokevirtual 192, 3) := by decide +kernel
theorem dX2_single_178 : decode cX2_single 178 = .ok (.invokevirtual 161, 3) := by decide +kernel
theorem dX2_single_181 : decode cX2_single 181 = .ok (.goto 39, 3) := by decide +kernel
theorem dX2_single_184 : decode cX2_single 184 = .ok (.aload_n 0, 1) := by decide +kernel
theorem dX2_single_185 : decode cX2_single 185 = .ok (.getfield 15, 3) := by decide +kernel
theorem dX2_single_188 : decode cX2_single 188 = .ok (.aload_n 3, 1) := by decide +kernel
theorem dX2_single_189 : decode cX2_single 189 = .ok (.lload 4, 2) := by decide +kernel
theorem dX2_single_191 : decode cX2_single 191 = .ok (.aload_n 0, 1) := by decide +kernel
theorem dX2_single_192 : decode cX2_single 192 = .ok (.getfield 24, 3) := by decide +kernel
theorem dX2_single_195 : decode cX2_single 195 = .ok (.aload_n 3, 1) := by decide +kernel
theorem dX2_single_196 : decode cX2_single 196 = .ok (.iload 6, 2) := by decide +kernel
theorem dX2_single_198 : decode cX2_single 198 = .ok (.iconst (-1), 1) := by decide +kernel
theorem dX2_single_199 : decode cX2_single 199 = .ok (.ixor, 1) := by decide +kernel
theorem dX2_single_200 : decode cX2_single 200 = .ok (.invokevirtual 203, 3) := by decide +kernel
theorem dX2_single_203 : decode cX2_single 203 = .ok (.invokevirtual 161, 3) := by decide +kernel
theorem dX2_single_206 : decode cX2_single 206 = .ok (.goto 14, 3) := by decide +kernel
theorem dX2_single_209 : decode cX2_single 209 = .ok (.aload_n 0, 1) := by decide +kernel
theorem dX2_single_210 : decode cX2_single 210 = .ok (.getfield 24, 3) := by decide +kernel
theorem dX2_single_213 : decode cX2_single 213 = .ok (.aload_n 3, 1) := by decide +kernel
theorem dX2_single_214 : decode cX2_single 214 = .ok (.iload 6, 2) := by decide +kernel
theorem dX2_single_216 : decode cX2_single 216 = .ok (.invokevirtual 203, 3) := by decide +kernel
theorem dX2_single_219 : decode cX2_single 219 = .ok (.pop, 1) := by decide +kernel
theorem dX2_single_220 : decode cX2_single 220 = .ok (.return_, 1) := by decide +kernel
theorem dX2_negateDecimal_0 : decode cX2_negateDecimal 0 = .ok (.aload_n 0, 1) := by decide +kernel
theorem dX2_negateDecimal_1 : decode cX2_negateDecimal 1 = .ok (.sipush 509, 3) := by decide +kernel
theorem dX2_negateDecimal_4 : decode cX2_negateDecimal 4 = .ok (.iload_n 1, 1) := by decide +kernel
theorem dX2_negateDecimal_5 : decode cX2_negateDecimal 5 = .ok (.invokestatic 95, 3) := by decide +kernel
theorem dX2_negateDecimal_8 : decode cX2_negateDecimal 8 = .ok (.invokevirtual 146, 3) := by decide +kernel
theorem dX2_negateDecimal_11 : decode cX2_negateDecimal 11 = .ok (.ifCond .ne 48, 3) := by decide +kernel
theorem dX2_negateDecimal_14 : decode cX2_negateDecimal 14 = .ok (.aload_n 0, 1) := by decide +kernel
theorem dX2_negateDecimal_15 : decode cX2_negateDecimal 15 = .ok (.getfield 15, 3) := by decide +kernel
theorem dX2_negateDecimal_18 : decode cX2_negateDecimal 18 = .ok (.getstatic 36, 3) := by decide +kernel
theorem dX2_negateDecimal_21 : decode cX2_negateDecimal 21 = .ok (.iload_n 1, 1) := by decide +kernel
theorem dX2_negateDecimal_22 : decode cX2_negateDecimal 22 = .ok (.invokestatic 95, 3) := by decide +kernel
theorem dX2_negateDecimal_25 : decode cX2_negateDecimal 25 = .ok (.invokevirtual 150, 3) := by decide +kernel
theorem dX2_negateDecimal_28 : decode cX2_negateDecimal 28 = .ok (.lstore_n 2, 1) := by decide +kernel
theorem dX2_negateDecimal_29 : decode cX2_negateDecimal 29 = .ok (.aload_n 0, 1) := by decide +kernel
theorem dX2_negateDecimal_30 : decode cX2_negateDecimal 30 = .ok (.getfield 15, 3) := by decide +kernel
theorem dX2_negateDecimal_33 : decode cX2_negateDecimal 33 = .ok (.getstatic 36, 3) := by decide +kernel
theorem dX2_negateDecimal_36 : decode cX2_negateDecimal 36 = .ok (.lload_n 2, 1) := by decide +kernel
theorem dX2_negateDecimal_37 : decode cX2_negateDecimal 37 = .ok (.aload_n 0, 1) := by decide +kernel
theorem dX2_negateDecimal_38 : decode cX2_negateDecimal 38 = .ok (.getfield 24, 3) := by decide +kernel
theorem dX2_negateDecimal_41 : decode cX2_negateDecimal 41 = .ok (.iconst 0, 1) := by decide +kernel
theorem dX2_negateDecimal_42 : decode cX2_negateDecimal 42 = .ok (.aload_n 0, 1) := by decide +kernel
theorem dX2_negateDecimal_43 : decode cX2_negateDecimal 43 = .ok (.getfield 15, 3) := by decide +kernel
theorem dX2_negateDecimal_46 : decode cX2_negateDecimal 46 = .ok (.getstatic 36, 3) := by decide +kernel
theorem dX2_negateDecimal_49 : decode cX2_negateDecimal 49 = .ok (.lload_n 2, 1) := by decide +kernel
theorem dX2_negateDecimal_50 : decode cX2_negateDecimal 50 = .ok (.invokevirtual 154, 3) := by decide +kernel
theorem dX2_negateDecimal_53 : decode cX2_negateDecimal 53 = .ok (.invokevirtual 245, 3) := by decide +kernel
theorem dX2_negateDecimal_56 : decode cX2_negateDecimal 56 = .ok (.invokevirtual 161, 3) := by decide +kernel
theorem dX2_negateDecimal_59 : decode cX2_negateDecimal 59 = .ok (.return_, 1) := by decide +kernel
theorem dX2_swapOrPushAddress_0 : decode cX2_swapOrPushAddress 0 = .ok (.iload_n 1, 1) := by decide +kernel
theorem dX2_swapOrPushAddress_1 : decode cX2_swapOrPushAddress 1 = .ok (.invokestatic 121, 3) := by decide +kernel
theorem dX2_swapOrPushAddress_4 : decode cX2_swapOrPushAddress 4 = .ok (.istore_n 2, 1) := by decide +kernel
theorem dX2_swapOrPushAddress_5 : decode cX2_swapOrPushAddress 5 = .ok (.iload_n 1, 1) := by decide +kernel
theorem dX2_swapOrPushAddress_6 : decode cX2_swapOrPushAddress 6 = .ok (.invokestatic 95, 3) := by decide +kernel
theorem dX2_swapOrPushAddress_9 : decode cX2_swapOrPushAddress 9 = .ok (.bipush 8, 2) := by decide +kernel
theorem dX2_swapOrPushAddress_11 : decode cX2_swapOrPushAddress 11 = .ok (.if_icmp .ge 42, 3) := by decide +kernel
theorem dX2_swapOrPushAddress_14 : decode cX2_swapOrPushAddress 14 = .ok (.aload_n 0, 1) := by decide +kernel
theorem dX2_swapOrPushAddress_15 : decode cX2_swapOrPushAddress 15 = .ok (.getfield 9, 3) := by decide +kernel
theorem dX2_swapOrPushAddress_18 : decode cX2_swapOrPushAddress 18 = .ok (.iload_n 2, 1) := by decide +kernel
theorem dX2_swapOrPushAddress_19 : decode cX2_swapOrPushAddress 19 = .ok (.invokevirtual 124, 3) := by decide +kernel
theorem dX2_swapOrPushAddress_22 : decode cX2_swapOrPushAddress 22 = .ok (.istore_n 3, 1) := by decide +kernel
theorem dX2_swapOrPushAddress_23 : decode cX2_swapOrPushAddress 23 = .ok (.aload_n 0, 1) := by decide +kernel
theorem dX2_swapOrPushAddress_24 : decode cX2_swapOrPushAddress 24 = .ok (.getfield 9, 3) := by decide +kernel
theorem dX2_swapOrPushAddress_27 : decode cX2_swapOrPushAddress 27 = .ok (.iload_n 2, 1) := by decide +kernel
theorem dX2_swapOrPushAddress_28 : decode cX2_swapOrPushAddress 28 = .ok (.aload_n 0, 1) := by decide +kernel
theorem dX2_swapOrPushAddress_29 : decode cX2_swapOrPushAddress 29 = .ok (.getfield 24, 3) := by decide +kernel
theorem dX2_swapOrPushAddress_32 : decode cX2_swapOrPushAddress 32 = .ok (.getstatic 46, 3) := by decide +kernel
theorem dX2_swapOrPushAddress_35 : decode cX2_swapOrPushAddress 35 = .ok (.iload_n 3, 1) := by decide +kernel
theorem dX2_swapOrPushAddress_36 : decode cX2_swapOrPushAddress 36 = .ok (.bipush 16, 2) := by decide +kernel
theorem dX2_swapOrPushAddress_38 : decode cX2_swapOrPushAddress 38 = .ok (.ishl, 1) := by decide +kernel
theorem dX2_swapOrPushAddress_39 : decode cX2_swapOrPushAddress 39 = .ok (.iload_n 3, 1) := by decide +kernel
theorem dX2_swapOrPushAddress_40 : decode cX2_swapOrPushAddress 40 = .ok (.bipush 16, 2) := by decide +kernel
theorem dX2_swapOrPushAddress_42 : decode cX2_swapOrPushAddress 42 = .ok (.iushr, 1) := by decide +kernel
theorem dX2_swapOrPushAddress_43 : decode cX2_swapOrPushAddress 43 = .ok (.ior, 1) := by decide +kernel
theorem dX2_swapOrPushAddress_44 : decode cX2_swapOrPushAddress 44 = .ok (.invokevirtual 203, 3) := by decide +kernel
theorem dX2_swapOrPushAddress_47 : decode cX2_swapOrPushAddress 47 = .ok (.invokevirtual 143, 3) := by decide +kernel
theorem dX2_swapOrPushAddress_50 : decode cX2_swapOrPushAddress 50 = .ok (.goto 42, 3) := by decide +kernel
theorem dX2_swapOrPushAddress_53 : decode cX2_swapOrPushAddress 53 = .ok (.aload_n 0, 1) := by decide +kernel
theorem dX2_swapOrPushAddress_54 : decode cX2_swapOrPushAddress 54 = .ok (.sipush 2020, 3) := by decide +kernel
theorem dX2_swapOrPushAddress_57 : decode cX2_swapOrPushAddress 57 = .ok (.iload_n 1, 1) := by decide +kernel
theorem dX2_swapOrPushAddress_58 : decode cX2_swapOrPushAddress 58 = .ok (.invokestatic 95, 3) := by decide +kernel
theorem dX2_swapOrPushAddress_61 : decode cX2_swapOrPushAddress 61 = .ok (.invokevirtual 146, 3) := by decide +kernel
theorem dX2_swapOrPushAddress_64 : decode cX2_swapOrPushAddress 64 = .ok (.ifCond .ne 28, 3) := by decide +kernel
theorem dX2_swapOrPushAddress_67 : decode cX2_swapOrPushAddress 67 = .ok (.aload_n 0, 1) := by decide +kernel
theorem dX2_swapOrPushAddress_68 : decode cX2_swapOrPushAddress 68 = .ok (.getfield 15, 3) := by decide +kernel
theorem dX2_swapOrPushAddress_71 : decode cX2_swapOrPushAddress 71 = .ok (.getstatic 46, 3) := by decide +kernel
theorem dX2_swapOrPushAddress_74 : decode cX2_swapOrPushAddress 74 = .ok (.aload_n 0, 1) := by decide +kernel
theorem dX2_swapOrPushAddress_75 : decode cX2_swapOrPushAddress 75 = .ok (.getfield 15, 3) := by decide +kernel
theorem dX2_swapOrPushAddress_78 : decode cX2_swapOrPushAddress 78 = .ok (.getstatic 46, 3) := by decide +kernel
theorem dX2_swapOrPushAddress_81 : decode cX2_swapOrPushAddress 81 = .ok (.iload_n 1, 1) := by decide +kernel
theorem dX2_swapOrPushAddress_82 : decode cX2_swapOrPushAddress 82 = .ok (.invokestatic 95, 3) := by decide +kernel
theorem dX2_swapOrPushAddress_85 : decode cX2_swapOrPushAddress 85 = .ok (.invokevirtual 150, 3) := by decide +kernel
theorem dX2_swapOrPushAddress_88 : decode cX2_swapOrPushAddress 88 = .ok (.l2i, 1) := by decide +kernel
theorem dX2_swapOrPushAddress_89 : decode cX2_swapOrPushAddress 89 = .ok (.invokevirtual 249, 3) := by decide +kernel
theorem dX2_swapOrPushAddress_92 : decode cX2_swapOrPushAddress 92 = .ok (.return_, 1) := by decide +kernel
theorem dX2_extendOrStoreMany_0 : decode cX2_extendOrStoreMany 0 = .ok (.iload_n 1, 1) := by decide +kernel
theorem dX2_extendOrStoreMany_1 : decode cX2_extendOrStoreMany 1 = .ok (.invokestatic 253, 3) := by decide +kernel
theorem dX2_extendOrStoreMany_4 : decode cX2_extendOrStoreMany 4 = .ok (.astore_n 2, 1) := by decide +kernel
theorem dX2_extendOrStoreMany_5 : decode cX2_extendOrStoreMany 5 = .ok (.iload_n 1, 1) := by decide +kernel
theorem dX2_extendOrStoreMany_6 : decode cX2_extendOrStoreMany 6 = .ok (.invokestatic 95, 3) := by decide +kernel
theorem dX2_extendOrStoreMany_9 : decode cX2_extendOrStoreMany 9 = .ok (.bipush 8, 2) := by decide +kernel
theorem dX2_extendOrStoreMany_11 : decode cX2_extendOrStoreMany 11 = .ok (.if_icmp .ge 62, 3) := by decide +kernel
theorem dX2_extendOrStoreMany_14 : decode cX2_extendOrStoreMany 14 = .ok (.iload_n 1, 1) := by decide +kernel
theorem dX2_extendOrStoreMany_15 : decode cX2_extendOrStoreMany 15 = .ok (.invokestatic 121, 3) := by decide +kernel
theorem dX2_extendOrStoreMany_18 : decode cX2_extendOrStoreMany 18 = .ok (.istore_n 3, 1) := by decide +kernel
theorem dX2_extendOrStoreMany_19 : decode cX2_extendOrStoreMany 19 = .ok (.aload_n 2, 1) := by decide +kernel
theorem dX2_extendOrStoreMany_20 : decode cX2_extendOrStoreMany 20 = .ok (.getstatic 49, 3) := by decide +kernel
theorem dX2_extendOrStoreMany_23 : decode cX2_extendOrStoreMany 23 = .ok (.if_acmp .ne 9, 3) := by decide +kernel
theorem dX2_extendOrStoreMany_26 : decode cX2_extendOrStoreMany 26 = .ok (.getstatic 36, 3) := by decide +kernel
theorem dX2_extendOrStoreMany_29 : decode cX2_extendOrStoreMany 29 = .ok (.goto 6, 3) := by decide +kernel
theorem dX2_extendOrStoreMany_32 : decode cX2_extendOrStoreMany 32 = .ok (.getstatic 49, 3) := by decide +kernel
theorem dX2_extendOrStoreMany_35 : decode cX2_extendOrStoreMany 35 = .ok (.astore 4, 2) := by decide +kernel
theorem dX2_extendOrStoreMany_37 : decode cX2_extendOrStoreMany 37 = .ok (.aload_n 0, 1) := by decide +kernel
theorem dX2_extendOrStoreMany_38 : decode cX2_extendOrStoreMany 38 = .ok (.getfield 15, 3) := by decide +kernel
theorem dX2_extendOrStoreMany_41 : decode cX2_extendOrStoreMany 41 = .ok (.aload_n 2, 1) := by decide +kernel
theorem dX2_extendOrStoreMany_42 : decode cX2_extendOrStoreMany 42 = .ok (.iload_n 3, 1) := by decide +kernel
theorem dX2_extendOrStoreMany_43 : decode cX2_extendOrStoreMany 43 = .ok (.invokestatic 256, 3) := by decide +kernel
theorem dX2_extendOrStoreMany_46 : decode cX2_extendOrStoreMany 46 = .ok (.aload_n 0, 1) := by decide +kernel
theorem dX2_extendOrStoreMany_47 : decode cX2_extendOrStoreMany 47 = .ok (.getfield 24, 3) := by decide +kernel
theorem dX2_extendOrStoreMany_50 : decode cX2_extendOrStoreMany 50 = .ok (.aload_n 2, 1) := by decide +kernel
theorem dX2_extendOrStoreMany_51 : decode cX2_extendOrStoreMany 51 = .ok (.aload 4, 2) := by decide +kernel
theorem dX2_extendOrStoreMany_53 : decode cX2_extendOrStoreMany 53 = .ok (.aload_n 0, 1) := by decide +kernel
theorem dX2_extendOrStoreMany_54 : decode cX2_extendOrStoreMany 54 = .ok (.getfield 9, 3) := by decide +kernel
theorem dX2_extendOrStoreMany_57 : decode cX2_extendOrStoreMany 57 = .ok (.iload_n 3, 1) := by decide +kernel
theorem dX2_extendOrStoreMany_58 : decode cX2_extendOrStoreMany 58 = .ok (.invokevirtual 124, 3) := by decide +kernel
theorem dX2_extendOrStoreMany_61 : decode cX2_extendOrStoreMany 61 = .ok (.invokevirtual 200, 3) := by decide +kernel
theorem dX2_extendOrStoreMany_64 : decode cX2_extendOrStoreMany 64 = .ok (.invokevirtual 203, 3) := by decide +kernel
theorem dX2_extendOrStoreMany_67 : decode cX2_extendOrStoreMany 67 = .ok (.invokevirtual 161, 3) := by decide +kernel
theorem dX2_extendOrStoreMany_70 : decode cX2_extendOrStoreMany 70 = .ok (.goto 70, 3) := by decide +kernel
theorem dX2_extendOrStoreMany_73 : decode cX2_extendOrStoreMany 73 = .ok (.aload_n 0, 1) := by decide +kernel
theorem dX2_extendOrStoreMany_74 : decode cX2_extendOrStoreMany 74 = .ok (.sipush 500, 3) := by decide +kernel
theorem dX2_extendOrStoreMany_77 : decode cX2_extendOrStoreMany 77 = .ok (.iload_n 1, 1) := by decide +kernel
theorem dX2_extendOrStoreMany_78 : decode cX2_extendOrStoreMany 78 = .ok (.invokestatic 95, 3) := by decide +kernel
theorem dX2_extendOrStoreMany_81 : decode cX2_extendOrStoreMany 81 = .ok (.invokevirtual 146, 3) := by decide +kernel
theorem dX2_extendOrStoreMany_84 : decode cX2_extendOrStoreMany 84 = .ok (.ifCond .ne 56, 3) := by decide +kernel
theorem dX2_extendOrStoreMany_87 : decode cX2_extendOrStoreMany 87 = .ok (.aload_n 0, 1) := by decide +kernel
theorem dX2_extendOrStoreMany_88 : decode cX2_extendOrStoreMany 88 = .ok (.getfield 15, 3) := by decide +kernel
theorem dX2_extendOrStoreMany_91 : decode cX2_extendOrStoreMany 91 = .ok (.invokevirtual 127, 3) := by decide +kernel
theorem dX2_extendOrStoreMany_94 : decode cX2_extendOrStoreMany 94 = .ok (.istore_n 3, 1) := by decide +kernel
theorem dX2_extendOrStoreMany_95 : decode cX2_extendOrStoreMany 95 = .ok (.iload_n 1, 1) := by decide +kernel
theorem dX2_extendOrStoreMany_96 : decode cX2_extendOrStoreMany 96 = .ok (.invokestatic 95, 3) := by decide +kernel
theorem dX2_extendOrStoreMany_99 : decode cX2_extendOrStoreMany 99 = .ok (.iconst 3, 1) := by decide +kernel
theorem dX2_extendOrStoreMany_100 : decode cX2_extendOrStoreMany 100 = .ok (.iushr, 1) := by decide +kernel
theorem dX2_extendOrStoreMany_101 : decode cX2_extendOrStoreMany 101 = .ok (.iconst 4, 1) := by decide +kernel
theorem dX2_extendOrStoreMany_102 : decode cX2_extendOrStoreMany 102 = .ok (.if_icmp .ne 19, 3) := by decide +kernel
theorem dX2_extendOrStoreMany_105 : decode cX2_extendOrStoreMany 105 = .ok (.aload_n 0, 1) := by decide +kernel
theorem dX2_extendOrStoreMany_106 : decode cX2_extendOrStoreMany 106 = .ok (.aload_n 2, 1) := by decide +kernel
theorem dX2_extendOrStoreMany_107 : decode cX2_extendOrStoreMany 107 = .ok (.iload_n 3, 1) := by decide +kernel
theorem dX2_extendOrStoreMany_108 : decode cX2_extendOrStoreMany 108 = .ok (.bipush 8, 2) := by decide +kernel
theorem dX2_extendOrStoreMany_110 : decode cX2_extendOrStoreMany 110 = .ok (.iload_n 1, 1) := by decide +kernel
theorem dX2_extendOrStoreMany_111 : decode cX2_extendOrStoreMany 111 = .ok (.invokestatic 121, 3) := by decide +kernel
theorem dX2_extendOrStoreMany_114 : decode cX2_extendOrStoreMany 114 = .ok (.iadd, 1) := by decide +kernel
theorem dX2_extendOrStoreMany_115 : decode cX2_extendOrStoreMany 115 = .ok (.invokevirtual 260, 3) := by decide +kernel
theorem dX2_extendOrStoreMany_118 : decode cX2_extendOrStoreMany 118 = .ok (.goto 22, 3) := by decide +kernel
theorem dX2_extendOrStoreMany_121 : decode cX2_extendOrStoreMany 121 = .ok (.aload_n 0, 1) := by decide +kernel
theorem dX2_extendOrStoreMany_122 : decode cX2_extendOrStoreMany 122 = .ok (.aload_n 2, 1) := by decide +kernel
theorem dX2_extendOrStoreMany_123 : decode cX2_extendOrStoreMany 123 = .ok (.iload_n 3, 1) := by decide +kernel
theorem dX2_extendOrStoreMany_124 : decode cX2_extendOrStoreMany 124 = .ok (.aload_n 0, 1) := by decide +kernel
theorem dX2_extendOrStoreMany_125 : decode cX2_extendOrStoreMany 125 = .ok (.getfield 15, 3) := by decide +kernel
theorem dX2_extendOrStoreMany_128 : decode cX2_extendOrStoreMany 128 = .ok (.aload_n 2, 1) := by decide +kernel
theorem dX2_extendOrStoreMany_129 : decode cX2_extendOrStoreMany 129 = .ok (.iload_n 1, 1) := by decide +kernel
theorem dX2_extendOrStoreMany_130 : decode cX2_extendOrStoreMany 130 = .ok (.invokestatic 95, 3) := by decide +kernel
theorem dX2_extendOrStoreMany_133 : decode cX2_extendOrStoreMany 133 = .ok (.invokevirtual 150, 3) := by decide +kernel
theorem dX2_extendOrStoreMany_136 : decode cX2_extendOrStoreMany 136 = .ok (.l2i, 1) := by decide +kernel
theorem dX2_extendOrStoreMany_137 : decode cX2_extendOrStoreMany 137 = .ok (.invokevirtual 263, 3) := by decide +kernel
theorem dX2_extendOrStoreMany_140 : decode cX2_extendOrStoreMany 140 = .ok (.return_, 1) := by decide +kernel
theorem dX2_manySize_0 : decode cX2_manySize 0 = .ok (.iload_n 0, 1) := by decide +kernel
theorem dX2_manySize_1 : decode cX2_manySize 1 = .ok (.bipush 64, 2) := by decide +kernel
theorem dX2_manySize_3 : decode cX2_manySize 3 = .ok (.iand, 1) := by decide +kernel
theorem dX2_manySize_4 : decode cX2_manySize 4 = .ok (.ifCond .ne 9, 3) := by decide +kernel
theorem dX2_manySize_7 : decode cX2_manySize 7 = .ok (.getstatic 49, 3) := by decide +kernel
theorem dX2_manySize_10 : decode cX2_manySize 10 = .ok (.goto 6, 3) := by decide +kernel
theorem dX2_manySize_13 : decode cX2_manySize 13 = .ok (.getstatic 46, 3) := by decide +kernel
theorem dX2_manySize_16 : decode cX2_manySize 16 = .ok (.areturn, 1) := by decide +kernel
theorem dX2_storeDownward_0 : decode cX2_storeDownward 0 = .ok (.aload_n 0, 1) := by decide +kernel
theorem dX2_storeDownward_1 : decode cX2_storeDownward 1 = .ok (.getfield 9, 3) := by decide +kernel
theorem dX2_storeDownward_4 : decode cX2_storeDownward 4 = .ok (.iload_n 3, 1) := by decide +kernel
theorem dX2_storeDownward_5 : decode cX2_storeDownward 5 = .ok (.invokevirtual 124, 3) := by decide +kernel
theorem dX2_storeDownward_8 : decode cX2_storeDownward 8 = .ok (.istore 4, 2) := by decide +kernel
theorem dX2_storeDownward_10 : decode cX2_storeDownward 10 = .ok (.iconst 0, 1) := by decide +kernel
theorem dX2_storeDownward_11 : decode cX2_storeDownward 11 = .ok (.istore 5, 2) := by decide +kernel
theorem dX2_storeDownward_13 : decode cX2_storeDownward 13 = .ok (.iload 5, 2) := by decide +kernel
theorem dX2_storeDownward_15 : decode cX2_storeDownward 15 = .ok (.bipush 16, 2) := by decide +kernel
theorem dX2_storeDownward_17 : decode cX2_storeDownward 17 = .ok (.if_icmp .ge 49, 3) := by decide +kernel
theorem dX2_storeDownward_20 : decode cX2_storeDownward 20 = .ok (.iload_n 2, 1) := by decide +kernel
theorem dX2_storeDownward_21 : decode cX2_storeDownward 21 = .ok (.iload 5, 2) := by decide +kernel
theorem dX2_storeDownward_23 : decode cX2_storeDownward 23 = .ok (.iushr, 1) := by decide +kernel
theorem dX2_storeDownward_24 : decode cX2_storeDownward 24 = .ok (.iconst 1, 1) := by decide +kernel
theorem dX2_storeDownward_25 : decode cX2_storeDownward 25 = .ok (.iand, 1) := by decide +kernel
theorem dX2_storeDownward_26 : decode cX2_storeDownward 26 = .ok (.ifCond .eq 34, 3) := by decide +kernel
theorem dX2_storeDownward_29 : decode cX2_storeDownward 29 = .ok (.iload 4, 2) := by decide +kernel
theorem dX2_storeDownward_31 : decode cX2_storeDownward 31 = .ok (.aload_n 1, 1) := by decide +kernel
theorem dX2_storeDownward_32 : decode cX2_storeDownward 32 = .ok (.getfield 131, 3) := by decide +kernel
theorem dX2_storeDownward_35 : decode cX2_storeDownward 35 = .ok (.isub, 1) := by decide +kernel
theorem dX2_storeDownward_36 : decode cX2_storeDownward 36 = .ok (.istore 4, 2) := by decide +kernel
theorem dX2_storeDownward_38 : decode cX2_storeDownward 38 = .ok (.aload_n 0, 1) := by decide +kernel
theorem dX2_storeDownward_39 : decode cX2_storeDownward 39 = .ok (.getfield 15, 3) := by decide +kernel
theorem dX2_storeDownward_42 : decode cX2_storeDownward 42 = .ok (.aload_n 1, 1) := by decide +kernel
theorem dX2_storeDownward_43 : decode cX2_storeDownward 43 = .ok (.iload 4, 2) := by decide +kernel
theorem dX2_storeDownward_45 : decode cX2_storeDownward 45 = .ok (.aload_n 0, 1) := by decide +kernel
theorem dX2_storeDownward_46 : decode cX2_storeDownward 46 = .ok (.getfield 9, 3) := by decide +kernel
theorem dX2_storeDownward_49 : decode cX2_storeDownward 49 = .ok (.bipush 15, 2) := by decide +kernel
theorem dX2_storeDownward_51 : decode cX2_storeDownward 51 = .ok (.iload 5, 2) := by decide +kernel
theorem dX2_storeDownward_53 : decode cX2_storeDownward 53 = .ok (.isub, 1) := by decide +kernel
theorem dX2_storeDownward_54 : decode cX2_storeDownward 54 = .ok (.invokevirtual 124, 3) := by decide +kernel
theorem dX2_storeDownward_57 : decode cX2_storeDownward 57 = .ok (.invokevirtual 135, 3) := by decide +kernel
theorem dX2_storeDownward_60 : decode cX2_storeDownward 60 = .ok (.iinc 5 1, 3) := by decide +kernel
theorem dX2_storeDownward_63 : decode cX2_storeDownward 63 = .ok (.goto (-50), 3) := by decide +kernel
theorem dX2_storeDownward_66 : decode cX2_storeDownward 66 = .ok (.aload_n 0, 1) := by decide +kernel
theorem dX2_storeDownward_67 : decode cX2_storeDownward 67 = .ok (.getfield 9, 3) := by decide +kernel
theorem dX2_storeDownward_70 : decode cX2_storeDownward 70 = .ok (.iload_n 3, 1) := by decide +kernel
theorem dX2_storeDownward_71 : decode cX2_storeDownward 71 = .ok (.iload 4, 2) := by decide +kernel
theorem dX2_storeDownward_73 : decode cX2_storeDownward 73 = .ok (.invokevirtual 143, 3) := by decide +kernel
theorem dX2_storeDownward_76 : decode cX2_storeDownward 76 = .ok (.return_, 1) := by decide +kernel
theorem dX2_storeUpward_0 : decode cX2_storeUpward 0 = .ok (.iload_n 3, 1) := by decide +kernel
theorem dX2_storeUpward_1 : decode cX2_storeUpward 1 = .ok (.istore 4, 2) := by decide +kernel
theorem dX2_storeUpward_3 : decode cX2_storeUpward 3 = .ok (.iconst 0, 1) := by decide +kernel
theorem dX2_storeUpward_4 : decode cX2_storeUpward 4 = .ok (.istore 5, 2) := by decide +kernel
theorem dX2_storeUpward_6 : decode cX2_storeUpward 6 = .ok (.iload 5, 2) := by decide +kernel
theorem dX2_storeUpward_8 : decode cX2_storeUpward 8 = .ok (.bipush 16, 2) := by decide +kernel
theorem dX2_storeUpward_10 : decode cX2_storeUpward 10 = .ok (.if_icmp .ge 46, 3) := by decide +kernel
theorem dX2_storeUpward_13 : decode cX2_storeUpward 13 = .ok (.iload_n 2, 1) := by decide +kernel
theorem dX2_storeUpward_14 : decode cX2_storeUpward 14 = .ok (.iload 5, 2) := by decide +kernel
theorem dX2_storeUpward_16 : decode cX2_storeUpward 16 = .ok (.iushr, 1) := by decide +kernel
theorem dX2_storeUpward_17 : decode cX2_storeUpward 17 = .ok (.iconst 1, 1) := by decide +kernel
theorem dX2_storeUpward_18 : decode cX2_storeUpward 18 = .ok (.iand, 1) := by decide +kernel
theorem dX2_storeUpward_19 : decode cX2_storeUpward 19 = .ok (.ifCond .eq 31, 3) := by decide +kernel
theorem dX2_storeUpward_22 : decode cX2_storeUpward 22 = .ok (.aload_n 0, 1) := by decide +kernel
theorem dX2_storeUpward_23 : decode cX2_storeUpward 23 = .ok (.getfield 15, 3) := by decide +kernel
theorem dX2_storeUpward_26 : decode cX2_storeUpward 26 = .ok (.aload_n 1, 1) := by decide +kernel
theorem dX2_storeUpward_27 : decode cX2_storeUpward 27 = .ok (.iload 4, 2) := by decide +kernel
theorem dX2_storeUpward_29 : decode cX2_storeUpward 29 = .ok (.aload_n 0, 1) := by decide +kernel
theorem dX2_storeUpward_30 : decode cX2_storeUpward 30 = .ok (.getfield 9, 3) := by decide +kernel
theorem dX2_storeUpward_33 : decode cX2_storeUpward 33 = .ok (.iload 5, 2) := by decide +kernel
theorem dX2_storeUpward_35 : decode cX2_storeUpward 35 = .ok (.invokevirtual 124, 3) := by decide +kernel
theorem dX2_storeUpward_38 : decode cX2_storeUpward 38 = .ok (.invokevirtual 135, 3) := by decide +kernel
theorem dX2_storeUpward_41 : decode cX2_storeUpward 41 = .ok (.iload 4, 2) := by decide +kernel
theorem dX2_storeUpward_43 : decode cX2_storeUpward 43 = .ok (.aload_n 1, 1) := by decide +kernel
theorem dX2_storeUpward_44 : decode cX2_storeUpward 44 = .ok (.getfield 131, 3) := by decide +kernel
theorem dX2_storeUpward_47 : decode cX2_storeUpward 47 = .ok (.iadd, 1) := by decide +kernel
theorem dX2_storeUpward_48 : decode cX2_storeUpward 48 = .ok (.istore 4, 2) := by decide +kernel
theorem dX2_storeUpward_50 : decode cX2_storeUpward 50 = .ok (.iinc 5 1, 3) := by decide +kernel
theorem dX2_storeUpward_53 : decode cX2_storeUpward 53 = .ok (.goto (-47), 3) := by decide +kernel
theorem dX2_storeUpward_56 : decode cX2_storeUpward 56 = .ok (.return_, 1) := by decide +kernel
theorem dX2_loadMany_0 : decode cX2_loadMany 0 = .ok (.aload_n 0, 1) := by decide +kernel
theorem dX2_loadMany_1 : decode cX2_loadMany 1 = .ok (.sipush 2028, 3) := by decide +kernel
theorem dX2_loadMany_4 : decode cX2_loadMany 4 = .ok (.iload_n 1, 1) := by decide +kernel
theorem dX2_loadMany_5 : decode cX2_loadMany 5 = .ok (.invokestatic 95, 3) := by decide +kernel
theorem dX2_loadMany_8 : decode cX2_loadMany 8 = .ok (.invokevirtual 146, 3) := by decide +kernel
theorem dX2_loadMany_11 : decode cX2_loadMany 11 = .ok (.ifCond .eq 4, 3) := by decide +kernel
theorem dX2_loadMany_14 : decode cX2_loadMany 14 = .ok (.return_, 1) := by decide +kernel
theorem dX2_loadMany_15 : decode cX2_loadMany 15 = .ok (.iload_n 1, 1) := by decide +kernel
theorem dX2_loadMany_16 : decode cX2_loadMany 16 = .ok (.invokestatic 253, 3) := by decide +kernel
theorem dX2_loadMany_19 : decode cX2_loadMany 19 = .ok (.astore_n 2, 1) := by decide +kernel
theorem dX2_loadMany_20 : decode cX2_loadMany 20 = .ok (.aload_n 0, 1) := by decide +kernel
theorem dX2_loadMany_21 : decode cX2_loadMany 21 = .ok (.getfield 15, 3) := by decide +kernel
theorem dX2_loadMany_24 : decode cX2_loadMany 24 = .ok (.invokevirtual 127, 3) := by decide +kernel
theorem dX2_loadMany_27 : decode cX2_loadMany 27 = .ok (.istore_n 3, 1) := by decide +kernel
theorem dX2_loadMany_28 : decode cX2_loadMany 28 = .ok (.iload_n 1, 1) := by decide +kernel
theorem dX2_loadMany_29 : decode cX2_loadMany 29 = .ok (.invokestatic 95, 3) := by decide +kernel
theorem dX2_loadMany_32 : decode cX2_loadMany 32 = .ok (.iconst 3, 1) := by decide +kernel
theorem dX2_loadMany_33 : decode cX2_loadMany 33 = .ok (.iushr, 1) := by decide +kernel
theorem dX2_loadMany_34 : decode cX2_loadMany 34 = .ok (.iconst 3, 1) := by decide +kernel
theorem dX2_loadMany_35 : decode cX2_loadMany 35 = .ok (.if_icmp .ne 7, 3) := by decide +kernel
theorem dX2_loadMany_38 : decode cX2_loadMany 38 = .ok (.iconst 1, 1) := by decide +kernel
theorem dX2_loadMany_39 : decode cX2_loadMany 39 = .ok (.goto 4, 3) := by decide +kernel
theorem dX2_loadMany_42 : decode cX2_loadMany 42 = .ok (.iconst 0, 1) := by decide +kernel
theorem dX2_loadMany_43 : decode cX2_loadMany 43 = .ok (.istore 4, 2) := by decide +kernel
theorem dX2_loadMany_45 : decode cX2_loadMany 45 = .ok (.bipush 8, 2) := by decide +kernel
theorem dX2_loadMany_47 : decode cX2_loadMany 47 = .ok (.iload_n 1, 1) := by decide +kernel
theorem dX2_loadMany_48 : decode cX2_loadMany 48 = .ok (.invokestatic 121, 3) := by decide +kernel
theorem dX2_loadMany_51 : decode cX2_loadMany 51 = .ok (.iadd, 1) := by decide +kernel
theorem dX2_loadMany_52 : decode cX2_loadMany 52 = .ok (.istore 5, 2) := by decide +kernel
theorem dX2_loadMany_54 : decode cX2_loadMany 54 = .ok (.iload 4, 2) := by decide +kernel
theorem dX2_loadMany_56 : decode cX2_loadMany 56 = .ok (.ifCond .eq 15, 3) := by decide +kernel
theorem dX2_loadMany_59 : decode cX2_loadMany 59 = .ok (.aload_n 0, 1) := by decide +kernel
theorem dX2_loadMany_60 : decode cX2_loadMany 60 = .ok (.getfield 9, 3) := by decide +kernel
theorem dX2_loadMany_63 : decode cX2_loadMany 63 = .ok (.iload 5, 2) := by decide +kernel
theorem dX2_loadMany_65 : decode cX2_loadMany 65 = .ok (.invokevirtual 124, 3) := by decide +kernel
theorem dX2_loadMany_68 : decode cX2_loadMany 68 = .ok (.goto 16, 3) := by decide +kernel
theorem dX2_loadMany_71 : decode cX2_loadMany 71 = .ok (.aload_n 0, 1) := by decide +kernel
theorem dX2_loadMany_72 : decode cX2_loadMany 72 = .ok (.getfield 15, 3) := by decide +kernel
theorem dX2_loadMany_75 : decode cX2_loadMany 75 = .ok (.aload_n 2, 1) := by decide +kernel
theorem dX2_loadMany_76 : decode cX2_loadMany 76 = .ok (.iload_n 1, 1) := by decide +kernel
theorem dX2_loadMany_77 : decode cX2_loadMany 77 = .ok (.invokestatic 95, 3) := by decide +kernel
theorem dX2_loadMany_80 : decode cX2_loadMany 80 = .ok (.invokevirtual 150, 3) := by decide +kernel
theorem dX2_loadMany_83 : decode cX2_loadMany 83 = .ok (.l2i, 1) := by decide +kernel
theorem dX2_loadMany_84 : decode cX2_loadMany 84 = .ok (.istore 6, 2) := by decide +kernel
theorem dX2_loadMany_86 : decode cX2_loadMany 86 = .ok (.iconst 0, 1) := by decide +kernel
theorem dX2_loadMany_87 : decode cX2_loadMany 87 = .ok (.istore 7, 2) := by decide +kernel
theorem dX2_loadMany_89 : decode cX2_loadMany 89 = .ok (.iload 7, 2) := by decide +kernel
theorem dX2_loadMany_91 : decode cX2_loadMany 91 = .ok (.bipush 16, 2) := by decide +kernel
theorem dX2_loadMany_93 : decode cX2_loadMany 93 = .ok (.if_icmp .ge 50, 3) := by decide +kernel
theorem dX2_loadMany_96 : decode cX2_loadMany 96 = .ok (.iload_n 3, 1) := by decide +kernel
theorem dX2_loadMany_97 : decode cX2_loadMany 97 = .ok (.iload 7, 2) := by decide +kernel
theorem dX2_loadMany_99 : decode cX2_loadMany 99 = .ok (.iushr, 1) := by decide +kernel
theorem dX2_loadMany_100 : decode cX2_loadMany 100 = .ok (.iconst 1, 1) := by decide +kernel
theorem dX2_loadMany_101 : decode cX2_loadMany 101 = .ok (.iand, 1) := by decide +kernel
theorem dX2_loadMany_102 : decode cX2_loadMany 102 = .ok (.ifCond .eq 35, 3) := by decide +kernel
theorem dX2_loadMany_105 : decode cX2_loadMany 105 = .ok (.aload_n 0, 1) := by decide +kernel
theorem dX2_loadMany_106 : decode cX2_loadMany 106 = .ok (.getfield 9, 3) := by decide +kernel
theorem dX2_loadMany_109 : decode cX2_loadMany 109 = .ok (.iload 7, 2) := by decide +kernel
theorem dX2_loadMany_111 : decode cX2_loadMany 111 = .ok (.aload_n 2, 1) := by decide +kernel
theorem dX2_loadMany_112 : decode cX2_loadMany 112 = .ok (.aload_n 0, 1) := by decide +kernel
theorem dX2_loadMany_113 : decode cX2_loadMany 113 = .ok (.getfield 15, 3) := by decide +kernel
theorem dX2_loadMany_116 : decode cX2_loadMany 116 = .ok (.aload_n 2, 1) := by decide +kernel
theorem dX2_loadMany_117 : decode cX2_loadMany 117 = .ok (.iload 6, 2) := by decide +kernel
theorem dX2_loadMany_119 : decode cX2_loadMany 119 = .ok (.invokevirtual 139, 3) := by decide +kernel
theorem dX2_loadMany_122 : decode cX2_loadMany 122 = .ok (.invokevirtual 200, 3) := by decide +kernel
theorem dX2_loadMany_125 : decode cX2_loadMany 125 = .ok (.invokevirtual 143, 3) := by decide +kernel
theorem dX2_loadMany_128 : decode cX2_loadMany 128 = .ok (.iload 6, 2) := by decide +kernel
theorem dX2_loadMany_130 : decode cX2_loadMany 130 = .ok (.aload_n 2, 1) := by decide +kernel
theorem dX2_loadMany_131 : decode cX2_loadMany 131 = .ok (.getfield 131, 3) := by decide +kernel
theorem dX2_loadMany_134 : decode cX2_loadMany 134 = .ok (.iadd, 1) := by decide +kernel
theorem dX2_loadMany_135 : decode cX2_loadMany 135 = .ok (.istore 6, 2) := by decide +kernel
theorem dX2_loadMany_137 : decode cX2_loadMany 137 = .ok (.iinc 7 1, 3) := by decide +kernel
theorem dX2_loadMany_140 : decode cX2_loadMany 140 = .ok (.goto (-51), 3) := by decide +kernel
theorem dX2_loadMany_143 : decode cX2_loadMany 143 = .ok (.iload 4, 2) := by decide +kernel
theorem dX2_loadMany_145 : decode cX2_loadMany 145 = .ok (.ifCond .eq 14, 3) := by decide +kernel
theorem dX2_loadMany_148 : decode cX2_loadMany 148 = .ok (.aload_n 0, 1) := by decide +kernel
theorem dX2_loadMany_149 : decode cX2_loadMany 149 = .ok (.getfield 9, 3) := by decide +kernel
theorem dX2_loadMany_152 : decode cX2_loadMany 152 = .ok (.iload 5, 2) := by decide +kernel
theorem dX2_loadMany_154 : decode cX2_loadMany 154 = .ok (.iload 6, 2) := by decide +kernel
theorem dX2_loadMany_156 : decode cX2_loadMany 156 = .ok (.invokevirtual 143, 3) := by decide +kernel
theorem dX2_loadMany_159 : decode cX2_loadMany 159 = .ok (.return_, 1) := by decide +kernel
theorem dX2_testAndSet_0 : decode cX2_testAndSet 0 = .ok (.aload_n 0, 1) := by decide +kernel
theorem dX2_testAndSet_1 : decode cX2_testAndSet 1 = .ok (.sipush 509, 3) := by decide +kernel
theorem dX2_testAndSet_4 : decode cX2_testAndSet 4 = .ok (.iload_n 1, 1) := by decide +kernel
theorem dX2_testAndSet_5 : decode cX2_testAndSet 5 = .ok (.invokestatic 95, 3) := by decide +kernel
theorem dX2_testAndSet_8 : decode cX2_testAndSet 8 = .ok (.invokevirtual 146, 3) := by decide +kernel
theorem dX2_testAndSet_11 : decode cX2_testAndSet 11 = .ok (.ifCond .ne 58, 3) := by decide +kernel
theorem dX2_testAndSet_14 : decode cX2_testAndSet 14 = .ok (.aload_n 0, 1) := by decide +kernel
theorem dX2_testAndSet_15 : decode cX2_testAndSet 15 = .ok (.getfield 15, 3) := by decide +kernel
theorem dX2_testAndSet_18 : decode cX2_testAndSet 18 = .ok (.getstatic 36, 3) := by decide +kernel
theorem dX2_testAndSet_21 : decode cX2_testAndSet 21 = .ok (.iload_n 1, 1) := by decide +kernel
theorem dX2_testAndSet_22 : decode cX2_testAndSet 22 = .ok (.invokestatic 95, 3) := by decide +kernel
theorem dX2_testAndSet_25 : decode cX2_testAndSet 25 = .ok (.invokevirtual 150, 3) := by decide +kernel
theorem dX2_testAndSet_28 : decode cX2_testAndSet 28 = .ok (.lstore_n 2, 1) := by decide +kernel
theorem dX2_testAndSet_29 : decode cX2_testAndSet 29 = .ok (.aload_n 0, 1) := by decide +kernel
theorem dX2_testAndSet_30 : decode cX2_testAndSet 30 = .ok (.getfield 15, 3) := by decide +kernel
theorem dX2_testAndSet_33 : decode cX2_testAndSet 33 = .ok (.getstatic 36, 3) := by decide +kernel
theorem dX2_testAndSet_36 : decode cX2_testAndSet 36 = .ok (.lload_n 2, 1) := by decide +kernel
theorem dX2_testAndSet_37 : decode cX2_testAndSet 37 = .ok (.invokevirtual 154, 3) := by decide +kernel
theorem dX2_testAndSet_40 : decode cX2_testAndSet 40 = .ok (.istore 4, 2) := by decide +kernel
theorem dX2_testAndSet_42 : decode cX2_testAndSet 42 = .ok (.aload_n 0, 1) := by decide +kernel
theorem dX2_testAndSet_43 : decode cX2_testAndSet 43 = .ok (.getfield 15, 3) := by decide +kernel
theorem dX2_testAndSet_46 : decode cX2_testAndSet 46 = .ok (.getstatic 36, 3) := by decide +kernel
theorem dX2_testAndSet_49 : decode cX2_testAndSet 49 = .ok (.lload_n 2, 1) := by decide +kernel
theorem dX2_testAndSet_50 : decode cX2_testAndSet 50 = .ok (.aload_n 0, 1) := by decide +kernel
theorem dX2_testAndSet_51 : decode cX2_testAndSet 51 = .ok (.getfield 24, 3) := by decide +kernel
theorem dX2_testAndSet_54 : decode cX2_testAndSet 54 = .ok (.getstatic 36, 3) := by decide +kernel
theorem dX2_testAndSet_57 : decode cX2_testAndSet 57 = .ok (.iload 4, 2) := by decide +kernel
theorem dX2_testAndSet_59 : decode cX2_testAndSet 59 = .ok (.invokevirtual 203, 3) := by decide +kernel
theorem dX2_testAndSet_62 : decode cX2_testAndSet 62 = .ok (.sipush 128, 3) := by decide +kernel
theorem dX2_testAndSet_65 : decode cX2_testAndSet 65 = .ok (.ior, 1) := by decide +kernel
theorem dX2_testAndSet_66 : decode cX2_testAndSet 66 = .ok (.invokevirtual 161, 3) := by decide +kernel
theorem dX2_testAndSet_69 : decode cX2_testAndSet 69 = .ok (.return_, 1) := by decide +kernel
theorem dX2_special_0 : decode cX2_special 0 = .ok (.bipush 8, 2) := by decide +kernel
theorem dX2_special_2 : decode cX2_special 2 = .ok (.iload_n 1, 1) := by decide +kernel
theorem dX2_special_3 : decode cX2_special 3 = .ok (.invokestatic 121, 3) := by decide +kernel
theorem dX2_special_6 : decode cX2_special 6 = .ok (.iadd, 1) := by decide +kernel
theorem dX2_special_7 : decode cX2_special 7 = .ok (.istore_n 2, 1) := by decide +kernel
theorem dX2_special_8 : decode cX2_special 8 = .ok (.iload_n 1, 1) := by decide +kernel
theorem dX2_special_9 : decode cX2_special 9 = .ok (.iconst 3, 1) := by decide +kernel
theorem dX2_special_10 : decode cX2_special 10 = .ok (.iushr, 1) := by decide +kernel
theorem dX2_special_11 : decode cX2_special 11 = .ok (.bipush 7, 2) := by decide +kernel
theorem dX2_special_13 : decode cX2_special 13 = .ok (.iand, 1) := by decide +kernel
theorem dX2_special_14 : decode cX2_special 14 = .ok (.tableswitch 138 0 6 #[42, 42, 59, 67, 75, 101, 127], 42) := by decide +kernel
theorem dX2_special_56 : decode cX2_special 56 = .ok (.aload_n 0, 1) := by decide +kernel
theorem dX2_special_57 : decode cX2_special 57 = .ok (.getfield 15, 3) := by decide +kernel
theorem dX2_special_60 : decode cX2_special 60 = .ok (.bipush 32, 2) := by decide +kernel
theorem dX2_special_62 : decode cX2_special 62 = .ok (.iload_n 1, 1) := by decide +kernel
theorem dX2_special_63 : decode cX2_special 63 = .ok (.bipush 15, 2) := by decide +kernel
theorem dX2_special_65 : decode cX2_special 65 = .ok (.iand, 1) := by decide +kernel
theorem dX2_special_66 : decode cX2_special 66 = .ok (.iadd, 1) := by decide +kernel
theorem dX2_special_67 : decode cX2_special 67 = .ok (.invokevirtual 71, 3) := by decide +kernel
theorem dX2_special_70 : decode cX2_special 70 = .ok (.goto 86, 3) := by decide +kernel
theorem dX2_special_73 : decode cX2_special 73 = .ok (.aload_n 0, 1) := by decide +kernel
theorem dX2_special_74 : decode cX2_special 74 = .ok (.iload_n 2, 1) := by decide +kernel
theorem dX2_special_75 : decode cX2_special 75 = .ok (.invokevirtual 266, 3) := by decide +kernel
theorem dX2_special_78 : decode cX2_special 78 = .ok (.goto 78, 3) := by decide +kernel
theorem dX2_special_81 : decode cX2_special 81 = .ok (.aload_n 0, 1) := by decide +kernel
theorem dX2_special_82 : decode cX2_special 82 = .ok (.iload_n 2, 1) := by decide +kernel
theorem dX2_special_83 : decode cX2_special 83 = .ok (.invokevirtual 269, 3) := by decide +kernel
theorem dX2_special_86 : decode cX2_special 86 = .ok (.goto 70, 3) := by decide +kernel
theorem dX2_special_89 : decode cX2_special 89 = .ok (.aload_n 0, 1) := by decide +kernel
theorem dX2_special_90 : decode cX2_special 90 = .ok (.invokevirtual 165, 3) := by decide +kernel
theorem dX2_special_93 : decode cX2_special 93 = .ok (.ifCond .eq 63, 3) := by decide +kernel
theorem dX2_special_96 : decode cX2_special 96 = .ok (.aload_n 0, 1) := by decide +kernel
theorem dX2_special_97 : decode cX2_special 97 = .ok (.getfield 9, 3) := by decide +kernel
theorem dX2_special_100 : decode cX2_special 100 = .ok (.iconst 0, 1) := by decide +kernel
theorem dX2_special_101 : decode cX2_special 101 = .ok (.aload_n 0, 1) := by decide +kernel
theorem dX2_special_102 : decode cX2_special 102 = .ok (.getfield 9, 3) := by decide +kernel
theorem dX2_special_105 : decode cX2_special 105 = .ok (.iload_n 2, 1) := by decide +kernel
theorem dX2_special_106 : decode cX2_special 106 = .ok (.invokevirtual 124, 3) := by decide +kernel
theorem dX2_special_109 : decode cX2_special 109 = .ok (.invokevirtual 272, 3) := by decide +kernel
theorem dX2_special_112 : decode cX2_special 112 = .ok (.goto 44, 3) := by decide +kernel
theorem dX2_special_115 : decode cX2_special 115 = .ok (.aload_n 0, 1) := by decide +kernel
theorem dX2_special_116 : decode cX2_special 116 = .ok (.invokevirtual 165, 3) := by decide +kernel
theorem dX2_special_119 : decode cX2_special 119 = .ok (.ifCond .eq 37, 3) := by decide +kernel
theorem dX2_special_122 : decode cX2_special 122 = .ok (.aload_n 0, 1) := by decide +kernel
theorem dX2_special_123 : decode cX2_special 123 = .ok (.getfield 9, 3) := by decide +kernel
theorem dX2_special_126 : decode cX2_special 126 = .ok (.iload_n 2, 1) := by decide +kernel
theorem dX2_special_127 : decode cX2_special 127 = .ok (.aload_n 0, 1) := by decide +kernel
theorem dX2_special_128 : decode cX2_special 128 = .ok (.getfield 9, 3) := by decide +kernel
theorem dX2_special_131 : decode cX2_special 131 = .ok (.iconst 0, 1) := by decide +kernel
theorem dX2_special_132 : decode cX2_special 132 = .ok (.invokevirtual 275, 3) := by decide +kernel
theorem dX2_special_135 : decode cX2_special 135 = .ok (.invokevirtual 143, 3) := by decide +kernel
theorem dX2_special_138 : decode cX2_special 138 = .ok (.goto 18, 3) := by decide +kernel
theorem dX2_special_141 : decode cX2_special 141 = .ok (.aload_n 0, 1) := by decide +kernel
theorem dX2_special_142 : decode cX2_special 142 = .ok (.iload_n 1, 1) := by decide +kernel
theorem dX2_special_143 : decode cX2_special 143 = .ok (.invokestatic 121, 3) := by decide +kernel
theorem dX2_special_146 : decode cX2_special 146 = .ok (.invokevirtual 278, 3) := by decide +kernel
theorem dX2_special_149 : decode cX2_special 149 = .ok (.goto 7, 3) := by decide +kernel
theorem dX2_special_152 : decode cX2_special 152 = .ok (.aload_n 0, 1) := by decide +kernel
theorem dX2_special_153 : decode cX2_special 153 = .ok (.invokevirtual 178, 3) := by decide +kernel
theorem dX2_special_156 : decode cX2_special 156 = .ok (.return_, 1) := by decide +kernel
theorem dX2_link_0 : decode cX2_link 0 = .ok (.aload_n 0, 1) := by decide +kernel
theorem dX2_link_1 : decode cX2_link 1 = .ok (.getfield 15, 3) := by decide +kernel
theorem dX2_link_4 : decode cX2_link 4 = .ok (.invokevirtual 127, 3) := by decide +kernel
theorem dX2_link_7 : decode cX2_link 7 = .ok (.i2s, 1) := by decide +kernel
theorem dX2_link_8 : decode cX2_link 8 = .ok (.istore_n 2, 1) := by decide +kernel
theorem dX2_link_9 : decode cX2_link 9 = .ok (.aload_n 0, 1) := by decide +kernel
theorem dX2_link_10 : decode cX2_link 10 = .ok (.getfield 15, 3) := by decide +kernel
theorem dX2_link_13 : decode cX2_link 13 = .ok (.getstatic 46, 3) := by decide +kernel
theorem dX2_link_16 : decode cX2_link 16 = .ok (.aload_n 0, 1) := by decide +kernel
theorem dX2_link_17 : decode cX2_link 17 = .ok (.getfield 9, 3) := by decide +kernel
theorem dX2_link_20 : decode cX2_link 20 = .ok (.iload_n 1, 1) := by decide +kernel
theorem dX2_link_21 : decode cX2_link 21 = .ok (.invokevirtual 124, 3) := by decide +kernel
theorem dX2_link_24 : decode cX2_link 24 = .ok (.invokevirtual 249, 3) := by decide +kernel
theorem dX2_link_27 : decode cX2_link 27 = .ok (.aload_n 0, 1) := by decide +kernel
theorem dX2_link_28 : decode cX2_link 28 = .ok (.getfield 9, 3) := by decide +kernel
theorem dX2_link_31 : decode cX2_link 31 = .ok (.iload_n 1, 1) := by decide +kernel
theorem dX2_link_32 : decode cX2_link 32 = .ok (.aload_n 0, 1) := by decide +kernel
theorem dX2_link_33 : decode cX2_link 33 = .ok (.getfield 9, 3) := by decide +kernel
theorem dX2_link_36 : decode cX2_link 36 = .ok (.bipush 15, 2) := by decide +kernel
theorem dX2_link_38 : decode cX2_link 38 = .ok (.invokevirtual 124, 3) := by decide +kernel
theorem dX2_link_41 : decode cX2_link 41 = .ok (.invokevirtual 143, 3) := by decide +kernel
theorem dX2_link_44 : decode cX2_link 44 = .ok (.aload_n 0, 1) := by decide +kernel
theorem dX2_link_45 : decode cX2_link 45 = .ok (.getfield 9, 3) := by decide +kernel
theorem dX2_link_48 : decode cX2_link 48 = .ok (.bipush 15, 2) := by decide +kernel
theorem dX2_link_50 : decode cX2_link 50 = .ok (.aload_n 0, 1) := by decide +kernel
theorem dX2_link_51 : decode cX2_link 51 = .ok (.getfield 9, 3) := by decide +kernel
theorem dX2_link_54 : decode cX2_link 54 = .ok (.bipush 15, 2) := by decide +kernel
theorem dX2_link_56 : decode cX2_link 56 = .ok (.invokevirtual 124, 3) := by decide +kernel
theorem dX2_link_59 : decode cX2_link 59 = .ok (.iload_n 2, 1) := by decide +kernel
theorem dX2_link_60 : decode cX2_link 60 = .ok (.iadd, 1) := by decide +kernel
theorem dX2_link_61 : decode cX2_link 61 = .ok (.invokevirtual 143, 3) := by decide +kernel
theorem dX2_link_64 : decode cX2_link 64 = .ok (.return_, 1) := by decide +kernel
theorem dX2_unlink_0 : decode cX2_unlink 0 = .ok (.aload_n 0, 1) := by decide +kernel
theorem dX2_unlink_1 : decode cX2_unlink 1 = .ok (.getfield 9, 3) := by decide +kernel
theorem dX2_unlink_4 : decode cX2_unlink 4 = .ok (.bipush 15, 2) := by decide +kernel
theorem dX2_unlink_6 : decode cX2_unlink 6 = .ok (.aload_n 0, 1) := by decide +kernel
theorem dX2_unlink_7 : decode cX2_unlink 7 = .ok (.getfield 9, 3) := by decide +kernel
theorem dX2_unlink_10 : decode cX2_unlink 10 = .ok (.iload_n 1, 1) := by decide +kernel
theorem dX2_unlink_11 : decode cX2_unlink 11 = .ok (.invokevirtual 124, 3) := by decide +kernel
theorem dX2_unlink_14 : decode cX2_unlink 14 = .ok (.invokevirtual 143, 3) := by decide +kernel
theorem dX2_unlink_17 : decode cX2_unlink 17 = .ok (.aload_n 0, 1) := by decide +kernel
theorem dX2_unlink_18 : decode cX2_unlink 18 = .ok (.getfield 9, 3) := by decide +kernel
theorem dX2_unlink_21 : decode cX2_unlink 21 = .ok (.iload_n 1, 1) := by decide +kernel
theorem dX2_unlink_22 : decode cX2_unlink 22 = .ok (.aload_n 0, 1) := by decide +kernel
theorem dX2_unlink_23 : decode cX2_unlink 23 = .ok (.getfield 15, 3) := by decide +kernel
theorem dX2_unlink_26 : decode cX2_unlink 26 = .ok (.getstatic 46, 3) := by decide +kernel
theorem dX2_unlink_29 : decode cX2_unlink 29 = .ok (.invokevirtual 281, 3) := by decide +kernel
theorem dX2_unlink_32 : decode cX2_unlink 32 = .ok (.invokevirtual 143, 3) := by decide +kernel
theorem dX2_unlink_35 : decode cX2_unlink 35 = .ok (.return_, 1) := by decide +kernel
theorem dX2_alone_0 : decode cX2_alone 0 = .ok (.iload_n 1, 1) := by decide +kernel
theorem dX2_alone_1 : decode cX2_alone 1 = .ok (.tableswitch 213 0 7 #[47, 55, 58, 87, 213, 133, 153, 176], 47) := by decide +kernel
theorem dX2_alone_48 : decode cX2_alone 48 = .ok (.aload_n 0, 1) := by decide +kernel
theorem dX2_alone_49 : decode cX2_alone 49 = .ok (.invokevirtual 165, 3) := by decide +kernel
theorem dX2_alone_52 : decode cX2_alone 52 = .ok (.pop, 1) := by decide +kernel
theorem dX2_alone_53 : decode cX2_alone 53 = .ok (.goto 165, 3) := by decide +kernel
theorem dX2_alone_56 : decode cX2_alone 56 = .ok (.goto 162, 3) := by decide +kernel
theorem dX2_alone_59 : decode cX2_alone 59 = .ok (.aload_n 0, 1) := by decide +kernel
theorem dX2_alone_60 : decode cX2_alone 60 = .ok (.invokevirtual 165, 3) := by decide +kernel
theorem dX2_alone_63 : decode cX2_alone 63 = .ok (.ifCond .eq 155, 3) := by decide +kernel
theorem dX2_alone_66 : decode cX2_alone 66 = .ok (.aload_n 0, 1) := by decide +kernel
theorem dX2_alone_67 : decode cX2_alone 67 = .ok (.getfield 9, 3) := by decide +kernel
theorem dX2_alone_70 : decode cX2_alone 70 = .ok (.aload_n 0, 1) := by decide +kernel
theorem dX2_alone_71 : decode cX2_alone 71 = .ok (.getfield 15, 3) := by decide +kernel
theorem dX2_alone_74 : decode cX2_alone 74 = .ok (.invokevirtual 127, 3) := by decide +kernel
theorem dX2_alone_77 : decode cX2_alone 77 = .ok (.invokevirtual 172, 3) := by decide +kernel
theorem dX2_alone_80 : decode cX2_alone 80 = .ok (.aload_n 0, 1) := by decide +kernel
theorem dX2_alone_81 : decode cX2_alone 81 = .ok (.iconst 1, 1) := by decide +kernel
theorem dX2_alone_82 : decode cX2_alone 82 = .ok (.putfield 28, 3) := by decide +kernel
theorem dX2_alone_85 : decode cX2_alone 85 = .ok (.goto 133, 3) := by decide +kernel
theorem dX2_alone_88 : decode cX2_alone 88 = .ok (.aload_n 0, 1) := by decide +kernel
theorem dX2_alone_89 : decode cX2_alone 89 = .ok (.invokevirtual 165, 3) := by decide +kernel
theorem dX2_alone_92 : decode cX2_alone 92 = .ok (.ifCond .eq 126, 3) := by decide +kernel
theorem dX2_alone_95 : decode cX2_alone 95 = .ok (.aload_n 0, 1) := by decide +kernel
theorem dX2_alone_96 : decode cX2_alone 96 = .ok (.getfield 15, 3) := by decide +kernel
theorem dX2_alone_99 : decode cX2_alone 99 = .ok (.getstatic 49, 3) := by decide +kernel
theorem dX2_alone_102 : decode cX2_alone 102 = .ok (.invokevirtual 281, 3) := by decide +kernel
theorem dX2_alone_105 : decode cX2_alone 105 = .ok (.istore_n 2, 1) := by decide +kernel
theorem dX2_alone_106 : decode cX2_alone 106 = .ok (.aload_n 0, 1) := by decide +kernel
theorem dX2_alone_107 : decode cX2_alone 107 = .ok (.getfield 9, 3) := by decide +kernel
theorem dX2_alone_110 : decode cX2_alone 110 = .ok (.aload_n 0, 1) := by decide +kernel
theorem dX2_alone_111 : decode cX2_alone 111 = .ok (.getfield 15, 3) := by decide +kernel
theorem dX2_alone_114 : decode cX2_alone 114 = .ok (.getstatic 46, 3) := by decide +kernel
theorem dX2_alone_117 : decode cX2_alone 117 = .ok (.invokevirtual 281, 3) := by decide +kernel
theorem dX2_alone_120 : decode cX2_alone 120 = .ok (.putfield 284, 3) := by decide +kernel
theorem dX2_alone_123 : decode cX2_alone 123 = .ok (.aload_n 0, 1) := by decide +kernel
theorem dX2_alone_124 : decode cX2_alone 124 = .ok (.getfield 9, 3) := by decide +kernel
theorem dX2_alone_127 : decode cX2_alone 127 = .ok (.iload_n 2, 1) := by decide +kernel
theorem dX2_alone_128 : decode cX2_alone 128 = .ok (.invokevirtual 172, 3) := by decide +kernel
theorem dX2_alone_131 : decode cX2_alone 131 = .ok (.goto 87, 3) := by decide +kernel
theorem dX2_alone_134 : decode cX2_alone 134 = .ok (.aload_n 0, 1) := by decide +kernel
theorem dX2_alone_135 : decode cX2_alone 135 = .ok (.getfield 9, 3) := by decide +kernel
theorem dX2_alone_138 : decode cX2_alone 138 = .ok (.aload_n 0, 1) := by decide +kernel
theorem dX2_alone_139 : decode cX2_alone 139 = .ok (.getfield 15, 3) := by decide +kernel
theorem dX2_alone_142 : decode cX2_alone 142 = .ok (.getstatic 46, 3) := by decide +kernel
theorem dX2_alone_145 : decode cX2_alone 145 = .ok (.invokevirtual 281, 3) := by decide +kernel
theorem dX2_alone_148 : decode cX2_alone 148 = .ok (.putfield 284, 3) := by decide +kernel
theorem dX2_alone_151 : decode cX2_alone 151 = .ok (.goto 67, 3) := by decide +kernel
theorem dX2_alone_154 : decode cX2_alone 154 = .ok (.aload_n 0, 1) := by decide +kernel
theorem dX2_alone_155 : decode cX2_alone 155 = .ok (.getfield 9, 3) := by decide +kernel
theorem dX2_alone_158 : decode cX2_alone 158 = .ok (.iconst 2, 1) := by decide +kernel
theorem dX2_alone_159 : decode cX2_alone 159 = .ok (.invokevirtual 89, 3) := by decide +kernel
theorem dX2_alone_162 : decode cX2_alone 162 = .ok (.ifCond .eq 56, 3) := by decide +kernel
theorem dX2_alone_165 : decode cX2_alone 165 = .ok (.aload_n 0, 1) := by decide +kernel
theorem dX2_alone_166 : decode cX2_alone 166 = .ok (.getfield 15, 3) := by decide +kernel
theorem dX2_alone_169 : decode cX2_alone 169 = .ok (.bipush 7, 2) := by decide +kernel
theorem dX2_alone_171 : decode cX2_alone 171 = .ok (.invokevirtual 71, 3) := by decide +kernel
theorem dX2_alone_174 : decode cX2_alone 174 = .ok (.goto 44, 3) := by decide +kernel
theorem dX2_alone_177 : decode cX2_alone 177 = .ok (.aload_n 0, 1) := by decide +kernel
theorem dX2_alone_178 : decode cX2_alone 178 = .ok (.getfield 9, 3) := by decide +kernel
theorem dX2_alone_181 : decode cX2_alone 181 = .ok (.aload_n 0, 1) := by decide +kernel
theorem dX2_alone_182 : decode cX2_alone 182 = .ok (.getfield 15, 3) := by decide +kernel
theorem dX2_alone_185 : decode cX2_alone 185 = .ok (.getstatic 49, 3) := by decide +kernel
theorem dX2_alone_188 : decode cX2_alone 188 = .ok (.invokevirtual 281, 3) := by decide +kernel
theorem dX2_alone_191 : decode cX2_alone 191 = .ok (.invokevirtual 175, 3) := by decide +kernel
theorem dX2_alone_194 : decode cX2_alone 194 = .ok (.aload_n 0, 1) := by decide +kernel
theorem dX2_alone_195 : decode cX2_alone 195 = .ok (.getfield 9, 3) := by decide +kernel
theorem dX2_alone_198 : decode cX2_alone 198 = .ok (.aload_n 0, 1) := by decide +kernel
theorem dX2_alone_199 : decode cX2_alone 199 = .ok (.getfield 15, 3) := by decide +kernel
theorem dX2_alone_202 : decode cX2_alone 202 = .ok (.getstatic 46, 3) := by decide +kernel
theorem dX2_alone_205 : decode cX2_alone 205 = .ok (.invokevirtual 281, 3) := by decide +kernel
theorem dX2_alone_208 : decode cX2_alone 208 = .ok (.putfield 284, 3) := by decide +kernel
theorem dX2_alone_211 : decode cX2_alone 211 = .ok (.goto 7, 3) := by decide +kernel
theorem dX2_alone_214 : decode cX2_alone 214 = .ok (.aload_n 0, 1) := by decide +kernel
theorem dX2_alone_215 : decode cX2_alone 215 = .ok (.invokevirtual 178, 3) := by decide +kernel
theorem dX2_alone_218 : decode cX2_alone 218 = .ok (.return_, 1) := by decide +kernel
theorem dX2_jump_0 : decode cX2_jump 0 = .ok (.aload_n 0, 1) := by decide +kernel
theorem dX2_jump_1 : decode cX2_jump 1 = .ok (.sipush 2020, 3) := by decide +kernel
theorem dX2_jump_4 : decode cX2_jump 4 = .ok (.iload_n 1, 1) := by decide +kernel
theorem dX2_jump_5 : decode cX2_jump 5 = .ok (.invokestatic 95, 3) := by decide +kernel
theorem dX2_jump_8 : decode cX2_jump 8 = .ok (.invokevirtual 146, 3) := by decide +kernel
theorem dX2_jump_11 : decode cX2_jump 11 = .ok (.ifCond .eq 4, 3) := by decide +kernel
theorem dX2_jump_14 : decode cX2_jump 14 = .ok (.return_, 1) := by decide +kernel
theorem dX2_jump_15 : decode cX2_jump 15 = .ok (.aload_n 0, 1) := by decide +kernel
theorem dX2_jump_16 : decode cX2_jump 16 = .ok (.getfield 15, 3) := by decide +kernel
theorem dX2_jump_19 : decode cX2_jump 19 = .ok (.getstatic 46, 3) := by decide +kernel
theorem dX2_jump_22 : decode cX2_jump 22 = .ok (.iload_n 1, 1) := by decide +kernel
